def wo_m248_X3_note : List Cond := [Cond.fieldLink RX3 23 "WarpDesk$Past" "next" "I", Cond.fieldLink RX3 9 "WarpDesk$Past" "kinds" "[I", Cond.fieldLink RX3 13 "WarpDesk$Past" "firsts" "[I", Cond.fieldLink RX3 16 "WarpDesk$Past" "seconds" "[I", Cond.fieldLink RX3 19 "WarpDesk$Past" "size" "I", Cond.methodLink RX3 26 Lib.Math.min.name, Cond.static Lib.Math.min.name, Cond.initialized "java/lang/Math", Cond.code Lib.Math.min.name Lib.Math.min.code 2 (some .int)]
def wz_m248_X3_note : List Cond := .code yX3_note cX3_note 4 none :: (wo_m248_X3_note ++ (wsX30 ++ ([] : List Cond)))
theorem zg_m248_X3_note : ∀ w ∈ wz_m248_X3_note, goodWord w = true := zg_cons rfl (zg_app (by decide +kernel) (zg_app zgU_wsX30 zg_nil))
theorem zi_m248_X3_note : ∀ w ∈ wz_m248_X3_note, w ∈ lw_tbl := zi_cons zw_827 (zi_app (zi_cons zw_305 (zi_cons zw_302 (zi_cons zw_303 (zi_cons zw_304 (zi_cons zw_306 (zi_cons zw_828 (zi_cons zw_829 (zi_cons zw_120 (zi_cons zw_830 zi_nil))))))))) (zi_app inX3 zi_nil))
set_option maxHeartbeats 4000000 in
set_option maxRecDepth 100000 in
theorem m248_X3_note (l : Launch) (D : va_G) (zt : Nat × Nat × Nat) (d : Nat → ClassId) (q : Nat → Nat) : GM l D zt (tyX d) yX3_note wz_m248_X3_note ({ frames := 1, cells := 0, slots := 0, locals := 14 } : Room) [.ref (q 20), .int 0, .int 0, .int 0] (wX q d (upd iX0 18 1) (up3 aX0 7 0 (-1000))) (fun v _ w' => v = none ∧ w' = wX q d (upd (upd (upd iX0 18 1) 20 1) 21 1) (up3 aX0 7 0 (-1000))) 0 0 := by
  refine GM.of (cc := cX3_note) (maxL := 4) (ret := none) (own := RX3) (lv := [(0, .ref (q 20)), (1, .int 0), (2, .int 0), (3, .int 0)]) (by decide) rfl rfl (Nat.le_of_ble_eq_true rfl) rfl (fun κ sz hk hR hN => ?_)
  have hin3 : ∀ w ∈ u_ws RX3 TX3 5, w ∈ wz_m248_X3_note := fun w h => (List.mem_cons_of_mem _ (List.mem_append_right _ (List.mem_append_left _ h)))
  refine g_aload_n hk dX3_note_0 rfl ?_
  refine gX_i20 (v := 0) hk hin3 (List.mem_cons_of_mem _ (List.mem_append_left _ (List.mem_of_getElem? (i := 0) rfl))) dX3_note_1 rfl ?_
  refine g_if_lt (tgt := 16) (a := 0) hk dX3_note_4 (by decide) rfl (fun z9 => absurd z9 (show ¬ ((0 : Int) < (0 : Int)) from by decide)) (fun _ => ?_)
  refine g_aload_n hk dX3_note_7 rfl ?_
  refine gX_i20 (v := 0) hk hin3 (List.mem_cons_of_mem _ (List.mem_append_left _ (List.mem_of_getElem? (i := 0) rfl))) dX3_note_8 rfl ?_
  refine g_bipush (v := 40) hk dX3_note_11 (by decide) ?_
  refine g_icmp_lt (tgt := 17) (a := 0) (b := 40) hk dX3_note_13 (by decide) rfl rfl (fun _ => ?_) (fun z9 => absurd (show (0 : Int) < (40 : Int) from by decide) z9)
  refine g_aload_n hk dX3_note_17 rfl ?_
  refine gX_r20_0 hk hin3 (List.mem_cons_of_mem _ (List.mem_append_left _ (List.mem_of_getElem? (i := 1) rfl))) dX3_note_18 ?_
  refine g_aload_n hk dX3_note_21 rfl ?_
  refine gX_i20 (v := 0) hk hin3 (List.mem_cons_of_mem _ (List.mem_append_left _ (List.mem_of_getElem? (i := 0) rfl))) dX3_note_22 rfl ?_
  refine g_iload_n hk dX3_note_25 rfl ?_
  refine sX_11 (j := 0) hk (vp_in_iff.mpr ⟨by decide, by decide⟩) (by decide) dX3_note_26 ?_
  refine gX_same rfl ?_
  refine g_aload_n hk dX3_note_27 rfl ?_
  refine gX_r20_1 hk hin3 (List.mem_cons_of_mem _ (List.mem_append_left _ (List.mem_of_getElem? (i := 2) rfl))) dX3_note_28 ?_
  refine g_aload_n hk dX3_note_31 rfl ?_
  refine gX_i20 (v := 0) hk hin3 (List.mem_cons_of_mem _ (List.mem_append_left _ (List.mem_of_getElem? (i := 0) rfl))) dX3_note_32 rfl ?_
  refine g_iload_n hk dX3_note_35 rfl ?_
  refine sX_12 (j := 0) hk (vp_in_iff.mpr ⟨by decide, by decide⟩) (by decide) dX3_note_36 ?_
  refine gX_same rfl ?_
  refine g_aload_n hk dX3_note_37 rfl ?_
  refine gX_r20_2 hk hin3 (List.mem_cons_of_mem _ (List.mem_append_left _ (List.mem_of_getElem? (i := 3) rfl))) dX3_note_38 ?_
  refine g_aload_n hk dX3_note_41 rfl ?_
  refine gX_i20 (v := 0) hk hin3 (List.mem_cons_of_mem _ (List.mem_append_left _ (List.mem_of_getElem? (i := 0) rfl))) dX3_note_42 rfl ?_
  refine g_iload_n hk dX3_note_45 rfl ?_
  refine sX_13 (j := 0) hk (vp_in_iff.mpr ⟨by decide, by decide⟩) (by decide) dX3_note_46 ?_
  refine gX_same rfl ?_
  refine g_aload_n hk dX3_note_47 rfl ?_
  refine g_aload_n hk dX3_note_48 rfl ?_
  refine gX_i20 (v := 0) hk hin3 (List.mem_cons_of_mem _ (List.mem_append_left _ (List.mem_of_getElem? (i := 0) rfl))) dX3_note_49 rfl ?_
  refine g_bipush (v := 39) hk dX3_note_52 (by decide) ?_
  refine g_icmp_ne (tgt := 61) (a := 0) (b := 39) hk dX3_note_54 (by decide) rfl rfl (fun _ => ?_) (fun z9 => absurd (show (0 : Int) ≠ (39 : Int) from by decide) z9)
  refine g_aload_n hk dX3_note_61 rfl ?_
  refine gX_i20 (v := 0) hk hin3 (List.mem_cons_of_mem _ (List.mem_append_left _ (List.mem_of_getElem? (i := 0) rfl))) dX3_note_62 rfl ?_
  refine g_iconst (v := 1) hk dX3_note_65 (by decide) ?_
  refine g_iadd hk dX3_note_66 ?_
  refine g_norm (v := 1) (by decide) ?_
  refine pX_i20 hk hin3 (List.mem_cons_of_mem _ (List.mem_append_left _ (List.mem_of_getElem? (i := 0) rfl))) dX3_note_67 ?_
  refine g_aload_n hk dX3_note_70 rfl ?_
  refine g_aload_n hk dX3_note_71 rfl ?_
  refine gX_i21 (v := 0) hk hin3 (List.mem_cons_of_mem _ (List.mem_append_left _ (List.mem_of_getElem? (i := 4) rfl))) dX3_note_72 rfl ?_
  refine g_iconst (v := 1) hk dX3_note_75 (by decide) ?_
  refine g_iadd hk dX3_note_76 ?_
  refine g_norm (v := 1) (by decide) ?_
  refine g_bipush (v := 40) hk dX3_note_77 (by decide) ?_
  refine g_mmin hk (List.mem_cons_of_mem _ (List.mem_append_left _ (List.mem_of_getElem? (i := 5) rfl))) (List.mem_cons_of_mem _ (List.mem_append_left _ (List.mem_of_getElem? (i := 6) rfl))) (List.mem_cons_of_mem _ (List.mem_append_left _ (List.mem_of_getElem? (i := 7) rfl))) (List.mem_cons_of_mem _ (List.mem_append_left _ (List.mem_of_getElem? (i := 8) rfl))) (Nat.le_of_ble_eq_true rfl) (Nat.le_of_ble_eq_true rfl) (Nat.le_of_ble_eq_true rfl) (Nat.le_of_ble_eq_true rfl) dX3_note_79 ?_
  refine g_norm (v := 1) (by decide) ?_
  refine pX_i21 hk hin3 (List.mem_cons_of_mem _ (List.mem_append_left _ (List.mem_of_getElem? (i := 4) rfl))) dX3_note_82 ?_
  exact g_vret hk hR ⟨rfl, rfl⟩ dX3_note_85
def wo_m246_X11_appendPlace : List Cond := [Cond.fieldLink RX11 28 "WarpDesk" "series" "LWarpDesk$Series;", Cond.methodLink RX11 130 yX6_append, Cond.instanceMethod yX6_append, Cond.selects RX6 yX6_append yX6_append, Cond.initialized RX6, Cond.fieldLink RX11 49 "WarpDesk" "past" "LWarpDesk$Past;", Cond.methodLink RX11 134 yX3_note, Cond.instanceMethod yX3_note, Cond.selects RX3 yX3_note yX3_note, Cond.initialized RX3, Cond.fieldLink RX11 138 "WarpDesk$Series" "size" "I"]
def wz_m246_X11_appendPlace : List Cond := .code yX11_appendPlace cX11_appendPlace 2 (some .int) :: (wo_m246_X11_appendPlace ++ (wsX60 ++ (wsX110 ++ (wz_m247_X6_append ++ (wz_m248_X3_note ++ ([] : List Cond))))))
theorem zg_m246_X11_appendPlace : ∀ w ∈ wz_m246_X11_appendPlace, goodWord w = true := zg_cons rfl (zg_app (by decide +kernel) (zg_app zgU_wsX60 (zg_app zgU_wsX110 (zg_app zg_m247_X6_append (zg_app zg_m248_X3_note zg_nil)))))
theorem zi_m246_X11_appendPlace : ∀ w ∈ wz_m246_X11_appendPlace, w ∈ lw_tbl := zi_cons zw_822 (zi_app (zi_cons zw_489 (zi_cons zw_823 (zi_cons zw_778 (zi_cons zw_779 (zi_cons zw_109 (zi_cons zw_492 (zi_cons zw_824 (zi_cons zw_825 (zi_cons zw_826 (zi_cons zw_110 (zi_cons zw_284 zi_nil))))))))))) (zi_app inX6 (zi_app inX11 (zi_app zi_m247_X6_append (zi_app zi_m248_X3_note zi_nil)))))
set_option maxHeartbeats 4000000 in
set_option maxRecDepth 100000 in
theorem m246_X11_appendPlace (l : Launch) (D : va_G) (zt : Nat × Nat × Nat) (d : Nat → ClassId) (q : Nat → Nat) : GM l D zt (tyX d) yX11_appendPlace wz_m246_X11_appendPlace ({ frames := 2, cells := 0, slots := 0, locals := 37 } : Room) [.ref (q 0), .int (-1000)] (wX q d iX0 aX0) (fun v _ w' => v = some (.int 1) ∧ w' = wX q d (upd (upd (upd iX0 18 1) 20 1) 21 1) (up3 aX0 7 0 (-1000))) 0 0 := by
  refine GM.of (cc := cX11_appendPlace) (maxL := 2) (ret := (some .int)) (own := RX11) (lv := [(0, .ref (q 0)), (1, .int (-1000))]) (by decide) rfl rfl (Nat.le_of_ble_eq_true rfl) rfl (fun κ sz hk hR hN => ?_)
  have hin6 : ∀ w ∈ u_ws RX6 TX6 3, w ∈ wz_m246_X11_appendPlace := fun w h => (List.mem_cons_of_mem _ (List.mem_append_right _ (List.mem_append_left _ h)))
  have hin11 : ∀ w ∈ u_ws RX11 TX11 10, w ∈ wz_m246_X11_appendPlace := fun w h => (List.mem_cons_of_mem _ (List.mem_append_right _ (List.mem_append_right _ (List.mem_append_left _ h))))
  refine g_aload_n hk dX11_appendPlace_0 rfl ?_
  refine gX_r0_2 hk hin11 (List.mem_cons_of_mem _ (List.mem_append_left _ (List.mem_of_getElem? (i := 0) rfl))) dX11_appendPlace_1 ?_
  refine g_iload_n hk dX11_appendPlace_4 rfl ?_
  refine g_callV (n := 1) hk (m247_X6_append l D zt d q) (SP.same _) (fun _ h => h) (gi_V (List.mem_cons_of_mem _ (List.mem_append_left _ (List.mem_of_getElem? (i := 1) rfl))) (List.mem_cons_of_mem _ (List.mem_append_left _ (List.mem_of_getElem? (i := 2) rfl))) (List.mem_cons_of_mem _ (List.mem_append_left _ (List.mem_of_getElem? (i := 3) rfl))) (List.mem_cons_of_mem _ (List.mem_append_left _ (List.mem_of_getElem? (i := 4) rfl))) (gi_sub (fun w h => (List.mem_cons_of_mem _ (List.mem_append_right _ (List.mem_append_right _ (List.mem_append_right _ (List.mem_append_left _ h)))))) zg_m247_X6_append)) rfl rfl rfl (by decide +kernel) ⟨Nat.le_of_ble_eq_true rfl, Nat.le_of_ble_eq_true rfl⟩ 13 rfl rfl rfl rfl (Nat.le_of_ble_eq_true rfl) ⟨Nat.le_of_ble_eq_true rfl, Nat.le_of_ble_eq_true rfl⟩ dX11_appendPlace_5 (fun v ty' w' hp hk' => ?_)
  obtain ⟨rfl, rfl⟩ := hp
  show GW κ 2 0 0 (wX q d (upd iX0 18 1) (up3 aX0 7 0 (-1000))) 8 [(0, .ref (q 0)), (1, .int (-1000))] [.int 1]
  refine g_if_ne (tgt := 13) (a := 1) hk dX11_appendPlace_8 (by decide) rfl (fun _ => ?_) (fun z9 => absurd (show (1 : Int) ≠ (0 : Int) from by decide) z9)
  refine g_aload_n hk dX11_appendPlace_13 rfl ?_
  refine gX_r0_5 hk hin11 (List.mem_cons_of_mem _ (List.mem_append_left _ (List.mem_of_getElem? (i := 5) rfl))) dX11_appendPlace_14 ?_
  refine g_iconst (v := 0) hk dX11_appendPlace_17 (by decide) ?_
  refine g_iconst (v := 0) hk dX11_appendPlace_18 (by decide) ?_
  refine g_iconst (v := 0) hk dX11_appendPlace_19 (by decide) ?_
  refine g_callV (n := 3) hk (m248_X3_note l D zt d q) (SP.same _) (fun _ h => h) (gi_V (List.mem_cons_of_mem _ (List.mem_append_left _ (List.mem_of_getElem? (i := 6) rfl))) (List.mem_cons_of_mem _ (List.mem_append_left _ (List.mem_of_getElem? (i := 7) rfl))) (List.mem_cons_of_mem _ (List.mem_append_left _ (List.mem_of_getElem? (i := 8) rfl))) (List.mem_cons_of_mem _ (List.mem_append_left _ (List.mem_of_getElem? (i := 9) rfl))) (gi_sub (fun w h => (List.mem_cons_of_mem _ (List.mem_append_right _ (List.mem_append_right _ (List.mem_append_right _ (List.mem_append_right _ (List.mem_append_left _ h))))))) zg_m248_X3_note)) rfl rfl rfl (by decide +kernel) ⟨Nat.le_of_ble_eq_true rfl, Nat.le_of_ble_eq_true rfl⟩ 20 rfl rfl rfl rfl (Nat.le_of_ble_eq_true rfl) ⟨Nat.le_of_ble_eq_true rfl, Nat.le_of_ble_eq_true rfl⟩ dX11_appendPlace_20 (fun v ty' w' hp hk' => ?_)
  obtain ⟨rfl, rfl⟩ := hp
  show GW κ 2 0 0 (wX q d (upd (upd (upd iX0 18 1) 20 1) 21 1) (up3 aX0 7 0 (-1000))) 23 [(0, .ref (q 0)), (1, .int (-1000))] []
  refine g_aload_n hk dX11_appendPlace_23 rfl ?_
  refine gX_r0_2 hk hin11 (List.mem_cons_of_mem _ (List.mem_append_left _ (List.mem_of_getElem? (i := 0) rfl))) dX11_appendPlace_24 ?_
  refine gX_i18 (v := 1) hk hin6 (List.mem_cons_of_mem _ (List.mem_append_left _ (List.mem_of_getElem? (i := 10) rfl))) dX11_appendPlace_27 rfl ?_
  exact g_iret hk hR rfl ⟨rfl, rfl⟩ dX11_appendPlace_30
def wo_m245_X11_gap : List Cond := [Cond.methodLink RX11 127 yX11_appendPlace, Cond.instanceMethod yX11_appendPlace, Cond.selects RX11 yX11_appendPlace yX11_appendPlace, Cond.initialized RX11]
def wz_m245_X11_gap : List Cond := .code yX11_gap cX11_gap 1 (some .int) :: (wo_m245_X11_gap ++ (wz_m246_X11_appendPlace ++ ([] : List Cond)))
theorem zg_m245_X11_gap : ∀ w ∈ wz_m245_X11_gap, goodWord w = true := zg_cons rfl (zg_app (by decide +kernel) (zg_app zg_m246_X11_appendPlace zg_nil))
theorem zi_m245_X11_gap : ∀ w ∈ wz_m245_X11_gap, w ∈ lw_tbl := zi_cons zw_834 (zi_app (zi_cons zw_819 (zi_cons zw_821 (zi_cons zw_23 (zi_cons zw_103 zi_nil)))) (zi_app zi_m246_X11_appendPlace zi_nil))
set_option maxHeartbeats 4000000 in
set_option maxRecDepth 100000 in
theorem m245_X11_gap (l : Launch) (D : va_G) (zt : Nat × Nat × Nat) (d : Nat → ClassId) (q : Nat → Nat) : GM l D zt (tyX d) yX11_gap wz_m245_X11_gap ({ frames := 3, cells := 0, slots := 0, locals := 58 } : Room) [.ref (q 0)] (wX q d iX0 aX0) (fun v _ w' => v = some (.int 1) ∧ w' = wX q d (upd (upd (upd iX0 18 1) 20 1) 21 1) (up3 aX0 7 0 (-1000))) 0 0 := by
  refine GM.of (cc := cX11_gap) (maxL := 1) (ret := (some .int)) (own := RX11) (lv := [(0, .ref (q 0))]) (by decide) rfl rfl (Nat.le_of_ble_eq_true rfl) rfl (fun κ sz hk hR hN => ?_)
  refine g_aload_n hk dX11_gap_0 rfl ?_
  refine g_sipush (v := (-1000)) hk dX11_gap_1 (by decide) ?_
  refine g_callV (n := 1) hk (m246_X11_appendPlace l D zt d q) (SP.same _) (fun _ h => h) (gi_V (List.mem_cons_of_mem _ (List.mem_append_left _ (List.mem_of_getElem? (i := 0) rfl))) (List.mem_cons_of_mem _ (List.mem_append_left _ (List.mem_of_getElem? (i := 1) rfl))) (List.mem_cons_of_mem _ (List.mem_append_left _ (List.mem_of_getElem? (i := 2) rfl))) (List.mem_cons_of_mem _ (List.mem_append_left _ (List.mem_of_getElem? (i := 3) rfl))) (gi_sub (fun w h => (List.mem_cons_of_mem _ (List.mem_append_right _ (List.mem_append_left _ h)))) zg_m246_X11_appendPlace)) rfl rfl rfl (by decide +kernel) ⟨Nat.le_of_ble_eq_true rfl, Nat.le_of_ble_eq_true rfl⟩ 0 rfl rfl rfl rfl (Nat.le_of_ble_eq_true rfl) ⟨Nat.le_of_ble_eq_true rfl, Nat.le_of_ble_eq_true rfl⟩ dX11_gap_4 (fun v ty' w' hp hk' => ?_)
  obtain ⟨rfl, rfl⟩ := hp
  show GW κ 1 0 0 (wX q d (upd (upd (upd iX0 18 1) 20 1) 21 1) (up3 aX0 7 0 (-1000))) 7 [(0, .ref (q 0))] [.int 1]
  exact g_iret hk hR rfl ⟨rfl, rfl⟩ dX11_gap_7
def wo_m249_X11_mend : List Cond := [Cond.fieldLink RX11 28 "WarpDesk" "series" "LWarpDesk$Series;", Cond.fieldLink RX11 138 "WarpDesk$Series" "size" "I"]
def wz_m249_X11_mend : List Cond := .code yX11_mend cX11_mend 3 (some .int) :: (wo_m249_X11_mend ++ (wsX60 ++ (wsX110 ++ ([] : List Cond))))
theorem zg_m249_X11_mend : ∀ w ∈ wz_m249_X11_mend, goodWord w = true := zg_cons rfl (zg_app (by decide +kernel) (zg_app zgU_wsX60 (zg_app zgU_wsX110 zg_nil)))
theorem zi_m249_X11_mend : ∀ w ∈ wz_m249_X11_mend, w ∈ lw_tbl := zi_cons zw_838 (zi_app (zi_cons zw_489 (zi_cons zw_284 zi_nil)) (zi_app inX6 (zi_app inX11 zi_nil)))
set_option maxHeartbeats 4000000 in
set_option maxRecDepth 100000 in
theorem m249_X11_mend (l : Launch) (D : va_G) (zt : Nat × Nat × Nat) (d : Nat → ClassId) (q : Nat → Nat) (a775 : Int32) : GM l D zt (tyX d) yX11_mend wz_m249_X11_mend ({ frames := 0, cells := 0, slots := 0, locals := 0 } : Room) [.ref (q 0), .int a775] (wX q d iX0 aX0) (fun v _ w' => v = some (.int (-1000)) ∧ w' = wX q d iX0 aX0) 0 0 := by
  refine GM.of (cc := cX11_mend) (maxL := 3) (ret := (some .int)) (own := RX11) (lv := [(0, .ref (q 0)), (1, .int a775)]) (by decide) rfl rfl (Nat.le_of_ble_eq_true rfl) rfl (fun κ sz hk hR hN => ?_)
  have hin6 : ∀ w ∈ u_ws RX6 TX6 3, w ∈ wz_m249_X11_mend := fun w h => (List.mem_cons_of_mem _ (List.mem_append_right _ (List.mem_append_left _ h)))
  have hin11 : ∀ w ∈ u_ws RX11 TX11 10, w ∈ wz_m249_X11_mend := fun w h => (List.mem_cons_of_mem _ (List.mem_append_right _ (List.mem_append_right _ (List.mem_append_left _ h))))
  refine g_iload_n hk dX11_mend_0 rfl ?_
  refine g_iconst (v := 1) hk dX11_mend_1 (by decide) ?_
  refine g_icmp_lt (tgt := 29) (a := a775.toInt) (b := 1) hk dX11_mend_2 (by decide) rfl rfl (fun c776 => ?_) (fun c776 => ?_)
  · skip
    refine g_sipush (v := (-1000)) hk dX11_mend_29 (by decide) ?_
    exact g_iret hk hR rfl ⟨rfl, rfl⟩ dX11_mend_32
  · skip
    refine g_iload_n hk dX11_mend_5 rfl ?_
    refine g_aload_n hk dX11_mend_6 rfl ?_
    refine gX_r0_2 hk hin11 (List.mem_cons_of_mem _ (List.mem_append_left _ (List.mem_of_getElem? (i := 0) rfl))) dX11_mend_7 ?_
    refine gX_i18 (v := 0) hk hin6 (List.mem_cons_of_mem _ (List.mem_append_left _ (List.mem_of_getElem? (i := 1) rfl))) dX11_mend_10 rfl ?_
    refine g_iconst (v := 1) hk dX11_mend_13 (by decide) ?_
    refine g_isub hk dX11_mend_14 ?_
    refine g_norm (v := (-1)) (by decide) ?_
    refine g_icmp_ge (tgt := 29) (a := a775.toInt) (b := (-1)) hk dX11_mend_15 (by decide) rfl rfl (fun _ => ?_) (fun z9 => absurd (show (-1) ≤ a775.toInt from by omega) z9)
    refine g_sipush (v := (-1000)) hk dX11_mend_29 (by decide) ?_
    exact g_iret hk hR rfl ⟨rfl, rfl⟩ dX11_mend_32
def wo_m251_X6_cutFirst : List Cond := [Cond.fieldLink RX6 19 "WarpDesk$Series" "size" "I"]
def wz_m251_X6_cutFirst : List Cond := .code yX6_cutFirst cX6_cutFirst 2 (some .boolean) :: (wo_m251_X6_cutFirst ++ (wsX60 ++ ([] : List Cond)))
theorem zg_m251_X6_cutFirst : ∀ w ∈ wz_m251_X6_cutFirst, goodWord w = true := zg_cons rfl (zg_app (by decide +kernel) (zg_app zgU_wsX60 zg_nil))
theorem zi_m251_X6_cutFirst : ∀ w ∈ wz_m251_X6_cutFirst, w ∈ lw_tbl := zi_cons zw_858 (zi_app (zi_cons zw_282 zi_nil) (zi_app inX6 zi_nil))
set_option maxHeartbeats 4000000 in
set_option maxRecDepth 100000 in
theorem m251_X6_cutFirst (l : Launch) (D : va_G) (zt : Nat × Nat × Nat) (d : Nat → ClassId) (q : Nat → Nat) (a778 : Int32) : GM l D zt (tyX d) yX6_cutFirst wz_m251_X6_cutFirst ({ frames := 0, cells := 0, slots := 0, locals := 0 } : Room) [.ref (q 13), .int a778] (wX q d iX0 aX0) (fun v _ w' => v = some (.int 0) ∧ w' = wX q d iX0 aX0) 0 0 := by
  refine GM.of (cc := cX6_cutFirst) (maxL := 2) (ret := (some .boolean)) (own := RX6) (lv := [(0, .ref (q 13)), (1, .int a778)]) (by decide) rfl rfl (Nat.le_of_ble_eq_true rfl) rfl (fun κ sz hk hR hN => ?_)
  have hin6 : ∀ w ∈ u_ws RX6 TX6 3, w ∈ wz_m251_X6_cutFirst := fun w h => (List.mem_cons_of_mem _ (List.mem_append_right _ (List.mem_append_left _ h)))
  refine g_iload_n hk dX6_cutFirst_0 rfl ?_
  refine g_iconst (v := 1) hk dX6_cutFirst_1 (by decide) ?_
  refine g_icmp_lt (tgt := 13) (a := a778.toInt) (b := 1) hk dX6_cutFirst_2 (by decide) rfl rfl (fun c779 => ?_) (fun c779 => ?_)
  · skip
    refine g_iconst (v := 0) hk dX6_cutFirst_13 (by decide) ?_
    exact g_iret hk hR rfl ⟨rfl, rfl⟩ dX6_cutFirst_14
  · skip
    refine g_iload_n hk dX6_cutFirst_5 rfl ?_
    refine g_aload_n hk dX6_cutFirst_6 rfl ?_
    refine gX_i18 (v := 0) hk hin6 (List.mem_cons_of_mem _ (List.mem_append_left _ (List.mem_of_getElem? (i := 0) rfl))) dX6_cutFirst_7 rfl ?_
    refine g_icmp_le (tgt := 15) (a := a778.toInt) (b := 0) hk dX6_cutFirst_10 (by decide) rfl rfl (fun z9 => absurd z9 (show ¬ (a778.toInt ≤ 0) from by omega)) (fun _ => ?_)
    refine g_iconst (v := 0) hk dX6_cutFirst_13 (by decide) ?_
    exact g_iret hk hR rfl ⟨rfl, rfl⟩ dX6_cutFirst_14
def wo_m250_X11_drop : List Cond := [Cond.fieldLink RX11 28 "WarpDesk" "series" "LWarpDesk$Series;", Cond.methodLink RX11 151 yX6_cutFirst, Cond.instanceMethod yX6_cutFirst, Cond.selects RX6 yX6_cutFirst yX6_cutFirst, Cond.initialized RX6]
def wz_m250_X11_drop : List Cond := .code yX11_drop cX11_drop 2 (some .boolean) :: (wo_m250_X11_drop ++ (wsX110 ++ (wz_m251_X6_cutFirst ++ ([] : List Cond))))
theorem zg_m250_X11_drop : ∀ w ∈ wz_m250_X11_drop, goodWord w = true := zg_cons rfl (zg_app (by decide +kernel) (zg_app zgU_wsX110 (zg_app zg_m251_X6_cutFirst zg_nil)))
theorem zi_m250_X11_drop : ∀ w ∈ wz_m250_X11_drop, w ∈ lw_tbl := zi_cons zw_854 (zi_app (zi_cons zw_489 (zi_cons zw_855 (zi_cons zw_856 (zi_cons zw_857 (zi_cons zw_109 zi_nil))))) (zi_app inX11 (zi_app zi_m251_X6_cutFirst zi_nil)))
set_option maxHeartbeats 4000000 in
set_option maxRecDepth 100000 in
theorem m250_X11_drop (l : Launch) (D : va_G) (zt : Nat × Nat × Nat) (d : Nat → ClassId) (q : Nat → Nat) (a777 : Int32) : GM l D zt (tyX d) yX11_drop wz_m250_X11_drop ({ frames := 1, cells := 0, slots := 0, locals := 21 } : Room) [.ref (q 0), .int a777] (wX q d iX0 aX0) (fun v _ w' => v = some (.int 0) ∧ w' = wX q d iX0 aX0) 0 0 := by
  refine GM.of (cc := cX11_drop) (maxL := 2) (ret := (some .boolean)) (own := RX11) (lv := [(0, .ref (q 0)), (1, .int a777)]) (by decide) rfl rfl (Nat.le_of_ble_eq_true rfl) rfl (fun κ sz hk hR hN => ?_)
  have hin11 : ∀ w ∈ u_ws RX11 TX11 10, w ∈ wz_m250_X11_drop := fun w h => (List.mem_cons_of_mem _ (List.mem_append_right _ (List.mem_append_left _ h)))
  refine g_aload_n hk dX11_drop_0 rfl ?_
  refine gX_r0_2 hk hin11 (List.mem_cons_of_mem _ (List.mem_append_left _ (List.mem_of_getElem? (i := 0) rfl))) dX11_drop_1 ?_
  refine g_iload_n hk dX11_drop_4 rfl ?_
  refine g_callV (n := 1) hk (m251_X6_cutFirst l D zt d q a777) (SP.same _) (fun _ h => h) (gi_V (List.mem_cons_of_mem _ (List.mem_append_left _ (List.mem_of_getElem? (i := 1) rfl))) (List.mem_cons_of_mem _ (List.mem_append_left _ (List.mem_of_getElem? (i := 2) rfl))) (List.mem_cons_of_mem _ (List.mem_append_left _ (List.mem_of_getElem? (i := 3) rfl))) (List.mem_cons_of_mem _ (List.mem_append_left _ (List.mem_of_getElem? (i := 4) rfl))) (gi_sub (fun w h => (List.mem_cons_of_mem _ (List.mem_append_right _ (List.mem_append_right _ (List.mem_append_left _ h))))) zg_m251_X6_cutFirst)) rfl rfl rfl (by decide +kernel) ⟨Nat.le_of_ble_eq_true rfl, Nat.le_of_ble_eq_true rfl⟩ 13 rfl rfl rfl rfl (Nat.le_of_ble_eq_true rfl) ⟨Nat.le_of_ble_eq_true rfl, Nat.le_of_ble_eq_true rfl⟩ dX11_drop_5 (fun v ty' w' hp hk' => ?_)
  obtain ⟨rfl, rfl⟩ := hp
  show GW κ 2 0 0 (wX q d iX0 aX0) 8 [(0, .ref (q 0)), (1, .int a777)] [.int 0]
  refine g_if_ne (tgt := 13) (a := 0) hk dX11_drop_8 (by decide) rfl (fun z9 => absurd z9 (show ¬ ((0 : Int) ≠ (0 : Int)) from by decide)) (fun _ => ?_)
  refine g_iconst (v := 0) hk dX11_drop_11 (by decide) ?_
  exact g_iret hk hR rfl ⟨rfl, rfl⟩ dX11_drop_12
def wo_m253_X7_valueOf : List Cond := [Cond.fieldLink RX7 20 "WarpDesk$Settings" "values" "[I"]
def wz_m253_X7_valueOf : List Cond := .code yX7_valueOf cX7_valueOf 2 (some .int) :: (wo_m253_X7_valueOf ++ (wsX70 ++ ([] : List Cond)))
theorem zg_m253_X7_valueOf : ∀ w ∈ wz_m253_X7_valueOf, goodWord w = true := zg_cons rfl (zg_app (by decide +kernel) (zg_app zgU_wsX70 zg_nil))
theorem zi_m253_X7_valueOf : ∀ w ∈ wz_m253_X7_valueOf, w ∈ lw_tbl := zi_cons zw_788 (zi_app (zi_cons zw_190 zi_nil) (zi_app inX7 zi_nil))
set_option maxHeartbeats 4000000 in
set_option maxRecDepth 100000 in
theorem m253_X7_valueOf (l : Launch) (D : va_G) (zt : Nat × Nat × Nat) (d : Nat → ClassId) (q : Nat → Nat) (a782 : Int32) : GM l D zt (tyX d) yX7_valueOf wz_m253_X7_valueOf ({ frames := 0, cells := 0, slots := 0, locals := 0 } : Room) [.ref (q 18), .int a782] (wX q d iX0 aX0) (fun v _ w' => ((a782.toInt < 0) ∧ v = some (.int (-1)) ∧ w' = wX q d iX0 aX0) ∨ ((¬ (a782.toInt < 0)) ∧ (4 ≤ a782.toInt) ∧ v = some (.int (-1)) ∧ w' = wX q d iX0 aX0) ∨ ((¬ (a782.toInt < 0)) ∧ (¬ (4 ≤ a782.toInt)) ∧ (a782.toInt = 0) ∧ v = some (.int 2) ∧ w' = wX q d iX0 aX0) ∨ ((¬ (a782.toInt < 0)) ∧ (¬ (4 ≤ a782.toInt)) ∧ (¬ (a782.toInt = 0)) ∧ (a782.toInt = 1) ∧ v = some (.int 0) ∧ w' = wX q d iX0 aX0) ∨ ((¬ (a782.toInt < 0)) ∧ (¬ (4 ≤ a782.toInt)) ∧ (¬ (a782.toInt = 0)) ∧ (¬ (a782.toInt = 1)) ∧ (a782.toInt = 2) ∧ v = some (.int 0) ∧ w' = wX q d iX0 aX0) ∨ ((¬ (a782.toInt < 0)) ∧ (¬ (4 ≤ a782.toInt)) ∧ (¬ (a782.toInt = 0)) ∧ (¬ (a782.toInt = 1)) ∧ (¬ (a782.toInt = 2)) ∧ (a782.toInt = 3) ∧ v = some (.int 8) ∧ w' = wX q d iX0 aX0)) 0 0 := by
  refine GM.of (cc := cX7_valueOf) (maxL := 2) (ret := (some .int)) (own := RX7) (lv := [(0, .ref (q 18)), (1, .int a782)]) (by decide) rfl rfl (Nat.le_of_ble_eq_true rfl) rfl (fun κ sz hk hR hN => ?_)
  have hin7 : ∀ w ∈ u_ws RX7 TX7 1, w ∈ wz_m253_X7_valueOf := fun w h => (List.mem_cons_of_mem _ (List.mem_append_right _ (List.mem_append_left _ h)))
  refine g_iload_n hk dX7_valueOf_0 rfl ?_
  refine g_if_lt (tgt := 22) (a := a782.toInt) hk dX7_valueOf_1 (by decide) rfl (fun c783 => ?_) (fun c783 => ?_)
  · skip
    refine g_iconst (v := (-1)) hk dX7_valueOf_22 (by decide) ?_
    exact g_iret hk hR rfl (Or.inl ⟨c783, rfl, rfl⟩) dX7_valueOf_23
  · skip
    refine g_iload_n hk dX7_valueOf_4 rfl ?_
    refine g_aload_n hk dX7_valueOf_5 rfl ?_
    refine gX_r18_0 hk hin7 (List.mem_cons_of_mem _ (List.mem_append_left _ (List.mem_of_getElem? (i := 0) rfl))) dX7_valueOf_6 ?_
    refine nX_10 hk dX7_valueOf_9 ?_
    refine g_icmp_ge (tgt := 22) (a := a782.toInt) (b := 4) hk dX7_valueOf_10 (by decide) rfl rfl (fun c784 => ?_) (fun c784 => ?_)
    · skip
      refine g_iconst (v := (-1)) hk dX7_valueOf_22 (by decide) ?_
      exact g_iret hk hR rfl (Or.inr (Or.inl ⟨c783, c784, rfl, rfl⟩)) dX7_valueOf_23
    · skip
      refine g_aload_n hk dX7_valueOf_13 rfl ?_
      refine gX_r18_0 hk hin7 (List.mem_cons_of_mem _ (List.mem_append_left _ (List.mem_of_getElem? (i := 0) rfl))) dX7_valueOf_14 ?_
      refine g_iload_n hk dX7_valueOf_17 rfl ?_
      by_cases c785 : a782.toInt = 0
      · obtain rfl : a782 = 0 := Int32.toInt_inj.mp c785
        refine lX_10 (v := 2) hk (vp_in_iff.mpr ⟨by decide, by decide⟩) rfl dX7_valueOf_18 ?_
        refine g_goto (tgt := 23) hk dX7_valueOf_19 (by decide) ?_
        exact g_iret hk hR rfl (Or.inr (Or.inr (Or.inl ⟨c783, c784, c785, rfl, rfl⟩))) dX7_valueOf_23
      by_cases c786 : a782.toInt = 1
      · obtain rfl : a782 = 1 := Int32.toInt_inj.mp c786
        refine lX_10 (v := 0) hk (vp_in_iff.mpr ⟨by decide, by decide⟩) rfl dX7_valueOf_18 ?_
        refine g_goto (tgt := 23) hk dX7_valueOf_19 (by decide) ?_
        exact g_iret hk hR rfl (Or.inr (Or.inr (Or.inr (Or.inl ⟨c783, c784, c785, c786, rfl, rfl⟩)))) dX7_valueOf_23
      by_cases c787 : a782.toInt = 2
      · obtain rfl : a782 = 2 := Int32.toInt_inj.mp c787
        refine lX_10 (v := 0) hk (vp_in_iff.mpr ⟨by decide, by decide⟩) rfl dX7_valueOf_18 ?_
        refine g_goto (tgt := 23) hk dX7_valueOf_19 (by decide) ?_
        exact g_iret hk hR rfl (Or.inr (Or.inr (Or.inr (Or.inr (Or.inl ⟨c783, c784, c785, c786, c787, rfl, rfl⟩))))) dX7_valueOf_23
      by_cases c788 : a782.toInt = 3
      · obtain rfl : a782 = 3 := Int32.toInt_inj.mp c788
        refine lX_10 (v := 8) hk (vp_in_iff.mpr ⟨by decide, by decide⟩) rfl dX7_valueOf_18 ?_
        refine g_goto (tgt := 23) hk dX7_valueOf_19 (by decide) ?_
        exact g_iret hk hR rfl (Or.inr (Or.inr (Or.inr (Or.inr (Or.inr (⟨c783, c784, c785, c786, c787, c788, rfl, rfl⟩)))))) dX7_valueOf_23
      exfalso; omega
def wo_m254_X7_allows : List Cond := []
def wz_m254_X7_allows : List Cond := .code yX7_allows cX7_allows 2 (some .boolean) :: (wo_m254_X7_allows ++ ([] : List Cond))
theorem zg_m254_X7_allows : ∀ w ∈ wz_m254_X7_allows, goodWord w = true := zg_cons rfl (zg_app (by decide +kernel) zg_nil)
theorem zi_m254_X7_allows : ∀ w ∈ wz_m254_X7_allows, w ∈ lw_tbl := zi_cons zw_724 (zi_app zi_nil zi_nil)
set_option maxHeartbeats 4000000 in
set_option maxRecDepth 100000 in
theorem m254_X7_allows (l : Launch) (D : va_G) (zt : Nat × Nat × Nat) (d : Nat → ClassId) (q : Nat → Nat) (a810 : Int32) (a811 : Int32) (h0 : a810.toInt ≤ (-1)) : GM l D zt (tyX d) yX7_allows wz_m254_X7_allows ({ frames := 0, cells := 0, slots := 0, locals := 0 } : Room) [.int a810, .int a811] (wX q d iX0 aX0) (fun v _ w' => v = some (.int 0) ∧ w' = wX q d iX0 aX0) 0 0 := by
  refine GM.of (cc := cX7_allows) (maxL := 2) (ret := (some .boolean)) (own := RX7) (lv := [(0, .int a810), (1, .int a811)]) (by decide) rfl rfl (Nat.le_of_ble_eq_true rfl) rfl (fun κ sz hk hR hN => ?_)
  refine g_iload_n hk dX7_allows_0 rfl ?_
  refine g_if_lt (tgt := 42) (a := a810.toInt) hk dX7_allows_1 (by decide) rfl (fun _ => ?_) (fun z9 => absurd (show a810.toInt < 0 from by omega) z9)
  refine g_iconst (v := 0) hk dX7_allows_42 (by decide) ?_
  exact g_iret hk hR rfl ⟨rfl, rfl⟩ dX7_allows_43
def wo_m255_X7_allows : List Cond := [Cond.fieldLink RX7 23 "WarpDesk$Settings" "LOWEST" "[I"]
def wz_m255_X7_allows : List Cond := .code yX7_allows cX7_allows 2 (some .boolean) :: (wo_m255_X7_allows ++ ([] : List Cond))
theorem zg_m255_X7_allows : ∀ w ∈ wz_m255_X7_allows, goodWord w = true := zg_cons rfl (zg_app (by decide +kernel) zg_nil)
theorem zi_m255_X7_allows : ∀ w ∈ wz_m255_X7_allows, w ∈ lw_tbl := zi_cons zw_724 (zi_app (zi_cons zw_725 zi_nil) zi_nil)
set_option maxHeartbeats 4000000 in
set_option maxRecDepth 100000 in
theorem m255_X7_allows (l : Launch) (D : va_G) (zt : Nat × Nat × Nat) (d : Nat → ClassId) (q : Nat → Nat) (a812 : Int32) (a813 : Int32) (h0 : 4 ≤ a812.toInt) : GM l D zt (tyX d) yX7_allows wz_m255_X7_allows ({ frames := 0, cells := 0, slots := 0, locals := 0 } : Room) [.int a812, .int a813] (wX q d iX0 aX0) (fun v _ w' => v = some (.int 0) ∧ w' = wX q d iX0 aX0) 0 0 := by
  refine GM.of (cc := cX7_allows) (maxL := 2) (ret := (some .boolean)) (own := RX7) (lv := [(0, .int a812), (1, .int a813)]) (by decide) rfl rfl (Nat.le_of_ble_eq_true rfl) rfl (fun κ sz hk hR hN => ?_)
  refine g_iload_n hk dX7_allows_0 rfl ?_
  refine g_if_lt (tgt := 42) (a := a812.toInt) hk dX7_allows_1 (by decide) rfl (fun z9 => absurd z9 (show ¬ (a812.toInt < 0) from by omega)) (fun _ => ?_)
  refine g_iload_n hk dX7_allows_4 rfl ?_
  refine g_getsL hk (List.mem_cons_of_mem _ (List.mem_append_left _ (List.mem_of_getElem? (i := 0) rfl))) dX7_allows_5 ?_
  refine g_lenL hk dX7_allows_8 ?_
  refine g_icmp_ge (tgt := 42) (a := a812.toInt) (b := 4) hk dX7_allows_9 (by decide) rfl rfl (fun _ => ?_) (fun z9 => absurd (show 4 ≤ a812.toInt from by omega) z9)
  refine g_iconst (v := 0) hk dX7_allows_42 (by decide) ?_
  exact g_iret hk hR rfl ⟨rfl, rfl⟩ dX7_allows_43
def wo_m256_X7_allows : List Cond := [Cond.fieldLink RX7 23 "WarpDesk$Settings" "LOWEST" "[I", Cond.fieldLink RX7 26 "WarpDesk$Settings" "HIGHEST" "[I"]
def wz_m256_X7_allows : List Cond := .code yX7_allows cX7_allows 2 (some .boolean) :: (wo_m256_X7_allows ++ ([] : List Cond))
theorem zg_m256_X7_allows : ∀ w ∈ wz_m256_X7_allows, goodWord w = true := zg_cons rfl (zg_app (by decide +kernel) zg_nil)
theorem zi_m256_X7_allows : ∀ w ∈ wz_m256_X7_allows, w ∈ lw_tbl := zi_cons zw_724 (zi_app (zi_cons zw_725 (zi_cons zw_727 zi_nil)) zi_nil)
set_option maxHeartbeats 4000000 in
set_option maxRecDepth 100000 in
theorem m256_X7_allows (l : Launch) (D : va_G) (zt : Nat × Nat × Nat) (d : Nat → ClassId) (q : Nat → Nat) (a814 : Int32) (a815 : Int32) (h0 : 0 ≤ a814.toInt) (h1 : a814.toInt ≤ 0) : GM l D zt (tyX d) yX7_allows wz_m256_X7_allows ({ frames := 0, cells := 0, slots := 0, locals := 0 } : Room) [.int a814, .int a815] (wX q d iX0 aX0) (fun v _ w' => ((a814.toInt = 0) ∧ (a815.toInt < 0) ∧ v = some (.int 0) ∧ w' = wX q d iX0 aX0) ∨ ((a814.toInt = 0) ∧ (¬ (a815.toInt < 0)) ∧ (15 < a815.toInt) ∧ v = some (.int 0) ∧ w' = wX q d iX0 aX0) ∨ ((a814.toInt = 0) ∧ (¬ (a815.toInt < 0)) ∧ (¬ (15 < a815.toInt)) ∧ v = some (.int 1) ∧ w' = wX q d iX0 aX0)) 0 0 := by
  refine GM.of (cc := cX7_allows) (maxL := 2) (ret := (some .boolean)) (own := RX7) (lv := [(0, .int a814), (1, .int a815)]) (by decide) rfl rfl (Nat.le_of_ble_eq_true rfl) rfl (fun κ sz hk hR hN => ?_)
  refine g_iload_n hk dX7_allows_0 rfl ?_
  refine g_if_lt (tgt := 42) (a := a814.toInt) hk dX7_allows_1 (by decide) rfl (fun z9 => absurd z9 (show ¬ (a814.toInt < 0) from by omega)) (fun _ => ?_)
  refine g_iload_n hk dX7_allows_4 rfl ?_
  refine g_getsL hk (List.mem_cons_of_mem _ (List.mem_append_left _ (List.mem_of_getElem? (i := 0) rfl))) dX7_allows_5 ?_
  refine g_lenL hk dX7_allows_8 ?_
  refine g_icmp_ge (tgt := 42) (a := a814.toInt) (b := 4) hk dX7_allows_9 (by decide) rfl rfl (fun z9 => absurd z9 (show ¬ (4 ≤ a814.toInt) from by omega)) (fun _ => ?_)
  refine g_iload_n hk dX7_allows_12 rfl ?_
  refine g_getsH hk (List.mem_cons_of_mem _ (List.mem_append_left _ (List.mem_of_getElem? (i := 1) rfl))) dX7_allows_13 ?_
  refine g_lenH hk dX7_allows_16 ?_
  refine g_icmp_ge (tgt := 42) (a := a814.toInt) (b := 4) hk dX7_allows_17 (by decide) rfl rfl (fun z9 => absurd z9 (show ¬ (4 ≤ a814.toInt) from by omega)) (fun _ => ?_)
  refine g_iload_n hk dX7_allows_20 rfl ?_
  refine g_getsL hk (List.mem_cons_of_mem _ (List.mem_append_left _ (List.mem_of_getElem? (i := 0) rfl))) dX7_allows_21 ?_
  refine g_iload_n hk dX7_allows_24 rfl ?_
  by_cases c816 : a814.toInt = 0
  · obtain rfl : a814 = 0 := Int32.toInt_inj.mp c816
    refine g_sL (v := .int 0) hk (vp_in_iff.mpr ⟨by decide, by decide⟩) rfl dX7_allows_25 ?_
    refine g_icmp_lt (tgt := 42) (a := a815.toInt) (b := 0) hk dX7_allows_26 (by decide) rfl rfl (fun c817 => ?_) (fun c817 => ?_)
    · skip
      refine g_iconst (v := 0) hk dX7_allows_42 (by decide) ?_
      exact g_iret hk hR rfl (Or.inl ⟨c816, c817, rfl, rfl⟩) dX7_allows_43
    · skip
      refine g_iload_n hk dX7_allows_29 rfl ?_
      refine g_getsH hk (List.mem_cons_of_mem _ (List.mem_append_left _ (List.mem_of_getElem? (i := 1) rfl))) dX7_allows_30 ?_
      refine g_iload_n hk dX7_allows_33 rfl ?_
      refine g_sH (v := .int 15) hk (vp_in_iff.mpr ⟨by decide, by decide⟩) rfl dX7_allows_34 ?_
      refine g_icmp_gt (tgt := 42) (a := a815.toInt) (b := 15) hk dX7_allows_35 (by decide) rfl rfl (fun c818 => ?_) (fun c818 => ?_)
      · skip
        refine g_iconst (v := 0) hk dX7_allows_42 (by decide) ?_
        exact g_iret hk hR rfl (Or.inr (Or.inl ⟨c816, c817, c818, rfl, rfl⟩)) dX7_allows_43
      · skip
        refine g_iconst (v := 1) hk dX7_allows_38 (by decide) ?_
        refine g_goto (tgt := 43) hk dX7_allows_39 (by decide) ?_
        exact g_iret hk hR rfl (Or.inr (Or.inr (⟨c816, c817, c818, rfl, rfl⟩))) dX7_allows_43
  exfalso; omega
def wo_m257_X7_put : List Cond := [Cond.fieldLink RX7 20 "WarpDesk$Settings" "values" "[I"]
def wz_m257_X7_put : List Cond := .code yX7_put cX7_put 3 none :: (wo_m257_X7_put ++ (wsX70 ++ ([] : List Cond)))
theorem zg_m257_X7_put : ∀ w ∈ wz_m257_X7_put, goodWord w = true := zg_cons rfl (zg_app (by decide +kernel) (zg_app zgU_wsX70 zg_nil))
theorem zi_m257_X7_put : ∀ w ∈ wz_m257_X7_put, w ∈ lw_tbl := zi_cons zw_553 (zi_app (zi_cons zw_190 zi_nil) (zi_app inX7 zi_nil))
set_option maxHeartbeats 4000000 in
set_option maxRecDepth 100000 in
theorem m257_X7_put (l : Launch) (D : va_G) (zt : Nat × Nat × Nat) (d : Nat → ClassId) (q : Nat → Nat) (a828 : Int32) (a829 : Int32) (h0 : 0 ≤ a828.toInt) (h1 : a828.toInt ≤ 0) (h2 : 0 ≤ a829.toInt) (h3 : a829.toInt ≤ 15) : GM l D zt (tyX d) yX7_put wz_m257_X7_put ({ frames := 0, cells := 0, slots := 0, locals := 0 } : Room) [.ref (q 18), .int a828, .int a829] (wX q d iX0 aX0) (fun v _ w' => v = none ∧ w' = wX q d iX0 (up3 aX0 10 0 a829)) 0 0 := by
  refine GM.of (cc := cX7_put) (maxL := 3) (ret := none) (own := RX7) (lv := [(0, .ref (q 18)), (1, .int a828), (2, .int a829)]) (by decide) rfl rfl (Nat.le_of_ble_eq_true rfl) rfl (fun κ sz hk hR hN => ?_)
  have hin7 : ∀ w ∈ u_ws RX7 TX7 1, w ∈ wz_m257_X7_put := fun w h => (List.mem_cons_of_mem _ (List.mem_append_right _ (List.mem_append_left _ h)))
  refine g_iload_n hk dX7_put_0 rfl ?_
  refine g_if_lt (tgt := 20) (a := a828.toInt) hk dX7_put_1 (by decide) rfl (fun z9 => absurd z9 (show ¬ (a828.toInt < 0) from by omega)) (fun _ => ?_)
  refine g_iload_n hk dX7_put_4 rfl ?_
  refine g_aload_n hk dX7_put_5 rfl ?_
  refine gX_r18_0 hk hin7 (List.mem_cons_of_mem _ (List.mem_append_left _ (List.mem_of_getElem? (i := 0) rfl))) dX7_put_6 ?_
  refine nX_10 hk dX7_put_9 ?_
  refine g_icmp_ge (tgt := 20) (a := a828.toInt) (b := 4) hk dX7_put_10 (by decide) rfl rfl (fun z9 => absurd z9 (show ¬ (4 ≤ a828.toInt) from by omega)) (fun _ => ?_)
  refine g_aload_n hk dX7_put_13 rfl ?_
  refine gX_r18_0 hk hin7 (List.mem_cons_of_mem _ (List.mem_append_left _ (List.mem_of_getElem? (i := 0) rfl))) dX7_put_14 ?_
  refine g_iload_n hk dX7_put_17 rfl ?_
  refine g_iload_n hk dX7_put_18 rfl ?_
  by_cases c830 : a828.toInt = 0
  · obtain rfl : a828 = 0 := Int32.toInt_inj.mp c830
    refine sX_10 (j := 0) hk (vp_in_iff.mpr ⟨by decide, by decide⟩) (by decide) dX7_put_19 ?_
    exact g_vret hk hR ⟨rfl, rfl⟩ dX7_put_20
  exfalso; omega
def wo_m258_X3_note : List Cond := [Cond.fieldLink RX3 23 "WarpDesk$Past" "next" "I", Cond.fieldLink RX3 9 "WarpDesk$Past" "kinds" "[I", Cond.fieldLink RX3 13 "WarpDesk$Past" "firsts" "[I", Cond.fieldLink RX3 16 "WarpDesk$Past" "seconds" "[I", Cond.fieldLink RX3 19 "WarpDesk$Past" "size" "I", Cond.methodLink RX3 26 Lib.Math.min.name, Cond.static Lib.Math.min.name, Cond.initialized "java/lang/Math", Cond.code Lib.Math.min.name Lib.Math.min.code 2 (some .int)]
def wz_m258_X3_note : List Cond := .code yX3_note cX3_note 4 none :: (wo_m258_X3_note ++ (wsX30 ++ ([] : List Cond)))
theorem zg_m258_X3_note : ∀ w ∈ wz_m258_X3_note, goodWord w = true := zg_cons rfl (zg_app (by decide +kernel) (zg_app zgU_wsX30 zg_nil))
theorem zi_m258_X3_note : ∀ w ∈ wz_m258_X3_note, w ∈ lw_tbl := zi_cons zw_827 (zi_app (zi_cons zw_305 (zi_cons zw_302 (zi_cons zw_303 (zi_cons zw_304 (zi_cons zw_306 (zi_cons zw_828 (zi_cons zw_829 (zi_cons zw_120 (zi_cons zw_830 zi_nil))))))))) (zi_app inX3 zi_nil))
set_option maxHeartbeats 4000000 in
set_option maxRecDepth 100000 in
theorem m258_X3_note (l : Launch) (D : va_G) (zt : Nat × Nat × Nat) (a781 : Int32) (d : Nat → ClassId) (q : Nat → Nat) (a831 : Int32) (h0 : 0 ≤ a831.toInt) (h1 : a831.toInt ≤ 0) : GM l D zt (tyX d) yX3_note wz_m258_X3_note ({ frames := 1, cells := 0, slots := 0, locals := 14 } : Room) [.ref (q 20), .int 3, .int a831, .int 2] (wX q d iX0 (up3 aX0 10 0 a781)) (fun v _ w' => v = none ∧ w' = wX q d (upd (upd iX0 20 1) 21 1) (up3 (up3 (up3 (up3 aX0 10 0 a781) 11 0 3) 12 0 a831) 13 0 2)) 0 0 := by
  refine GM.of (cc := cX3_note) (maxL := 4) (ret := none) (own := RX3) (lv := [(0, .ref (q 20)), (1, .int 3), (2, .int a831), (3, .int 2)]) (by decide) rfl rfl (Nat.le_of_ble_eq_true rfl) rfl (fun κ sz hk hR hN => ?_)
  have hin3 : ∀ w ∈ u_ws RX3 TX3 5, w ∈ wz_m258_X3_note := fun w h => (List.mem_cons_of_mem _ (List.mem_append_right _ (List.mem_append_left _ h)))
  refine g_aload_n hk dX3_note_0 rfl ?_
  refine gX_i20 (v := 0) hk hin3 (List.mem_cons_of_mem _ (List.mem_append_left _ (List.mem_of_getElem? (i := 0) rfl))) dX3_note_1 rfl ?_
  refine g_if_lt (tgt := 16) (a := 0) hk dX3_note_4 (by decide) rfl (fun z9 => absurd z9 (show ¬ ((0 : Int) < (0 : Int)) from by decide)) (fun _ => ?_)
  refine g_aload_n hk dX3_note_7 rfl ?_
  refine gX_i20 (v := 0) hk hin3 (List.mem_cons_of_mem _ (List.mem_append_left _ (List.mem_of_getElem? (i := 0) rfl))) dX3_note_8 rfl ?_
  refine g_bipush (v := 40) hk dX3_note_11 (by decide) ?_
  refine g_icmp_lt (tgt := 17) (a := 0) (b := 40) hk dX3_note_13 (by decide) rfl rfl (fun _ => ?_) (fun z9 => absurd (show (0 : Int) < (40 : Int) from by decide) z9)
  refine g_aload_n hk dX3_note_17 rfl ?_
  refine gX_r20_0 hk hin3 (List.mem_cons_of_mem _ (List.mem_append_left _ (List.mem_of_getElem? (i := 1) rfl))) dX3_note_18 ?_
  refine g_aload_n hk dX3_note_21 rfl ?_
  refine gX_i20 (v := 0) hk hin3 (List.mem_cons_of_mem _ (List.mem_append_left _ (List.mem_of_getElem? (i := 0) rfl))) dX3_note_22 rfl ?_
  refine g_iload_n hk dX3_note_25 rfl ?_
  refine sX_11 (j := 0) hk (vp_in_iff.mpr ⟨by decide, by decide⟩) (by decide) dX3_note_26 ?_
  refine g_aload_n hk dX3_note_27 rfl ?_
  refine gX_r20_1 hk hin3 (List.mem_cons_of_mem _ (List.mem_append_left _ (List.mem_of_getElem? (i := 2) rfl))) dX3_note_28 ?_
  refine g_aload_n hk dX3_note_31 rfl ?_
  refine gX_i20 (v := 0) hk hin3 (List.mem_cons_of_mem _ (List.mem_append_left _ (List.mem_of_getElem? (i := 0) rfl))) dX3_note_32 rfl ?_
  refine g_iload_n hk dX3_note_35 rfl ?_
  refine sX_12 (j := 0) hk (vp_in_iff.mpr ⟨by decide, by decide⟩) (by decide) dX3_note_36 ?_
  refine g_aload_n hk dX3_note_37 rfl ?_
  refine gX_r20_2 hk hin3 (List.mem_cons_of_mem _ (List.mem_append_left _ (List.mem_of_getElem? (i := 3) rfl))) dX3_note_38 ?_
  refine g_aload_n hk dX3_note_41 rfl ?_
  refine gX_i20 (v := 0) hk hin3 (List.mem_cons_of_mem _ (List.mem_append_left _ (List.mem_of_getElem? (i := 0) rfl))) dX3_note_42 rfl ?_
  refine g_iload_n hk dX3_note_45 rfl ?_
  refine sX_13 (j := 0) hk (vp_in_iff.mpr ⟨by decide, by decide⟩) (by decide) dX3_note_46 ?_
  refine g_aload_n hk dX3_note_47 rfl ?_
  refine g_aload_n hk dX3_note_48 rfl ?_
  refine gX_i20 (v := 0) hk hin3 (List.mem_cons_of_mem _ (List.mem_append_left _ (List.mem_of_getElem? (i := 0) rfl))) dX3_note_49 rfl ?_
  refine g_bipush (v := 39) hk dX3_note_52 (by decide) ?_
  refine g_icmp_ne (tgt := 61) (a := 0) (b := 39) hk dX3_note_54 (by decide) rfl rfl (fun _ => ?_) (fun z9 => absurd (show (0 : Int) ≠ (39 : Int) from by decide) z9)
  refine g_aload_n hk dX3_note_61 rfl ?_
  refine gX_i20 (v := 0) hk hin3 (List.mem_cons_of_mem _ (List.mem_append_left _ (List.mem_of_getElem? (i := 0) rfl))) dX3_note_62 rfl ?_
  refine g_iconst (v := 1) hk dX3_note_65 (by decide) ?_
  refine g_iadd hk dX3_note_66 ?_
  refine g_norm (v := 1) (by decide) ?_
  refine pX_i20 hk hin3 (List.mem_cons_of_mem _ (List.mem_append_left _ (List.mem_of_getElem? (i := 0) rfl))) dX3_note_67 ?_
  refine g_aload_n hk dX3_note_70 rfl ?_
  refine g_aload_n hk dX3_note_71 rfl ?_
  refine gX_i21 (v := 0) hk hin3 (List.mem_cons_of_mem _ (List.mem_append_left _ (List.mem_of_getElem? (i := 4) rfl))) dX3_note_72 rfl ?_
  refine g_iconst (v := 1) hk dX3_note_75 (by decide) ?_
  refine g_iadd hk dX3_note_76 ?_
  refine g_norm (v := 1) (by decide) ?_
  refine g_bipush (v := 40) hk dX3_note_77 (by decide) ?_
  refine g_mmin hk (List.mem_cons_of_mem _ (List.mem_append_left _ (List.mem_of_getElem? (i := 5) rfl))) (List.mem_cons_of_mem _ (List.mem_append_left _ (List.mem_of_getElem? (i := 6) rfl))) (List.mem_cons_of_mem _ (List.mem_append_left _ (List.mem_of_getElem? (i := 7) rfl))) (List.mem_cons_of_mem _ (List.mem_append_left _ (List.mem_of_getElem? (i := 8) rfl))) (Nat.le_of_ble_eq_true rfl) (Nat.le_of_ble_eq_true rfl) (Nat.le_of_ble_eq_true rfl) (Nat.le_of_ble_eq_true rfl) dX3_note_79 ?_
  refine g_norm (v := 1) (by decide) ?_
  refine pX_i21 hk hin3 (List.mem_cons_of_mem _ (List.mem_append_left _ (List.mem_of_getElem? (i := 4) rfl))) dX3_note_82 ?_
  exact g_vret hk hR ⟨rfl, rfl⟩ dX3_note_85
def wo_m259_X7_allows : List Cond := [Cond.fieldLink RX7 23 "WarpDesk$Settings" "LOWEST" "[I", Cond.fieldLink RX7 26 "WarpDesk$Settings" "HIGHEST" "[I"]
def wz_m259_X7_allows : List Cond := .code yX7_allows cX7_allows 2 (some .boolean) :: (wo_m259_X7_allows ++ ([] : List Cond))
theorem zg_m259_X7_allows : ∀ w ∈ wz_m259_X7_allows, goodWord w = true := zg_cons rfl (zg_app (by decide +kernel) zg_nil)
theorem zi_m259_X7_allows : ∀ w ∈ wz_m259_X7_allows, w ∈ lw_tbl := zi_cons zw_724 (zi_app (zi_cons zw_725 (zi_cons zw_727 zi_nil)) zi_nil)
set_option maxHeartbeats 4000000 in
set_option maxRecDepth 100000 in
theorem m259_X7_allows (l : Launch) (D : va_G) (zt : Nat × Nat × Nat) (d : Nat → ClassId) (q : Nat → Nat) (a832 : Int32) (a833 : Int32) (h0 : 1 ≤ a832.toInt) (h1 : a832.toInt ≤ 1) : GM l D zt (tyX d) yX7_allows wz_m259_X7_allows ({ frames := 0, cells := 0, slots := 0, locals := 0 } : Room) [.int a832, .int a833] (wX q d iX0 aX0) (fun v _ w' => ((a832.toInt = 1) ∧ (a833.toInt < 0) ∧ v = some (.int 0) ∧ w' = wX q d iX0 aX0) ∨ ((a832.toInt = 1) ∧ (¬ (a833.toInt < 0)) ∧ (3 < a833.toInt) ∧ v = some (.int 0) ∧ w' = wX q d iX0 aX0) ∨ ((a832.toInt = 1) ∧ (¬ (a833.toInt < 0)) ∧ (¬ (3 < a833.toInt)) ∧ v = some (.int 1) ∧ w' = wX q d iX0 aX0)) 0 0 := by
  refine GM.of (cc := cX7_allows) (maxL := 2) (ret := (some .boolean)) (own := RX7) (lv := [(0, .int a832), (1, .int a833)]) (by decide) rfl rfl (Nat.le_of_ble_eq_true rfl) rfl (fun κ sz hk hR hN => ?_)
  refine g_iload_n hk dX7_allows_0 rfl ?_
  refine g_if_lt (tgt := 42) (a := a832.toInt) hk dX7_allows_1 (by decide) rfl (fun z9 => absurd z9 (show ¬ (a832.toInt < 0) from by omega)) (fun _ => ?_)
  refine g_iload_n hk dX7_allows_4 rfl ?_
  refine g_getsL hk (List.mem_cons_of_mem _ (List.mem_append_left _ (List.mem_of_getElem? (i := 0) rfl))) dX7_allows_5 ?_
  refine g_lenL hk dX7_allows_8 ?_
  refine g_icmp_ge (tgt := 42) (a := a832.toInt) (b := 4) hk dX7_allows_9 (by decide) rfl rfl (fun z9 => absurd z9 (show ¬ (4 ≤ a832.toInt) from by omega)) (fun _ => ?_)
  refine g_iload_n hk dX7_allows_12 rfl ?_
  refine g_getsH hk (List.mem_cons_of_mem _ (List.mem_append_left _ (List.mem_of_getElem? (i := 1) rfl))) dX7_allows_13 ?_
  refine g_lenH hk dX7_allows_16 ?_
  refine g_icmp_ge (tgt := 42) (a := a832.toInt) (b := 4) hk dX7_allows_17 (by decide) rfl rfl (fun z9 => absurd z9 (show ¬ (4 ≤ a832.toInt) from by omega)) (fun _ => ?_)
  refine g_iload_n hk dX7_allows_20 rfl ?_
  refine g_getsL hk (List.mem_cons_of_mem _ (List.mem_append_left _ (List.mem_of_getElem? (i := 0) rfl))) dX7_allows_21 ?_
  refine g_iload_n hk dX7_allows_24 rfl ?_
  by_cases c834 : a832.toInt = 1
  · obtain rfl : a832 = 1 := Int32.toInt_inj.mp c834
    refine g_sL (v := .int 0) hk (vp_in_iff.mpr ⟨by decide, by decide⟩) rfl dX7_allows_25 ?_
    refine g_icmp_lt (tgt := 42) (a := a833.toInt) (b := 0) hk dX7_allows_26 (by decide) rfl rfl (fun c835 => ?_) (fun c835 => ?_)
    · skip
      refine g_iconst (v := 0) hk dX7_allows_42 (by decide) ?_
      exact g_iret hk hR rfl (Or.inl ⟨c834, c835, rfl, rfl⟩) dX7_allows_43
    · skip
      refine g_iload_n hk dX7_allows_29 rfl ?_
      refine g_getsH hk (List.mem_cons_of_mem _ (List.mem_append_left _ (List.mem_of_getElem? (i := 1) rfl))) dX7_allows_30 ?_
      refine g_iload_n hk dX7_allows_33 rfl ?_
      refine g_sH (v := .int 3) hk (vp_in_iff.mpr ⟨by decide, by decide⟩) rfl dX7_allows_34 ?_
      refine g_icmp_gt (tgt := 42) (a := a833.toInt) (b := 3) hk dX7_allows_35 (by decide) rfl rfl (fun c836 => ?_) (fun c836 => ?_)
      · skip
        refine g_iconst (v := 0) hk dX7_allows_42 (by decide) ?_
        exact g_iret hk hR rfl (Or.inr (Or.inl ⟨c834, c835, c836, rfl, rfl⟩)) dX7_allows_43
      · skip
        refine g_iconst (v := 1) hk dX7_allows_38 (by decide) ?_
        refine g_goto (tgt := 43) hk dX7_allows_39 (by decide) ?_
        exact g_iret hk hR rfl (Or.inr (Or.inr (⟨c834, c835, c836, rfl, rfl⟩))) dX7_allows_43
  exfalso; omega
def wo_m260_X7_put : List Cond := [Cond.fieldLink RX7 20 "WarpDesk$Settings" "values" "[I"]
def wz_m260_X7_put : List Cond := .code yX7_put cX7_put 3 none :: (wo_m260_X7_put ++ (wsX70 ++ ([] : List Cond)))
theorem zg_m260_X7_put : ∀ w ∈ wz_m260_X7_put, goodWord w = true := zg_cons rfl (zg_app (by decide +kernel) (zg_app zgU_wsX70 zg_nil))
theorem zi_m260_X7_put : ∀ w ∈ wz_m260_X7_put, w ∈ lw_tbl := zi_cons zw_553 (zi_app (zi_cons zw_190 zi_nil) (zi_app inX7 zi_nil))
set_option maxHeartbeats 4000000 in
set_option maxRecDepth 100000 in
theorem m260_X7_put (l : Launch) (D : va_G) (zt : Nat × Nat × Nat) (d : Nat → ClassId) (q : Nat → Nat) (a846 : Int32) (a847 : Int32) (h0 : 1 ≤ a846.toInt) (h1 : a846.toInt ≤ 1) (h2 : 0 ≤ a847.toInt) (h3 : a847.toInt ≤ 3) : GM l D zt (tyX d) yX7_put wz_m260_X7_put ({ frames := 0, cells := 0, slots := 0, locals := 0 } : Room) [.ref (q 18), .int a846, .int a847] (wX q d iX0 aX0) (fun v _ w' => v = none ∧ w' = wX q d iX0 (up3 aX0 10 1 a847)) 0 0 := by
  refine GM.of (cc := cX7_put) (maxL := 3) (ret := none) (own := RX7) (lv := [(0, .ref (q 18)), (1, .int a846), (2, .int a847)]) (by decide) rfl rfl (Nat.le_of_ble_eq_true rfl) rfl (fun κ sz hk hR hN => ?_)
  have hin7 : ∀ w ∈ u_ws RX7 TX7 1, w ∈ wz_m260_X7_put := fun w h => (List.mem_cons_of_mem _ (List.mem_append_right _ (List.mem_append_left _ h)))
  refine g_iload_n hk dX7_put_0 rfl ?_
  refine g_if_lt (tgt := 20) (a := a846.toInt) hk dX7_put_1 (by decide) rfl (fun z9 => absurd z9 (show ¬ (a846.toInt < 0) from by omega)) (fun _ => ?_)
  refine g_iload_n hk dX7_put_4 rfl ?_
  refine g_aload_n hk dX7_put_5 rfl ?_
  refine gX_r18_0 hk hin7 (List.mem_cons_of_mem _ (List.mem_append_left _ (List.mem_of_getElem? (i := 0) rfl))) dX7_put_6 ?_
  refine nX_10 hk dX7_put_9 ?_
  refine g_icmp_ge (tgt := 20) (a := a846.toInt) (b := 4) hk dX7_put_10 (by decide) rfl rfl (fun z9 => absurd z9 (show ¬ (4 ≤ a846.toInt) from by omega)) (fun _ => ?_)
  refine g_aload_n hk dX7_put_13 rfl ?_
  refine gX_r18_0 hk hin7 (List.mem_cons_of_mem _ (List.mem_append_left _ (List.mem_of_getElem? (i := 0) rfl))) dX7_put_14 ?_
  refine g_iload_n hk dX7_put_17 rfl ?_
  refine g_iload_n hk dX7_put_18 rfl ?_
  by_cases c848 : a846.toInt = 1
  · obtain rfl : a846 = 1 := Int32.toInt_inj.mp c848
    refine sX_10 (j := 1) hk (vp_in_iff.mpr ⟨by decide, by decide⟩) (by decide) dX7_put_19 ?_
    exact g_vret hk hR ⟨rfl, rfl⟩ dX7_put_20
  exfalso; omega
def wo_m261_X3_note : List Cond := [Cond.fieldLink RX3 23 "WarpDesk$Past" "next" "I", Cond.fieldLink RX3 9 "WarpDesk$Past" "kinds" "[I", Cond.fieldLink RX3 13 "WarpDesk$Past" "firsts" "[I", Cond.fieldLink RX3 16 "WarpDesk$Past" "seconds" "[I", Cond.fieldLink RX3 19 "WarpDesk$Past" "size" "I", Cond.methodLink RX3 26 Lib.Math.min.name, Cond.static Lib.Math.min.name, Cond.initialized "java/lang/Math", Cond.code Lib.Math.min.name Lib.Math.min.code 2 (some .int)]
def wz_m261_X3_note : List Cond := .code yX3_note cX3_note 4 none :: (wo_m261_X3_note ++ (wsX30 ++ ([] : List Cond)))
theorem zg_m261_X3_note : ∀ w ∈ wz_m261_X3_note, goodWord w = true := zg_cons rfl (zg_app (by decide +kernel) (zg_app zgU_wsX30 zg_nil))
theorem zi_m261_X3_note : ∀ w ∈ wz_m261_X3_note, w ∈ lw_tbl := zi_cons zw_827 (zi_app (zi_cons zw_305 (zi_cons zw_302 (zi_cons zw_303 (zi_cons zw_304 (zi_cons zw_306 (zi_cons zw_828 (zi_cons zw_829 (zi_cons zw_120 (zi_cons zw_830 zi_nil))))))))) (zi_app inX3 zi_nil))
set_option maxHeartbeats 4000000 in
set_option maxRecDepth 100000 in
theorem m261_X3_note (l : Launch) (D : va_G) (zt : Nat × Nat × Nat) (a781 : Int32) (d : Nat → ClassId) (q : Nat → Nat) (a849 : Int32) (h0 : 1 ≤ a849.toInt) (h1 : a849.toInt ≤ 1) : GM l D zt (tyX d) yX3_note wz_m261_X3_note ({ frames := 1, cells := 0, slots := 0, locals := 14 } : Room) [.ref (q 20), .int 3, .int a849, .int 0] (wX q d iX0 (up3 aX0 10 1 a781)) (fun v _ w' => v = none ∧ w' = wX q d (upd (upd iX0 20 1) 21 1) (up3 (up3 (up3 aX0 10 1 a781) 11 0 3) 12 0 a849)) 0 0 := by
  refine GM.of (cc := cX3_note) (maxL := 4) (ret := none) (own := RX3) (lv := [(0, .ref (q 20)), (1, .int 3), (2, .int a849), (3, .int 0)]) (by decide) rfl rfl (Nat.le_of_ble_eq_true rfl) rfl (fun κ sz hk hR hN => ?_)
  have hin3 : ∀ w ∈ u_ws RX3 TX3 5, w ∈ wz_m261_X3_note := fun w h => (List.mem_cons_of_mem _ (List.mem_append_right _ (List.mem_append_left _ h)))
  refine g_aload_n hk dX3_note_0 rfl ?_
  refine gX_i20 (v := 0) hk hin3 (List.mem_cons_of_mem _ (List.mem_append_left _ (List.mem_of_getElem? (i := 0) rfl))) dX3_note_1 rfl ?_
  refine g_if_lt (tgt := 16) (a := 0) hk dX3_note_4 (by decide) rfl (fun z9 => absurd z9 (show ¬ ((0 : Int) < (0 : Int)) from by decide)) (fun _ => ?_)
  refine g_aload_n hk dX3_note_7 rfl ?_
  refine gX_i20 (v := 0) hk hin3 (List.mem_cons_of_mem _ (List.mem_append_left _ (List.mem_of_getElem? (i := 0) rfl))) dX3_note_8 rfl ?_
  refine g_bipush (v := 40) hk dX3_note_11 (by decide) ?_
  refine g_icmp_lt (tgt := 17) (a := 0) (b := 40) hk dX3_note_13 (by decide) rfl rfl (fun _ => ?_) (fun z9 => absurd (show (0 : Int) < (40 : Int) from by decide) z9)
  refine g_aload_n hk dX3_note_17 rfl ?_
  refine gX_r20_0 hk hin3 (List.mem_cons_of_mem _ (List.mem_append_left _ (List.mem_of_getElem? (i := 1) rfl))) dX3_note_18 ?_
  refine g_aload_n hk dX3_note_21 rfl ?_
  refine gX_i20 (v := 0) hk hin3 (List.mem_cons_of_mem _ (List.mem_append_left _ (List.mem_of_getElem? (i := 0) rfl))) dX3_note_22 rfl ?_
  refine g_iload_n hk dX3_note_25 rfl ?_
  refine sX_11 (j := 0) hk (vp_in_iff.mpr ⟨by decide, by decide⟩) (by decide) dX3_note_26 ?_
  refine g_aload_n hk dX3_note_27 rfl ?_
  refine gX_r20_1 hk hin3 (List.mem_cons_of_mem _ (List.mem_append_left _ (List.mem_of_getElem? (i := 2) rfl))) dX3_note_28 ?_
  refine g_aload_n hk dX3_note_31 rfl ?_
  refine gX_i20 (v := 0) hk hin3 (List.mem_cons_of_mem _ (List.mem_append_left _ (List.mem_of_getElem? (i := 0) rfl))) dX3_note_32 rfl ?_
  refine g_iload_n hk dX3_note_35 rfl ?_
  refine sX_12 (j := 0) hk (vp_in_iff.mpr ⟨by decide, by decide⟩) (by decide) dX3_note_36 ?_
  refine g_aload_n hk dX3_note_37 rfl ?_
  refine gX_r20_2 hk hin3 (List.mem_cons_of_mem _ (List.mem_append_left _ (List.mem_of_getElem? (i := 3) rfl))) dX3_note_38 ?_
  refine g_aload_n hk dX3_note_41 rfl ?_
  refine gX_i20 (v := 0) hk hin3 (List.mem_cons_of_mem _ (List.mem_append_left _ (List.mem_of_getElem? (i := 0) rfl))) dX3_note_42 rfl ?_
  refine g_iload_n hk dX3_note_45 rfl ?_
  refine sX_13 (j := 0) hk (vp_in_iff.mpr ⟨by decide, by decide⟩) (by decide) dX3_note_46 ?_
  refine gX_same rfl ?_
  refine g_aload_n hk dX3_note_47 rfl ?_
  refine g_aload_n hk dX3_note_48 rfl ?_
  refine gX_i20 (v := 0) hk hin3 (List.mem_cons_of_mem _ (List.mem_append_left _ (List.mem_of_getElem? (i := 0) rfl))) dX3_note_49 rfl ?_
  refine g_bipush (v := 39) hk dX3_note_52 (by decide) ?_
  refine g_icmp_ne (tgt := 61) (a := 0) (b := 39) hk dX3_note_54 (by decide) rfl rfl (fun _ => ?_) (fun z9 => absurd (show (0 : Int) ≠ (39 : Int) from by decide) z9)
  refine g_aload_n hk dX3_note_61 rfl ?_
  refine gX_i20 (v := 0) hk hin3 (List.mem_cons_of_mem _ (List.mem_append_left _ (List.mem_of_getElem? (i := 0) rfl))) dX3_note_62 rfl ?_
  refine g_iconst (v := 1) hk dX3_note_65 (by decide) ?_
  refine g_iadd hk dX3_note_66 ?_
  refine g_norm (v := 1) (by decide) ?_
  refine pX_i20 hk hin3 (List.mem_cons_of_mem _ (List.mem_append_left _ (List.mem_of_getElem? (i := 0) rfl))) dX3_note_67 ?_
  refine g_aload_n hk dX3_note_70 rfl ?_
  refine g_aload_n hk dX3_note_71 rfl ?_
  refine gX_i21 (v := 0) hk hin3 (List.mem_cons_of_mem _ (List.mem_append_left _ (List.mem_of_getElem? (i := 4) rfl))) dX3_note_72 rfl ?_
  refine g_iconst (v := 1) hk dX3_note_75 (by decide) ?_
  refine g_iadd hk dX3_note_76 ?_
  refine g_norm (v := 1) (by decide) ?_
  refine g_bipush (v := 40) hk dX3_note_77 (by decide) ?_
  refine g_mmin hk (List.mem_cons_of_mem _ (List.mem_append_left _ (List.mem_of_getElem? (i := 5) rfl))) (List.mem_cons_of_mem _ (List.mem_append_left _ (List.mem_of_getElem? (i := 6) rfl))) (List.mem_cons_of_mem _ (List.mem_append_left _ (List.mem_of_getElem? (i := 7) rfl))) (List.mem_cons_of_mem _ (List.mem_append_left _ (List.mem_of_getElem? (i := 8) rfl))) (Nat.le_of_ble_eq_true rfl) (Nat.le_of_ble_eq_true rfl) (Nat.le_of_ble_eq_true rfl) (Nat.le_of_ble_eq_true rfl) dX3_note_79 ?_
  refine g_norm (v := 1) (by decide) ?_
  refine pX_i21 hk hin3 (List.mem_cons_of_mem _ (List.mem_append_left _ (List.mem_of_getElem? (i := 4) rfl))) dX3_note_82 ?_
  exact g_vret hk hR ⟨rfl, rfl⟩ dX3_note_85
def wo_m262_X7_allows : List Cond := [Cond.fieldLink RX7 23 "WarpDesk$Settings" "LOWEST" "[I", Cond.fieldLink RX7 26 "WarpDesk$Settings" "HIGHEST" "[I"]
def wz_m262_X7_allows : List Cond := .code yX7_allows cX7_allows 2 (some .boolean) :: (wo_m262_X7_allows ++ ([] : List Cond))
theorem zg_m262_X7_allows : ∀ w ∈ wz_m262_X7_allows, goodWord w = true := zg_cons rfl (zg_app (by decide +kernel) zg_nil)
theorem zi_m262_X7_allows : ∀ w ∈ wz_m262_X7_allows, w ∈ lw_tbl := zi_cons zw_724 (zi_app (zi_cons zw_725 (zi_cons zw_727 zi_nil)) zi_nil)
set_option maxHeartbeats 4000000 in
set_option maxRecDepth 100000 in
theorem m262_X7_allows (l : Launch) (D : va_G) (zt : Nat × Nat × Nat) (d : Nat → ClassId) (q : Nat → Nat) (a850 : Int32) (a851 : Int32) (h0 : 2 ≤ a850.toInt) (h1 : a850.toInt ≤ 2) : GM l D zt (tyX d) yX7_allows wz_m262_X7_allows ({ frames := 0, cells := 0, slots := 0, locals := 0 } : Room) [.int a850, .int a851] (wX q d iX0 aX0) (fun v _ w' => ((a850.toInt = 2) ∧ (a851.toInt < 0) ∧ v = some (.int 0) ∧ w' = wX q d iX0 aX0) ∨ ((a850.toInt = 2) ∧ (¬ (a851.toInt < 0)) ∧ (1 < a851.toInt) ∧ v = some (.int 0) ∧ w' = wX q d iX0 aX0) ∨ ((a850.toInt = 2) ∧ (¬ (a851.toInt < 0)) ∧ (¬ (1 < a851.toInt)) ∧ v = some (.int 1) ∧ w' = wX q d iX0 aX0)) 0 0 := by
  refine GM.of (cc := cX7_allows) (maxL := 2) (ret := (some .boolean)) (own := RX7) (lv := [(0, .int a850), (1, .int a851)]) (by decide) rfl rfl (Nat.le_of_ble_eq_true rfl) rfl (fun κ sz hk hR hN => ?_)
  refine g_iload_n hk dX7_allows_0 rfl ?_
  refine g_if_lt (tgt := 42) (a := a850.toInt) hk dX7_allows_1 (by decide) rfl (fun z9 => absurd z9 (show ¬ (a850.toInt < 0) from by omega)) (fun _ => ?_)
  refine g_iload_n hk dX7_allows_4 rfl ?_
  refine g_getsL hk (List.mem_cons_of_mem _ (List.mem_append_left _ (List.mem_of_getElem? (i := 0) rfl))) dX7_allows_5 ?_
  refine g_lenL hk dX7_allows_8 ?_
  refine g_icmp_ge (tgt := 42) (a := a850.toInt) (b := 4) hk dX7_allows_9 (by decide) rfl rfl (fun z9 => absurd z9 (show ¬ (4 ≤ a850.toInt) from by omega)) (fun _ => ?_)
  refine g_iload_n hk dX7_allows_12 rfl ?_
  refine g_getsH hk (List.mem_cons_of_mem _ (List.mem_append_left _ (List.mem_of_getElem? (i := 1) rfl))) dX7_allows_13 ?_
  refine g_lenH hk dX7_allows_16 ?_
  refine g_icmp_ge (tgt := 42) (a := a850.toInt) (b := 4) hk dX7_allows_17 (by decide) rfl rfl (fun z9 => absurd z9 (show ¬ (4 ≤ a850.toInt) from by omega)) (fun _ => ?_)
  refine g_iload_n hk dX7_allows_20 rfl ?_
  refine g_getsL hk (List.mem_cons_of_mem _ (List.mem_append_left _ (List.mem_of_getElem? (i := 0) rfl))) dX7_allows_21 ?_
  refine g_iload_n hk dX7_allows_24 rfl ?_
  by_cases c852 : a850.toInt = 2
  · obtain rfl : a850 = 2 := Int32.toInt_inj.mp c852
    refine g_sL (v := .int 0) hk (vp_in_iff.mpr ⟨by decide, by decide⟩) rfl dX7_allows_25 ?_
    refine g_icmp_lt (tgt := 42) (a := a851.toInt) (b := 0) hk dX7_allows_26 (by decide) rfl rfl (fun c853 => ?_) (fun c853 => ?_)
    · skip
      refine g_iconst (v := 0) hk dX7_allows_42 (by decide) ?_
      exact g_iret hk hR rfl (Or.inl ⟨c852, c853, rfl, rfl⟩) dX7_allows_43
    · skip
      refine g_iload_n hk dX7_allows_29 rfl ?_
      refine g_getsH hk (List.mem_cons_of_mem _ (List.mem_append_left _ (List.mem_of_getElem? (i := 1) rfl))) dX7_allows_30 ?_
      refine g_iload_n hk dX7_allows_33 rfl ?_
      refine g_sH (v := .int 1) hk (vp_in_iff.mpr ⟨by decide, by decide⟩) rfl dX7_allows_34 ?_
      refine g_icmp_gt (tgt := 42) (a := a851.toInt) (b := 1) hk dX7_allows_35 (by decide) rfl rfl (fun c854 => ?_) (fun c854 => ?_)
      · skip
        refine g_iconst (v := 0) hk dX7_allows_42 (by decide) ?_
        exact g_iret hk hR rfl (Or.inr (Or.inl ⟨c852, c853, c854, rfl, rfl⟩)) dX7_allows_43
      · skip
        refine g_iconst (v := 1) hk dX7_allows_38 (by decide) ?_
        refine g_goto (tgt := 43) hk dX7_allows_39 (by decide) ?_
        exact g_iret hk hR rfl (Or.inr (Or.inr (⟨c852, c853, c854, rfl, rfl⟩))) dX7_allows_43
  exfalso; omega
def wo_m263_X7_put : List Cond := [Cond.fieldLink RX7 20 "WarpDesk$Settings" "values" "[I"]
def wz_m263_X7_put : List Cond := .code yX7_put cX7_put 3 none :: (wo_m263_X7_put ++ (wsX70 ++ ([] : List Cond)))
theorem zg_m263_X7_put : ∀ w ∈ wz_m263_X7_put, goodWord w = true := zg_cons rfl (zg_app (by decide +kernel) (zg_app zgU_wsX70 zg_nil))
theorem zi_m263_X7_put : ∀ w ∈ wz_m263_X7_put, w ∈ lw_tbl := zi_cons zw_553 (zi_app (zi_cons zw_190 zi_nil) (zi_app inX7 zi_nil))
set_option maxHeartbeats 4000000 in
set_option maxRecDepth 100000 in
theorem m263_X7_put (l : Launch) (D : va_G) (zt : Nat × Nat × Nat) (d : Nat → ClassId) (q : Nat → Nat) (a864 : Int32) (a865 : Int32) (h0 : 2 ≤ a864.toInt) (h1 : a864.toInt ≤ 2) (h2 : 0 ≤ a865.toInt) (h3 : a865.toInt ≤ 1) : GM l D zt (tyX d) yX7_put wz_m263_X7_put ({ frames := 0, cells := 0, slots := 0, locals := 0 } : Room) [.ref (q 18), .int a864, .int a865] (wX q d iX0 aX0) (fun v _ w' => v = none ∧ w' = wX q d iX0 (up3 aX0 10 2 a865)) 0 0 := by
  refine GM.of (cc := cX7_put) (maxL := 3) (ret := none) (own := RX7) (lv := [(0, .ref (q 18)), (1, .int a864), (2, .int a865)]) (by decide) rfl rfl (Nat.le_of_ble_eq_true rfl) rfl (fun κ sz hk hR hN => ?_)
  have hin7 : ∀ w ∈ u_ws RX7 TX7 1, w ∈ wz_m263_X7_put := fun w h => (List.mem_cons_of_mem _ (List.mem_append_right _ (List.mem_append_left _ h)))
  refine g_iload_n hk dX7_put_0 rfl ?_
  refine g_if_lt (tgt := 20) (a := a864.toInt) hk dX7_put_1 (by decide) rfl (fun z9 => absurd z9 (show ¬ (a864.toInt < 0) from by omega)) (fun _ => ?_)
  refine g_iload_n hk dX7_put_4 rfl ?_
  refine g_aload_n hk dX7_put_5 rfl ?_
  refine gX_r18_0 hk hin7 (List.mem_cons_of_mem _ (List.mem_append_left _ (List.mem_of_getElem? (i := 0) rfl))) dX7_put_6 ?_
  refine nX_10 hk dX7_put_9 ?_
  refine g_icmp_ge (tgt := 20) (a := a864.toInt) (b := 4) hk dX7_put_10 (by decide) rfl rfl (fun z9 => absurd z9 (show ¬ (4 ≤ a864.toInt) from by omega)) (fun _ => ?_)
  refine g_aload_n hk dX7_put_13 rfl ?_
  refine gX_r18_0 hk hin7 (List.mem_cons_of_mem _ (List.mem_append_left _ (List.mem_of_getElem? (i := 0) rfl))) dX7_put_14 ?_
  refine g_iload_n hk dX7_put_17 rfl ?_
  refine g_iload_n hk dX7_put_18 rfl ?_
  by_cases c866 : a864.toInt = 2
  · obtain rfl : a864 = 2 := Int32.toInt_inj.mp c866
    refine sX_10 (j := 2) hk (vp_in_iff.mpr ⟨by decide, by decide⟩) (by decide) dX7_put_19 ?_
    exact g_vret hk hR ⟨rfl, rfl⟩ dX7_put_20
  exfalso; omega
def wo_m264_X3_note : List Cond := [Cond.fieldLink RX3 23 "WarpDesk$Past" "next" "I", Cond.fieldLink RX3 9 "WarpDesk$Past" "kinds" "[I", Cond.fieldLink RX3 13 "WarpDesk$Past" "firsts" "[I", Cond.fieldLink RX3 16 "WarpDesk$Past" "seconds" "[I", Cond.fieldLink RX3 19 "WarpDesk$Past" "size" "I", Cond.methodLink RX3 26 Lib.Math.min.name, Cond.static Lib.Math.min.name, Cond.initialized "java/lang/Math", Cond.code Lib.Math.min.name Lib.Math.min.code 2 (some .int)]
def wz_m264_X3_note : List Cond := .code yX3_note cX3_note 4 none :: (wo_m264_X3_note ++ (wsX30 ++ ([] : List Cond)))
theorem zg_m264_X3_note : ∀ w ∈ wz_m264_X3_note, goodWord w = true := zg_cons rfl (zg_app (by decide +kernel) (zg_app zgU_wsX30 zg_nil))
theorem zi_m264_X3_note : ∀ w ∈ wz_m264_X3_note, w ∈ lw_tbl := zi_cons zw_827 (zi_app (zi_cons zw_305 (zi_cons zw_302 (zi_cons zw_303 (zi_cons zw_304 (zi_cons zw_306 (zi_cons zw_828 (zi_cons zw_829 (zi_cons zw_120 (zi_cons zw_830 zi_nil))))))))) (zi_app inX3 zi_nil))
set_option maxHeartbeats 4000000 in
set_option maxRecDepth 100000 in
theorem m264_X3_note (l : Launch) (D : va_G) (zt : Nat × Nat × Nat) (a781 : Int32) (d : Nat → ClassId) (q : Nat → Nat) (a867 : Int32) (h0 : 2 ≤ a867.toInt) (h1 : a867.toInt ≤ 2) : GM l D zt (tyX d) yX3_note wz_m264_X3_note ({ frames := 1, cells := 0, slots := 0, locals := 14 } : Room) [.ref (q 20), .int 3, .int a867, .int 0] (wX q d iX0 (up3 aX0 10 2 a781)) (fun v _ w' => v = none ∧ w' = wX q d (upd (upd iX0 20 1) 21 1) (up3 (up3 (up3 aX0 10 2 a781) 11 0 3) 12 0 a867)) 0 0 := by
  refine GM.of (cc := cX3_note) (maxL := 4) (ret := none) (own := RX3) (lv := [(0, .ref (q 20)), (1, .int 3), (2, .int a867), (3, .int 0)]) (by decide) rfl rfl (Nat.le_of_ble_eq_true rfl) rfl (fun κ sz hk hR hN => ?_)
  have hin3 : ∀ w ∈ u_ws RX3 TX3 5, w ∈ wz_m264_X3_note := fun w h => (List.mem_cons_of_mem _ (List.mem_append_right _ (List.mem_append_left _ h)))
  refine g_aload_n hk dX3_note_0 rfl ?_
  refine gX_i20 (v := 0) hk hin3 (List.mem_cons_of_mem _ (List.mem_append_left _ (List.mem_of_getElem? (i := 0) rfl))) dX3_note_1 rfl ?_
  refine g_if_lt (tgt := 16) (a := 0) hk dX3_note_4 (by decide) rfl (fun z9 => absurd z9 (show ¬ ((0 : Int) < (0 : Int)) from by decide)) (fun _ => ?_)
  refine g_aload_n hk dX3_note_7 rfl ?_
  refine gX_i20 (v := 0) hk hin3 (List.mem_cons_of_mem _ (List.mem_append_left _ (List.mem_of_getElem? (i := 0) rfl))) dX3_note_8 rfl ?_
  refine g_bipush (v := 40) hk dX3_note_11 (by decide) ?_
  refine g_icmp_lt (tgt := 17) (a := 0) (b := 40) hk dX3_note_13 (by decide) rfl rfl (fun _ => ?_) (fun z9 => absurd (show (0 : Int) < (40 : Int) from by decide) z9)
  refine g_aload_n hk dX3_note_17 rfl ?_
  refine gX_r20_0 hk hin3 (List.mem_cons_of_mem _ (List.mem_append_left _ (List.mem_of_getElem? (i := 1) rfl))) dX3_note_18 ?_
  refine g_aload_n hk dX3_note_21 rfl ?_
  refine gX_i20 (v := 0) hk hin3 (List.mem_cons_of_mem _ (List.mem_append_left _ (List.mem_of_getElem? (i := 0) rfl))) dX3_note_22 rfl ?_
  refine g_iload_n hk dX3_note_25 rfl ?_
  refine sX_11 (j := 0) hk (vp_in_iff.mpr ⟨by decide, by decide⟩) (by decide) dX3_note_26 ?_
  refine g_aload_n hk dX3_note_27 rfl ?_
  refine gX_r20_1 hk hin3 (List.mem_cons_of_mem _ (List.mem_append_left _ (List.mem_of_getElem? (i := 2) rfl))) dX3_note_28 ?_
  refine g_aload_n hk dX3_note_31 rfl ?_
  refine gX_i20 (v := 0) hk hin3 (List.mem_cons_of_mem _ (List.mem_append_left _ (List.mem_of_getElem? (i := 0) rfl))) dX3_note_32 rfl ?_
  refine g_iload_n hk dX3_note_35 rfl ?_
  refine sX_12 (j := 0) hk (vp_in_iff.mpr ⟨by decide, by decide⟩) (by decide) dX3_note_36 ?_
  refine g_aload_n hk dX3_note_37 rfl ?_
  refine gX_r20_2 hk hin3 (List.mem_cons_of_mem _ (List.mem_append_left _ (List.mem_of_getElem? (i := 3) rfl))) dX3_note_38 ?_
  refine g_aload_n hk dX3_note_41 rfl ?_
  refine gX_i20 (v := 0) hk hin3 (List.mem_cons_of_mem _ (List.mem_append_left _ (List.mem_of_getElem? (i := 0) rfl))) dX3_note_42 rfl ?_
  refine g_iload_n hk dX3_note_45 rfl ?_
  refine sX_13 (j := 0) hk (vp_in_iff.mpr ⟨by decide, by decide⟩) (by decide) dX3_note_46 ?_
  refine gX_same rfl ?_
  refine g_aload_n hk dX3_note_47 rfl ?_
  refine g_aload_n hk dX3_note_48 rfl ?_
  refine gX_i20 (v := 0) hk hin3 (List.mem_cons_of_mem _ (List.mem_append_left _ (List.mem_of_getElem? (i := 0) rfl))) dX3_note_49 rfl ?_
  refine g_bipush (v := 39) hk dX3_note_52 (by decide) ?_
  refine g_icmp_ne (tgt := 61) (a := 0) (b := 39) hk dX3_note_54 (by decide) rfl rfl (fun _ => ?_) (fun z9 => absurd (show (0 : Int) ≠ (39 : Int) from by decide) z9)
  refine g_aload_n hk dX3_note_61 rfl ?_
  refine gX_i20 (v := 0) hk hin3 (List.mem_cons_of_mem _ (List.mem_append_left _ (List.mem_of_getElem? (i := 0) rfl))) dX3_note_62 rfl ?_
  refine g_iconst (v := 1) hk dX3_note_65 (by decide) ?_
  refine g_iadd hk dX3_note_66 ?_
  refine g_norm (v := 1) (by decide) ?_
  refine pX_i20 hk hin3 (List.mem_cons_of_mem _ (List.mem_append_left _ (List.mem_of_getElem? (i := 0) rfl))) dX3_note_67 ?_
  refine g_aload_n hk dX3_note_70 rfl ?_
  refine g_aload_n hk dX3_note_71 rfl ?_
  refine gX_i21 (v := 0) hk hin3 (List.mem_cons_of_mem _ (List.mem_append_left _ (List.mem_of_getElem? (i := 4) rfl))) dX3_note_72 rfl ?_
  refine g_iconst (v := 1) hk dX3_note_75 (by decide) ?_
  refine g_iadd hk dX3_note_76 ?_
  refine g_norm (v := 1) (by decide) ?_
  refine g_bipush (v := 40) hk dX3_note_77 (by decide) ?_
  refine g_mmin hk (List.mem_cons_of_mem _ (List.mem_append_left _ (List.mem_of_getElem? (i := 5) rfl))) (List.mem_cons_of_mem _ (List.mem_append_left _ (List.mem_of_getElem? (i := 6) rfl))) (List.mem_cons_of_mem _ (List.mem_append_left _ (List.mem_of_getElem? (i := 7) rfl))) (List.mem_cons_of_mem _ (List.mem_append_left _ (List.mem_of_getElem? (i := 8) rfl))) (Nat.le_of_ble_eq_true rfl) (Nat.le_of_ble_eq_true rfl) (Nat.le_of_ble_eq_true rfl) (Nat.le_of_ble_eq_true rfl) dX3_note_79 ?_
  refine g_norm (v := 1) (by decide) ?_
  refine pX_i21 hk hin3 (List.mem_cons_of_mem _ (List.mem_append_left _ (List.mem_of_getElem? (i := 4) rfl))) dX3_note_82 ?_
  exact g_vret hk hR ⟨rfl, rfl⟩ dX3_note_85
def wo_m265_X7_allows : List Cond := [Cond.fieldLink RX7 23 "WarpDesk$Settings" "LOWEST" "[I", Cond.fieldLink RX7 26 "WarpDesk$Settings" "HIGHEST" "[I"]
def wz_m265_X7_allows : List Cond := .code yX7_allows cX7_allows 2 (some .boolean) :: (wo_m265_X7_allows ++ ([] : List Cond))
theorem zg_m265_X7_allows : ∀ w ∈ wz_m265_X7_allows, goodWord w = true := zg_cons rfl (zg_app (by decide +kernel) zg_nil)
theorem zi_m265_X7_allows : ∀ w ∈ wz_m265_X7_allows, w ∈ lw_tbl := zi_cons zw_724 (zi_app (zi_cons zw_725 (zi_cons zw_727 zi_nil)) zi_nil)
set_option maxHeartbeats 4000000 in
set_option maxRecDepth 100000 in
theorem m265_X7_allows (l : Launch) (D : va_G) (zt : Nat × Nat × Nat) (d : Nat → ClassId) (q : Nat → Nat) (a868 : Int32) (a869 : Int32) (h0 : 3 ≤ a868.toInt) (h1 : a868.toInt ≤ 3) : GM l D zt (tyX d) yX7_allows wz_m265_X7_allows ({ frames := 0, cells := 0, slots := 0, locals := 0 } : Room) [.int a868, .int a869] (wX q d iX0 aX0) (fun v _ w' => ((a868.toInt = 3) ∧ (a869.toInt < 1) ∧ v = some (.int 0) ∧ w' = wX q d iX0 aX0) ∨ ((a868.toInt = 3) ∧ (¬ (a869.toInt < 1)) ∧ (99 < a869.toInt) ∧ v = some (.int 0) ∧ w' = wX q d iX0 aX0) ∨ ((a868.toInt = 3) ∧ (¬ (a869.toInt < 1)) ∧ (¬ (99 < a869.toInt)) ∧ v = some (.int 1) ∧ w' = wX q d iX0 aX0)) 0 0 := by
  refine GM.of (cc := cX7_allows) (maxL := 2) (ret := (some .boolean)) (own := RX7) (lv := [(0, .int a868), (1, .int a869)]) (by decide) rfl rfl (Nat.le_of_ble_eq_true rfl) rfl (fun κ sz hk hR hN => ?_)
  refine g_iload_n hk dX7_allows_0 rfl ?_
  refine g_if_lt (tgt := 42) (a := a868.toInt) hk dX7_allows_1 (by decide) rfl (fun z9 => absurd z9 (show ¬ (a868.toInt < 0) from by omega)) (fun _ => ?_)
  refine g_iload_n hk dX7_allows_4 rfl ?_
  refine g_getsL hk (List.mem_cons_of_mem _ (List.mem_append_left _ (List.mem_of_getElem? (i := 0) rfl))) dX7_allows_5 ?_
  refine g_lenL hk dX7_allows_8 ?_
  refine g_icmp_ge (tgt := 42) (a := a868.toInt) (b := 4) hk dX7_allows_9 (by decide) rfl rfl (fun z9 => absurd z9 (show ¬ (4 ≤ a868.toInt) from by omega)) (fun _ => ?_)
  refine g_iload_n hk dX7_allows_12 rfl ?_
  refine g_getsH hk (List.mem_cons_of_mem _ (List.mem_append_left _ (List.mem_of_getElem? (i := 1) rfl))) dX7_allows_13 ?_
  refine g_lenH hk dX7_allows_16 ?_
  refine g_icmp_ge (tgt := 42) (a := a868.toInt) (b := 4) hk dX7_allows_17 (by decide) rfl rfl (fun z9 => absurd z9 (show ¬ (4 ≤ a868.toInt) from by omega)) (fun _ => ?_)
  refine g_iload_n hk dX7_allows_20 rfl ?_
  refine g_getsL hk (List.mem_cons_of_mem _ (List.mem_append_left _ (List.mem_of_getElem? (i := 0) rfl))) dX7_allows_21 ?_
  refine g_iload_n hk dX7_allows_24 rfl ?_
  by_cases c870 : a868.toInt = 3
  · obtain rfl : a868 = 3 := Int32.toInt_inj.mp c870
    refine g_sL (v := .int 1) hk (vp_in_iff.mpr ⟨by decide, by decide⟩) rfl dX7_allows_25 ?_
    refine g_icmp_lt (tgt := 42) (a := a869.toInt) (b := 1) hk dX7_allows_26 (by decide) rfl rfl (fun c871 => ?_) (fun c871 => ?_)
    · skip
      refine g_iconst (v := 0) hk dX7_allows_42 (by decide) ?_
      exact g_iret hk hR rfl (Or.inl ⟨c870, c871, rfl, rfl⟩) dX7_allows_43
    · skip
      refine g_iload_n hk dX7_allows_29 rfl ?_
      refine g_getsH hk (List.mem_cons_of_mem _ (List.mem_append_left _ (List.mem_of_getElem? (i := 1) rfl))) dX7_allows_30 ?_
      refine g_iload_n hk dX7_allows_33 rfl ?_
      refine g_sH (v := .int 99) hk (vp_in_iff.mpr ⟨by decide, by decide⟩) rfl dX7_allows_34 ?_
      refine g_icmp_gt (tgt := 42) (a := a869.toInt) (b := 99) hk dX7_allows_35 (by decide) rfl rfl (fun c872 => ?_) (fun c872 => ?_)
      · skip
        refine g_iconst (v := 0) hk dX7_allows_42 (by decide) ?_
        exact g_iret hk hR rfl (Or.inr (Or.inl ⟨c870, c871, c872, rfl, rfl⟩)) dX7_allows_43
      · skip
        refine g_iconst (v := 1) hk dX7_allows_38 (by decide) ?_
        refine g_goto (tgt := 43) hk dX7_allows_39 (by decide) ?_
        exact g_iret hk hR rfl (Or.inr (Or.inr (⟨c870, c871, c872, rfl, rfl⟩))) dX7_allows_43
  exfalso; omega
def wo_m266_X7_put : List Cond := [Cond.fieldLink RX7 20 "WarpDesk$Settings" "values" "[I"]
def wz_m266_X7_put : List Cond := .code yX7_put cX7_put 3 none :: (wo_m266_X7_put ++ (wsX70 ++ ([] : List Cond)))
theorem zg_m266_X7_put : ∀ w ∈ wz_m266_X7_put, goodWord w = true := zg_cons rfl (zg_app (by decide +kernel) (zg_app zgU_wsX70 zg_nil))
theorem zi_m266_X7_put : ∀ w ∈ wz_m266_X7_put, w ∈ lw_tbl := zi_cons zw_553 (zi_app (zi_cons zw_190 zi_nil) (zi_app inX7 zi_nil))
set_option maxHeartbeats 4000000 in
set_option maxRecDepth 100000 in
theorem m266_X7_put (l : Launch) (D : va_G) (zt : Nat × Nat × Nat) (d : Nat → ClassId) (q : Nat → Nat) (a882 : Int32) (a883 : Int32) (h0 : 3 ≤ a882.toInt) (h1 : a882.toInt ≤ 3) (h2 : 1 ≤ a883.toInt) (h3 : a883.toInt ≤ 99) : GM l D zt (tyX d) yX7_put wz_m266_X7_put ({ frames := 0, cells := 0, slots := 0, locals := 0 } : Room) [.ref (q 18), .int a882, .int a883] (wX q d iX0 aX0) (fun v _ w' => v = none ∧ w' = wX q d iX0 (up3 aX0 10 3 a883)) 0 0 := by
  refine GM.of (cc := cX7_put) (maxL := 3) (ret := none) (own := RX7) (lv := [(0, .ref (q 18)), (1, .int a882), (2, .int a883)]) (by decide) rfl rfl (Nat.le_of_ble_eq_true rfl) rfl (fun κ sz hk hR hN => ?_)
  have hin7 : ∀ w ∈ u_ws RX7 TX7 1, w ∈ wz_m266_X7_put := fun w h => (List.mem_cons_of_mem _ (List.mem_append_right _ (List.mem_append_left _ h)))
  refine g_iload_n hk dX7_put_0 rfl ?_
  refine g_if_lt (tgt := 20) (a := a882.toInt) hk dX7_put_1 (by decide) rfl (fun z9 => absurd z9 (show ¬ (a882.toInt < 0) from by omega)) (fun _ => ?_)
  refine g_iload_n hk dX7_put_4 rfl ?_
  refine g_aload_n hk dX7_put_5 rfl ?_
  refine gX_r18_0 hk hin7 (List.mem_cons_of_mem _ (List.mem_append_left _ (List.mem_of_getElem? (i := 0) rfl))) dX7_put_6 ?_
  refine nX_10 hk dX7_put_9 ?_
  refine g_icmp_ge (tgt := 20) (a := a882.toInt) (b := 4) hk dX7_put_10 (by decide) rfl rfl (fun z9 => absurd z9 (show ¬ (4 ≤ a882.toInt) from by omega)) (fun _ => ?_)
  refine g_aload_n hk dX7_put_13 rfl ?_
  refine gX_r18_0 hk hin7 (List.mem_cons_of_mem _ (List.mem_append_left _ (List.mem_of_getElem? (i := 0) rfl))) dX7_put_14 ?_
  refine g_iload_n hk dX7_put_17 rfl ?_
  refine g_iload_n hk dX7_put_18 rfl ?_
  by_cases c884 : a882.toInt = 3
  · obtain rfl : a882 = 3 := Int32.toInt_inj.mp c884
    refine sX_10 (j := 3) hk (vp_in_iff.mpr ⟨by decide, by decide⟩) (by decide) dX7_put_19 ?_
    exact g_vret hk hR ⟨rfl, rfl⟩ dX7_put_20
  exfalso; omega
def wo_m267_X3_note : List Cond := [Cond.fieldLink RX3 23 "WarpDesk$Past" "next" "I", Cond.fieldLink RX3 9 "WarpDesk$Past" "kinds" "[I", Cond.fieldLink RX3 13 "WarpDesk$Past" "firsts" "[I", Cond.fieldLink RX3 16 "WarpDesk$Past" "seconds" "[I", Cond.fieldLink RX3 19 "WarpDesk$Past" "size" "I", Cond.methodLink RX3 26 Lib.Math.min.name, Cond.static Lib.Math.min.name, Cond.initialized "java/lang/Math", Cond.code Lib.Math.min.name Lib.Math.min.code 2 (some .int)]
def wz_m267_X3_note : List Cond := .code yX3_note cX3_note 4 none :: (wo_m267_X3_note ++ (wsX30 ++ ([] : List Cond)))
theorem zg_m267_X3_note : ∀ w ∈ wz_m267_X3_note, goodWord w = true := zg_cons rfl (zg_app (by decide +kernel) (zg_app zgU_wsX30 zg_nil))
theorem zi_m267_X3_note : ∀ w ∈ wz_m267_X3_note, w ∈ lw_tbl := zi_cons zw_827 (zi_app (zi_cons zw_305 (zi_cons zw_302 (zi_cons zw_303 (zi_cons zw_304 (zi_cons zw_306 (zi_cons zw_828 (zi_cons zw_829 (zi_cons zw_120 (zi_cons zw_830 zi_nil))))))))) (zi_app inX3 zi_nil))
set_option maxHeartbeats 4000000 in
set_option maxRecDepth 100000 in
theorem m267_X3_note (l : Launch) (D : va_G) (zt : Nat × Nat × Nat) (a781 : Int32) (d : Nat → ClassId) (q : Nat → Nat) (a885 : Int32) (h0 : 3 ≤ a885.toInt) (h1 : a885.toInt ≤ 3) : GM l D zt (tyX d) yX3_note wz_m267_X3_note ({ frames := 1, cells := 0, slots := 0, locals := 14 } : Room) [.ref (q 20), .int 3, .int a885, .int 8] (wX q d iX0 (up3 aX0 10 3 a781)) (fun v _ w' => v = none ∧ w' = wX q d (upd (upd iX0 20 1) 21 1) (up3 (up3 (up3 (up3 aX0 10 3 a781) 11 0 3) 12 0 a885) 13 0 8)) 0 0 := by
  refine GM.of (cc := cX3_note) (maxL := 4) (ret := none) (own := RX3) (lv := [(0, .ref (q 20)), (1, .int 3), (2, .int a885), (3, .int 8)]) (by decide) rfl rfl (Nat.le_of_ble_eq_true rfl) rfl (fun κ sz hk hR hN => ?_)
  have hin3 : ∀ w ∈ u_ws RX3 TX3 5, w ∈ wz_m267_X3_note := fun w h => (List.mem_cons_of_mem _ (List.mem_append_right _ (List.mem_append_left _ h)))
  refine g_aload_n hk dX3_note_0 rfl ?_
  refine gX_i20 (v := 0) hk hin3 (List.mem_cons_of_mem _ (List.mem_append_left _ (List.mem_of_getElem? (i := 0) rfl))) dX3_note_1 rfl ?_
  refine g_if_lt (tgt := 16) (a := 0) hk dX3_note_4 (by decide) rfl (fun z9 => absurd z9 (show ¬ ((0 : Int) < (0 : Int)) from by decide)) (fun _ => ?_)
  refine g_aload_n hk dX3_note_7 rfl ?_
  refine gX_i20 (v := 0) hk hin3 (List.mem_cons_of_mem _ (List.mem_append_left _ (List.mem_of_getElem? (i := 0) rfl))) dX3_note_8 rfl ?_
  refine g_bipush (v := 40) hk dX3_note_11 (by decide) ?_
  refine g_icmp_lt (tgt := 17) (a := 0) (b := 40) hk dX3_note_13 (by decide) rfl rfl (fun _ => ?_) (fun z9 => absurd (show (0 : Int) < (40 : Int) from by decide) z9)
  refine g_aload_n hk dX3_note_17 rfl ?_
  refine gX_r20_0 hk hin3 (List.mem_cons_of_mem _ (List.mem_append_left _ (List.mem_of_getElem? (i := 1) rfl))) dX3_note_18 ?_
  refine g_aload_n hk dX3_note_21 rfl ?_
  refine gX_i20 (v := 0) hk hin3 (List.mem_cons_of_mem _ (List.mem_append_left _ (List.mem_of_getElem? (i := 0) rfl))) dX3_note_22 rfl ?_
  refine g_iload_n hk dX3_note_25 rfl ?_
  refine sX_11 (j := 0) hk (vp_in_iff.mpr ⟨by decide, by decide⟩) (by decide) dX3_note_26 ?_
  refine g_aload_n hk dX3_note_27 rfl ?_
  refine gX_r20_1 hk hin3 (List.mem_cons_of_mem _ (List.mem_append_left _ (List.mem_of_getElem? (i := 2) rfl))) dX3_note_28 ?_
  refine g_aload_n hk dX3_note_31 rfl ?_
  refine gX_i20 (v := 0) hk hin3 (List.mem_cons_of_mem _ (List.mem_append_left _ (List.mem_of_getElem? (i := 0) rfl))) dX3_note_32 rfl ?_
  refine g_iload_n hk dX3_note_35 rfl ?_
  refine sX_12 (j := 0) hk (vp_in_iff.mpr ⟨by decide, by decide⟩) (by decide) dX3_note_36 ?_
  refine g_aload_n hk dX3_note_37 rfl ?_
  refine gX_r20_2 hk hin3 (List.mem_cons_of_mem _ (List.mem_append_left _ (List.mem_of_getElem? (i := 3) rfl))) dX3_note_38 ?_
  refine g_aload_n hk dX3_note_41 rfl ?_
  refine gX_i20 (v := 0) hk hin3 (List.mem_cons_of_mem _ (List.mem_append_left _ (List.mem_of_getElem? (i := 0) rfl))) dX3_note_42 rfl ?_
  refine g_iload_n hk dX3_note_45 rfl ?_
  refine sX_13 (j := 0) hk (vp_in_iff.mpr ⟨by decide, by decide⟩) (by decide) dX3_note_46 ?_
  refine g_aload_n hk dX3_note_47 rfl ?_
  refine g_aload_n hk dX3_note_48 rfl ?_
  refine gX_i20 (v := 0) hk hin3 (List.mem_cons_of_mem _ (List.mem_append_left _ (List.mem_of_getElem? (i := 0) rfl))) dX3_note_49 rfl ?_
  refine g_bipush (v := 39) hk dX3_note_52 (by decide) ?_
  refine g_icmp_ne (tgt := 61) (a := 0) (b := 39) hk dX3_note_54 (by decide) rfl rfl (fun _ => ?_) (fun z9 => absurd (show (0 : Int) ≠ (39 : Int) from by decide) z9)
  refine g_aload_n hk dX3_note_61 rfl ?_
  refine gX_i20 (v := 0) hk hin3 (List.mem_cons_of_mem _ (List.mem_append_left _ (List.mem_of_getElem? (i := 0) rfl))) dX3_note_62 rfl ?_
  refine g_iconst (v := 1) hk dX3_note_65 (by decide) ?_
  refine g_iadd hk dX3_note_66 ?_
  refine g_norm (v := 1) (by decide) ?_
  refine pX_i20 hk hin3 (List.mem_cons_of_mem _ (List.mem_append_left _ (List.mem_of_getElem? (i := 0) rfl))) dX3_note_67 ?_
  refine g_aload_n hk dX3_note_70 rfl ?_
  refine g_aload_n hk dX3_note_71 rfl ?_
  refine gX_i21 (v := 0) hk hin3 (List.mem_cons_of_mem _ (List.mem_append_left _ (List.mem_of_getElem? (i := 4) rfl))) dX3_note_72 rfl ?_
  refine g_iconst (v := 1) hk dX3_note_75 (by decide) ?_
  refine g_iadd hk dX3_note_76 ?_
  refine g_norm (v := 1) (by decide) ?_
  refine g_bipush (v := 40) hk dX3_note_77 (by decide) ?_
  refine g_mmin hk (List.mem_cons_of_mem _ (List.mem_append_left _ (List.mem_of_getElem? (i := 5) rfl))) (List.mem_cons_of_mem _ (List.mem_append_left _ (List.mem_of_getElem? (i := 6) rfl))) (List.mem_cons_of_mem _ (List.mem_append_left _ (List.mem_of_getElem? (i := 7) rfl))) (List.mem_cons_of_mem _ (List.mem_append_left _ (List.mem_of_getElem? (i := 8) rfl))) (Nat.le_of_ble_eq_true rfl) (Nat.le_of_ble_eq_true rfl) (Nat.le_of_ble_eq_true rfl) (Nat.le_of_ble_eq_true rfl) dX3_note_79 ?_
  refine g_norm (v := 1) (by decide) ?_
  refine pX_i21 hk hin3 (List.mem_cons_of_mem _ (List.mem_append_left _ (List.mem_of_getElem? (i := 4) rfl))) dX3_note_82 ?_
  exact g_vret hk hR ⟨rfl, rfl⟩ dX3_note_85
def wo_m252_X11_set : List Cond := [Cond.fieldLink RX11 42 "WarpDesk" "settings" "LWarpDesk$Settings;", Cond.methodLink RX11 154 yX7_valueOf, Cond.instanceMethod yX7_valueOf, Cond.selects RX7 yX7_valueOf yX7_valueOf, Cond.initialized RX7, Cond.methodLink RX11 157 yX7_allows, Cond.static yX7_allows, Cond.methodLink RX11 161 yX7_put, Cond.instanceMethod yX7_put, Cond.selects RX7 yX7_put yX7_put, Cond.fieldLink RX11 49 "WarpDesk" "past" "LWarpDesk$Past;", Cond.methodLink RX11 134 yX3_note, Cond.instanceMethod yX3_note, Cond.selects RX3 yX3_note yX3_note, Cond.initialized RX3]
def wz_m252_X11_set : List Cond := .code yX11_set cX11_set 4 (some .boolean) :: (wo_m252_X11_set ++ (wsX110 ++ (wz_m253_X7_valueOf ++ (wz_m254_X7_allows ++ (wz_m255_X7_allows ++ (wz_m256_X7_allows ++ (wz_m257_X7_put ++ (wz_m258_X3_note ++ (wz_m259_X7_allows ++ (wz_m260_X7_put ++ (wz_m261_X3_note ++ (wz_m262_X7_allows ++ (wz_m263_X7_put ++ (wz_m264_X3_note ++ (wz_m265_X7_allows ++ (wz_m266_X7_put ++ (wz_m267_X3_note ++ ([] : List Cond))))))))))))))))))
theorem zg_m252_X11_set : ∀ w ∈ wz_m252_X11_set, goodWord w = true := zg_cons rfl (zg_app (by decide +kernel) (zg_app zgU_wsX110 (zg_app zg_m253_X7_valueOf (zg_app zg_m254_X7_allows (zg_app zg_m255_X7_allows (zg_app zg_m256_X7_allows (zg_app zg_m257_X7_put (zg_app zg_m258_X3_note (zg_app zg_m259_X7_allows (zg_app zg_m260_X7_put (zg_app zg_m261_X3_note (zg_app zg_m262_X7_allows (zg_app zg_m263_X7_put (zg_app zg_m264_X3_note (zg_app zg_m265_X7_allows (zg_app zg_m266_X7_put (zg_app zg_m267_X3_note zg_nil)))))))))))))))))
theorem zi_m252_X11_set : ∀ w ∈ wz_m252_X11_set, w ∈ lw_tbl := zi_cons zw_862 (zi_app (zi_cons zw_491 (zi_cons zw_863 (zi_cons zw_786 (zi_cons zw_787 (zi_cons zw_107 (zi_cons zw_864 (zi_cons zw_723 (zi_cons zw_865 (zi_cons zw_551 (zi_cons zw_552 (zi_cons zw_492 (zi_cons zw_824 (zi_cons zw_825 (zi_cons zw_826 (zi_cons zw_110 zi_nil))))))))))))))) (zi_app inX11 (zi_app zi_m253_X7_valueOf (zi_app zi_m254_X7_allows (zi_app zi_m255_X7_allows (zi_app zi_m256_X7_allows (zi_app zi_m257_X7_put (zi_app zi_m258_X3_note (zi_app zi_m259_X7_allows (zi_app zi_m260_X7_put (zi_app zi_m261_X3_note (zi_app zi_m262_X7_allows (zi_app zi_m263_X7_put (zi_app zi_m264_X3_note (zi_app zi_m265_X7_allows (zi_app zi_m266_X7_put (zi_app zi_m267_X3_note zi_nil)))))))))))))))))
set_option maxHeartbeats 4000000 in
set_option maxRecDepth 100000 in
theorem m252_X11_set (l : Launch) (D : va_G) (zt : Nat × Nat × Nat) (d : Nat → ClassId) (q : Nat → Nat) (a780 : Int32) (a781 : Int32) : GM l D zt (tyX d) yX11_set wz_m252_X11_set ({ frames := 2, cells := 0, slots := 0, locals := 37 } : Room) [.ref (q 0), .int a780, .int a781] (wX q d iX0 aX0) (fun v _ w' => ((a780.toInt < 0) ∧ v = some (.int 0) ∧ w' = wX q d iX0 aX0) ∨ ((¬ (a780.toInt < 0)) ∧ (4 ≤ a780.toInt) ∧ v = some (.int 0) ∧ w' = wX q d iX0 aX0) ∨ ((¬ (a780.toInt < 0)) ∧ (¬ (4 ≤ a780.toInt)) ∧ (a780.toInt = 0) ∧ (a780.toInt = 0) ∧ (a781.toInt < 0) ∧ v = some (.int 0) ∧ w' = wX q d iX0 aX0) ∨ ((¬ (a780.toInt < 0)) ∧ (¬ (4 ≤ a780.toInt)) ∧ (a780.toInt = 0) ∧ (a780.toInt = 0) ∧ (¬ (a781.toInt < 0)) ∧ (15 < a781.toInt) ∧ v = some (.int 0) ∧ w' = wX q d iX0 aX0) ∨ ((¬ (a780.toInt < 0)) ∧ (¬ (4 ≤ a780.toInt)) ∧ (a780.toInt = 0) ∧ (a780.toInt = 0) ∧ (¬ (a781.toInt < 0)) ∧ (¬ (15 < a781.toInt)) ∧ (2 ≠ a781.toInt) ∧ v = some (.int 1) ∧ w' = wX q d (upd (upd iX0 20 1) 21 1) (up3 (up3 (up3 (up3 aX0 10 0 a781) 11 0 3) 12 0 a780) 13 0 2)) ∨ ((¬ (a780.toInt < 0)) ∧ (¬ (4 ≤ a780.toInt)) ∧ (a780.toInt = 0) ∧ (a780.toInt = 0) ∧ (¬ (a781.toInt < 0)) ∧ (¬ (15 < a781.toInt)) ∧ (¬ (2 ≠ a781.toInt)) ∧ v = some (.int 0) ∧ w' = wX q d iX0 aX0) ∨ ((¬ (a780.toInt < 0)) ∧ (¬ (4 ≤ a780.toInt)) ∧ (¬ (a780.toInt = 0)) ∧ (a780.toInt = 1) ∧ (a780.toInt = 1) ∧ (a781.toInt < 0) ∧ v = some (.int 0) ∧ w' = wX q d iX0 aX0) ∨ ((¬ (a780.toInt < 0)) ∧ (¬ (4 ≤ a780.toInt)) ∧ (¬ (a780.toInt = 0)) ∧ (a780.toInt = 1) ∧ (a780.toInt = 1) ∧ (¬ (a781.toInt < 0)) ∧ (3 < a781.toInt) ∧ v = some (.int 0) ∧ w' = wX q d iX0 aX0) ∨ ((¬ (a780.toInt < 0)) ∧ (¬ (4 ≤ a780.toInt)) ∧ (¬ (a780.toInt = 0)) ∧ (a780.toInt = 1) ∧ (a780.toInt = 1) ∧ (¬ (a781.toInt < 0)) ∧ (¬ (3 < a781.toInt)) ∧ (0 ≠ a781.toInt) ∧ v = some (.int 1) ∧ w' = wX q d (upd (upd iX0 20 1) 21 1) (up3 (up3 (up3 aX0 10 1 a781) 11 0 3) 12 0 a780)) ∨ ((¬ (a780.toInt < 0)) ∧ (¬ (4 ≤ a780.toInt)) ∧ (¬ (a780.toInt = 0)) ∧ (a780.toInt = 1) ∧ (a780.toInt = 1) ∧ (¬ (a781.toInt < 0)) ∧ (¬ (3 < a781.toInt)) ∧ (¬ (0 ≠ a781.toInt)) ∧ v = some (.int 0) ∧ w' = wX q d iX0 aX0) ∨ ((¬ (a780.toInt < 0)) ∧ (¬ (4 ≤ a780.toInt)) ∧ (¬ (a780.toInt = 0)) ∧ (¬ (a780.toInt = 1)) ∧ (a780.toInt = 2) ∧ (a780.toInt = 2) ∧ (a781.toInt < 0) ∧ v = some (.int 0) ∧ w' = wX q d iX0 aX0) ∨ ((¬ (a780.toInt < 0)) ∧ (¬ (4 ≤ a780.toInt)) ∧ (¬ (a780.toInt = 0)) ∧ (¬ (a780.toInt = 1)) ∧ (a780.toInt = 2) ∧ (a780.toInt = 2) ∧ (¬ (a781.toInt < 0)) ∧ (1 < a781.toInt) ∧ v = some (.int 0) ∧ w' = wX q d iX0 aX0) ∨ ((¬ (a780.toInt < 0)) ∧ (¬ (4 ≤ a780.toInt)) ∧ (¬ (a780.toInt = 0)) ∧ (¬ (a780.toInt = 1)) ∧ (a780.toInt = 2) ∧ (a780.toInt = 2) ∧ (¬ (a781.toInt < 0)) ∧ (¬ (1 < a781.toInt)) ∧ (0 ≠ a781.toInt) ∧ v = some (.int 1) ∧ w' = wX q d (upd (upd iX0 20 1) 21 1) (up3 (up3 (up3 aX0 10 2 a781) 11 0 3) 12 0 a780)) ∨ ((¬ (a780.toInt < 0)) ∧ (¬ (4 ≤ a780.toInt)) ∧ (¬ (a780.toInt = 0)) ∧ (¬ (a780.toInt = 1)) ∧ (a780.toInt = 2) ∧ (a780.toInt = 2) ∧ (¬ (a781.toInt < 0)) ∧ (¬ (1 < a781.toInt)) ∧ (¬ (0 ≠ a781.toInt)) ∧ v = some (.int 0) ∧ w' = wX q d iX0 aX0) ∨ ((¬ (a780.toInt < 0)) ∧ (¬ (4 ≤ a780.toInt)) ∧ (¬ (a780.toInt = 0)) ∧ (¬ (a780.toInt = 1)) ∧ (¬ (a780.toInt = 2)) ∧ (a780.toInt = 3) ∧ (a780.toInt = 3) ∧ (a781.toInt < 1) ∧ v = some (.int 0) ∧ w' = wX q d iX0 aX0) ∨ ((¬ (a780.toInt < 0)) ∧ (¬ (4 ≤ a780.toInt)) ∧ (¬ (a780.toInt = 0)) ∧ (¬ (a780.toInt = 1)) ∧ (¬ (a780.toInt = 2)) ∧ (a780.toInt = 3) ∧ (a780.toInt = 3) ∧ (¬ (a781.toInt < 1)) ∧ (99 < a781.toInt) ∧ v = some (.int 0) ∧ w' = wX q d iX0 aX0) ∨ ((¬ (a780.toInt < 0)) ∧ (¬ (4 ≤ a780.toInt)) ∧ (¬ (a780.toInt = 0)) ∧ (¬ (a780.toInt = 1)) ∧ (¬ (a780.toInt = 2)) ∧ (a780.toInt = 3) ∧ (a780.toInt = 3) ∧ (¬ (a781.toInt < 1)) ∧ (¬ (99 < a781.toInt)) ∧ (8 ≠ a781.toInt) ∧ v = some (.int 1) ∧ w' = wX q d (upd (upd iX0 20 1) 21 1) (up3 (up3 (up3 (up3 aX0 10 3 a781) 11 0 3) 12 0 a780) 13 0 8)) ∨ ((¬ (a780.toInt < 0)) ∧ (¬ (4 ≤ a780.toInt)) ∧ (¬ (a780.toInt = 0)) ∧ (¬ (a780.toInt = 1)) ∧ (¬ (a780.toInt = 2)) ∧ (a780.toInt = 3) ∧ (a780.toInt = 3) ∧ (¬ (a781.toInt < 1)) ∧ (¬ (99 < a781.toInt)) ∧ (¬ (8 ≠ a781.toInt)) ∧ v = some (.int 0) ∧ w' = wX q d iX0 aX0)) 0 0 := by
  refine GM.of (cc := cX11_set) (maxL := 4) (ret := (some .boolean)) (own := RX11) (lv := [(0, .ref (q 0)), (1, .int a780), (2, .int a781)]) (by decide) rfl rfl (Nat.le_of_ble_eq_true rfl) rfl (fun κ sz hk hR hN => ?_)
  have hin11 : ∀ w ∈ u_ws RX11 TX11 10, w ∈ wz_m252_X11_set := fun w h => (List.mem_cons_of_mem _ (List.mem_append_right _ (List.mem_append_left _ h)))
  refine g_aload_n hk dX11_set_0 rfl ?_
  refine gX_r0_4 hk hin11 (List.mem_cons_of_mem _ (List.mem_append_left _ (List.mem_of_getElem? (i := 0) rfl))) dX11_set_1 ?_
  refine g_iload_n hk dX11_set_4 rfl ?_
  refine g_callV (n := 1) hk (m253_X7_valueOf l D zt d q a780) (SP.same _) (fun _ h => h) (gi_V (List.mem_cons_of_mem _ (List.mem_append_left _ (List.mem_of_getElem? (i := 1) rfl))) (List.mem_cons_of_mem _ (List.mem_append_left _ (List.mem_of_getElem? (i := 2) rfl))) (List.mem_cons_of_mem _ (List.mem_append_left _ (List.mem_of_getElem? (i := 3) rfl))) (List.mem_cons_of_mem _ (List.mem_append_left _ (List.mem_of_getElem? (i := 4) rfl))) (gi_sub (fun w h => (List.mem_cons_of_mem _ (List.mem_append_right _ (List.mem_append_right _ (List.mem_append_left _ h))))) zg_m253_X7_valueOf)) rfl rfl rfl (by decide +kernel) ⟨Nat.le_of_ble_eq_true rfl, Nat.le_of_ble_eq_true rfl⟩ 18 rfl rfl rfl rfl (Nat.le_of_ble_eq_true rfl) ⟨Nat.le_of_ble_eq_true rfl, Nat.le_of_ble_eq_true rfl⟩ dX11_set_5 (fun v ty' w' hp hk' => ?_)
  rcases hp with ⟨c789, rfl, rfl⟩ | ⟨c790, c791, rfl, rfl⟩ | ⟨c792, c793, c794, rfl, rfl⟩ | ⟨c795, c796, c797, c798, rfl, rfl⟩ | ⟨c799, c800, c801, c802, c803, rfl, rfl⟩ | ⟨c804, c805, c806, c807, c808, c809, rfl, rfl⟩
  · show GW κ 4 0 0 (wX q d iX0 aX0) 8 [(0, .ref (q 0)), (1, .int a780), (2, .int a781)] [.int (-1)]
    refine g_istore_n (lv' := [(3, .int (-1)), (0, .ref (q 0)), (1, .int a780), (2, .int a781)]) hk dX11_set_8 (by decide) rfl ?_
    refine g_iload_n hk dX11_set_9 rfl ?_
    refine g_iload_n hk dX11_set_10 rfl ?_
    refine g_callS (n := 2) hk (m254_X7_allows l D zt d q a780 a781 (by omega)) (SP.same _) (fun _ h => h) (gi_S (List.mem_cons_of_mem _ (List.mem_append_left _ (List.mem_of_getElem? (i := 5) rfl))) (List.mem_cons_of_mem _ (List.mem_append_left _ (List.mem_of_getElem? (i := 6) rfl))) (List.mem_cons_of_mem _ (List.mem_append_left _ (List.mem_of_getElem? (i := 4) rfl))) (gi_sub (fun w h => (List.mem_cons_of_mem _ (List.mem_append_right _ (List.mem_append_right _ (List.mem_append_right _ (List.mem_append_left _ h)))))) zg_m254_X7_allows)) rfl rfl rfl (by decide +kernel) ⟨Nat.le_of_ble_eq_true rfl, Nat.le_of_ble_eq_true rfl⟩ rfl rfl (Nat.le_of_ble_eq_true rfl) ⟨Nat.le_of_ble_eq_true rfl, Nat.le_of_ble_eq_true rfl⟩ dX11_set_11 (fun v ty' w' hp hk' => ?_)
    obtain ⟨rfl, rfl⟩ := hp
    show GW κ 4 0 0 (wX q d iX0 aX0) 14 [(3, .int (-1)), (0, .ref (q 0)), (1, .int a780), (2, .int a781)] [.int 0]
    refine g_if_eq (tgt := 22) (a := 0) hk dX11_set_14 (by decide) rfl (fun _ => ?_) (fun z9 => absurd (show (0 : Int) = (0 : Int) from by decide) z9)
    refine g_iconst (v := 0) hk dX11_set_22 (by decide) ?_
    exact g_iret hk hR rfl (Or.inl ⟨c789, rfl, rfl⟩) dX11_set_23
  · show GW κ 4 0 0 (wX q d iX0 aX0) 8 [(0, .ref (q 0)), (1, .int a780), (2, .int a781)] [.int (-1)]
    refine g_istore_n (lv' := [(3, .int (-1)), (0, .ref (q 0)), (1, .int a780), (2, .int a781)]) hk dX11_set_8 (by decide) rfl ?_
    refine g_iload_n hk dX11_set_9 rfl ?_
    refine g_iload_n hk dX11_set_10 rfl ?_
    refine g_callS (n := 2) hk (m255_X7_allows l D zt d q a780 a781 (by omega)) (SP.same _) (fun _ h => h) (gi_S (List.mem_cons_of_mem _ (List.mem_append_left _ (List.mem_of_getElem? (i := 5) rfl))) (List.mem_cons_of_mem _ (List.mem_append_left _ (List.mem_of_getElem? (i := 6) rfl))) (List.mem_cons_of_mem _ (List.mem_append_left _ (List.mem_of_getElem? (i := 4) rfl))) (gi_sub (fun w h => (List.mem_cons_of_mem _ (List.mem_append_right _ (List.mem_append_right _ (List.mem_append_right _ (List.mem_append_right _ (List.mem_append_left _ h))))))) zg_m255_X7_allows)) rfl rfl rfl (by decide +kernel) ⟨Nat.le_of_ble_eq_true rfl, Nat.le_of_ble_eq_true rfl⟩ rfl rfl (Nat.le_of_ble_eq_true rfl) ⟨Nat.le_of_ble_eq_true rfl, Nat.le_of_ble_eq_true rfl⟩ dX11_set_11 (fun v ty' w' hp hk' => ?_)
    obtain ⟨rfl, rfl⟩ := hp
    show GW κ 4 0 0 (wX q d iX0 aX0) 14 [(3, .int (-1)), (0, .ref (q 0)), (1, .int a780), (2, .int a781)] [.int 0]
    refine g_if_eq (tgt := 22) (a := 0) hk dX11_set_14 (by decide) rfl (fun _ => ?_) (fun z9 => absurd (show (0 : Int) = (0 : Int) from by decide) z9)
    refine g_iconst (v := 0) hk dX11_set_22 (by decide) ?_
    exact g_iret hk hR rfl (Or.inr (Or.inl ⟨c790, c791, rfl, rfl⟩)) dX11_set_23
  · show GW κ 4 0 0 (wX q d iX0 aX0) 8 [(0, .ref (q 0)), (1, .int a780), (2, .int a781)] [.int 2]
    refine g_istore_n (lv' := [(3, .int 2), (0, .ref (q 0)), (1, .int a780), (2, .int a781)]) hk dX11_set_8 (by decide) rfl ?_
    refine g_iload_n hk dX11_set_9 rfl ?_
    refine g_iload_n hk dX11_set_10 rfl ?_
    refine g_callS (n := 2) hk (m256_X7_allows l D zt d q a780 a781 (by omega) (by omega)) (SP.same _) (fun _ h => h) (gi_S (List.mem_cons_of_mem _ (List.mem_append_left _ (List.mem_of_getElem? (i := 5) rfl))) (List.mem_cons_of_mem _ (List.mem_append_left _ (List.mem_of_getElem? (i := 6) rfl))) (List.mem_cons_of_mem _ (List.mem_append_left _ (List.mem_of_getElem? (i := 4) rfl))) (gi_sub (fun w h => (List.mem_cons_of_mem _ (List.mem_append_right _ (List.mem_append_right _ (List.mem_append_right _ (List.mem_append_right _ (List.mem_append_right _ (List.mem_append_left _ h)))))))) zg_m256_X7_allows)) rfl rfl rfl (by decide +kernel) ⟨Nat.le_of_ble_eq_true rfl, Nat.le_of_ble_eq_true rfl⟩ rfl rfl (Nat.le_of_ble_eq_true rfl) ⟨Nat.le_of_ble_eq_true rfl, Nat.le_of_ble_eq_true rfl⟩ dX11_set_11 (fun v ty' w' hp hk' => ?_)
    rcases hp with ⟨c819, c820, rfl, rfl⟩ | ⟨c821, c822, c823, rfl, rfl⟩ | ⟨c824, c825, c826, rfl, rfl⟩
    · show GW κ 4 0 0 (wX q d iX0 aX0) 14 [(3, .int 2), (0, .ref (q 0)), (1, .int a780), (2, .int a781)] [.int 0]
      refine g_if_eq (tgt := 22) (a := 0) hk dX11_set_14 (by decide) rfl (fun _ => ?_) (fun z9 => absurd (show (0 : Int) = (0 : Int) from by decide) z9)
      refine g_iconst (v := 0) hk dX11_set_22 (by decide) ?_
      exact g_iret hk hR rfl (Or.inr (Or.inr (Or.inl ⟨c792, c793, c794, c819, c820, rfl, rfl⟩))) dX11_set_23
    · show GW κ 4 0 0 (wX q d iX0 aX0) 14 [(3, .int 2), (0, .ref (q 0)), (1, .int a780), (2, .int a781)] [.int 0]
      refine g_if_eq (tgt := 22) (a := 0) hk dX11_set_14 (by decide) rfl (fun _ => ?_) (fun z9 => absurd (show (0 : Int) = (0 : Int) from by decide) z9)
      refine g_iconst (v := 0) hk dX11_set_22 (by decide) ?_
      exact g_iret hk hR rfl (Or.inr (Or.inr (Or.inr (Or.inl ⟨c792, c793, c794, c821, c822, c823, rfl, rfl⟩)))) dX11_set_23
    · show GW κ 4 0 0 (wX q d iX0 aX0) 14 [(3, .int 2), (0, .ref (q 0)), (1, .int a780), (2, .int a781)] [.int 1]
      refine g_if_eq (tgt := 22) (a := 1) hk dX11_set_14 (by decide) rfl (fun z9 => absurd z9 (show ¬ ((1 : Int) = (0 : Int)) from by decide)) (fun _ => ?_)
      refine g_iload_n hk dX11_set_17 rfl ?_
      refine g_iload_n hk dX11_set_18 rfl ?_
      refine g_icmp_ne (tgt := 24) (a := 2) (b := a781.toInt) hk dX11_set_19 (by decide) rfl rfl (fun c827 => ?_) (fun c827 => ?_)
      · skip
        refine g_aload_n hk dX11_set_24 rfl ?_
        refine gX_r0_4 hk hin11 (List.mem_cons_of_mem _ (List.mem_append_left _ (List.mem_of_getElem? (i := 0) rfl))) dX11_set_25 ?_
        refine g_iload_n hk dX11_set_28 rfl ?_
        refine g_iload_n hk dX11_set_29 rfl ?_
        refine g_callV (n := 2) hk (m257_X7_put l D zt d q a780 a781 (by omega) (by omega) (by omega) (by omega)) (SP.same _) (fun _ h => h) (gi_V (List.mem_cons_of_mem _ (List.mem_append_left _ (List.mem_of_getElem? (i := 7) rfl))) (List.mem_cons_of_mem _ (List.mem_append_left _ (List.mem_of_getElem? (i := 8) rfl))) (List.mem_cons_of_mem _ (List.mem_append_left _ (List.mem_of_getElem? (i := 9) rfl))) (List.mem_cons_of_mem _ (List.mem_append_left _ (List.mem_of_getElem? (i := 4) rfl))) (gi_sub (fun w h => (List.mem_cons_of_mem _ (List.mem_append_right _ (List.mem_append_right _ (List.mem_append_right _ (List.mem_append_right _ (List.mem_append_right _ (List.mem_append_right _ (List.mem_append_left _ h))))))))) zg_m257_X7_put)) rfl rfl rfl (by decide +kernel) ⟨Nat.le_of_ble_eq_true rfl, Nat.le_of_ble_eq_true rfl⟩ 18 rfl rfl rfl rfl (Nat.le_of_ble_eq_true rfl) ⟨Nat.le_of_ble_eq_true rfl, Nat.le_of_ble_eq_true rfl⟩ dX11_set_30 (fun v ty' w' hp hk' => ?_)
        obtain ⟨rfl, rfl⟩ := hp
        show GW κ 4 0 0 (wX q d iX0 (up3 aX0 10 0 a781)) 33 [(3, .int 2), (0, .ref (q 0)), (1, .int a780), (2, .int a781)] []
        refine g_aload_n hk dX11_set_33 rfl ?_
        refine gX_r0_5 hk hin11 (List.mem_cons_of_mem _ (List.mem_append_left _ (List.mem_of_getElem? (i := 10) rfl))) dX11_set_34 ?_
        refine g_iconst (v := 3) hk dX11_set_37 (by decide) ?_
        refine g_iload_n hk dX11_set_38 rfl ?_
        refine g_iload_n hk dX11_set_39 rfl ?_
        refine g_callV (n := 3) hk (m258_X3_note l D zt a781 d q a780 (by omega) (by omega)) (SP.same _) (fun _ h => h) (gi_V (List.mem_cons_of_mem _ (List.mem_append_left _ (List.mem_of_getElem? (i := 11) rfl))) (List.mem_cons_of_mem _ (List.mem_append_left _ (List.mem_of_getElem? (i := 12) rfl))) (List.mem_cons_of_mem _ (List.mem_append_left _ (List.mem_of_getElem? (i := 13) rfl))) (List.mem_cons_of_mem _ (List.mem_append_left _ (List.mem_of_getElem? (i := 14) rfl))) (gi_sub (fun w h => (List.mem_cons_of_mem _ (List.mem_append_right _ (List.mem_append_right _ (List.mem_append_right _ (List.mem_append_right _ (List.mem_append_right _ (List.mem_append_right _ (List.mem_append_right _ (List.mem_append_left _ h)))))))))) zg_m258_X3_note)) rfl rfl rfl (by decide +kernel) ⟨Nat.le_of_ble_eq_true rfl, Nat.le_of_ble_eq_true rfl⟩ 20 rfl rfl rfl rfl (Nat.le_of_ble_eq_true rfl) ⟨Nat.le_of_ble_eq_true rfl, Nat.le_of_ble_eq_true rfl⟩ dX11_set_40 (fun v ty' w' hp hk' => ?_)
        obtain ⟨rfl, rfl⟩ := hp
        show GW κ 4 0 0 (wX q d (upd (upd iX0 20 1) 21 1) (up3 (up3 (up3 (up3 aX0 10 0 a781) 11 0 3) 12 0 a780) 13 0 2)) 43 [(3, .int 2), (0, .ref (q 0)), (1, .int a780), (2, .int a781)] []
        refine g_iconst (v := 1) hk dX11_set_43 (by decide) ?_
        exact g_iret hk hR rfl (Or.inr (Or.inr (Or.inr (Or.inr (Or.inl ⟨c792, c793, c794, c824, c825, c826, c827, rfl, rfl⟩))))) dX11_set_44
      · skip
        refine g_iconst (v := 0) hk dX11_set_22 (by decide) ?_
        exact g_iret hk hR rfl (Or.inr (Or.inr (Or.inr (Or.inr (Or.inr (Or.inl ⟨c792, c793, c794, c824, c825, c826, c827, rfl, rfl⟩)))))) dX11_set_23
  · show GW κ 4 0 0 (wX q d iX0 aX0) 8 [(0, .ref (q 0)), (1, .int a780), (2, .int a781)] [.int 0]
    refine g_istore_n (lv' := [(3, .int 0), (0, .ref (q 0)), (1, .int a780), (2, .int a781)]) hk dX11_set_8 (by decide) rfl ?_
    refine g_iload_n hk dX11_set_9 rfl ?_
    refine g_iload_n hk dX11_set_10 rfl ?_
    refine g_callS (n := 2) hk (m259_X7_allows l D zt d q a780 a781 (by omega) (by omega)) (SP.same _) (fun _ h => h) (gi_S (List.mem_cons_of_mem _ (List.mem_append_left _ (List.mem_of_getElem? (i := 5) rfl))) (List.mem_cons_of_mem _ (List.mem_append_left _ (List.mem_of_getElem? (i := 6) rfl))) (List.mem_cons_of_mem _ (List.mem_append_left _ (List.mem_of_getElem? (i := 4) rfl))) (gi_sub (fun w h => (List.mem_cons_of_mem _ (List.mem_append_right _ (List.mem_append_right _ (List.mem_append_right _ (List.mem_append_right _ (List.mem_append_right _ (List.mem_append_right _ (List.mem_append_right _ (List.mem_append_right _ (List.mem_append_left _ h))))))))))) zg_m259_X7_allows)) rfl rfl rfl (by decide +kernel) ⟨Nat.le_of_ble_eq_true rfl, Nat.le_of_ble_eq_true rfl⟩ rfl rfl (Nat.le_of_ble_eq_true rfl) ⟨Nat.le_of_ble_eq_true rfl, Nat.le_of_ble_eq_true rfl⟩ dX11_set_11 (fun v ty' w' hp hk' => ?_)
    rcases hp with ⟨c837, c838, rfl, rfl⟩ | ⟨c839, c840, c841, rfl, rfl⟩ | ⟨c842, c843, c844, rfl, rfl⟩
    · show GW κ 4 0 0 (wX q d iX0 aX0) 14 [(3, .int 0), (0, .ref (q 0)), (1, .int a780), (2, .int a781)] [.int 0]
      refine g_if_eq (tgt := 22) (a := 0) hk dX11_set_14 (by decide) rfl (fun _ => ?_) (fun z9 => absurd (show (0 : Int) = (0 : Int) from by decide) z9)
      refine g_iconst (v := 0) hk dX11_set_22 (by decide) ?_
      exact g_iret hk hR rfl (Or.inr (Or.inr (Or.inr (Or.inr (Or.inr (Or.inr (Or.inl ⟨c795, c796, c797, c798, c837, c838, rfl, rfl⟩))))))) dX11_set_23
    · show GW κ 4 0 0 (wX q d iX0 aX0) 14 [(3, .int 0), (0, .ref (q 0)), (1, .int a780), (2, .int a781)] [.int 0]
      refine g_if_eq (tgt := 22) (a := 0) hk dX11_set_14 (by decide) rfl (fun _ => ?_) (fun z9 => absurd (show (0 : Int) = (0 : Int) from by decide) z9)
      refine g_iconst (v := 0) hk dX11_set_22 (by decide) ?_
      exact g_iret hk hR rfl (Or.inr (Or.inr (Or.inr (Or.inr (Or.inr (Or.inr (Or.inr (Or.inl ⟨c795, c796, c797, c798, c839, c840, c841, rfl, rfl⟩)))))))) dX11_set_23
    · show GW κ 4 0 0 (wX q d iX0 aX0) 14 [(3, .int 0), (0, .ref (q 0)), (1, .int a780), (2, .int a781)] [.int 1]
      refine g_if_eq (tgt := 22) (a := 1) hk dX11_set_14 (by decide) rfl (fun z9 => absurd z9 (show ¬ ((1 : Int) = (0 : Int)) from by decide)) (fun _ => ?_)
      refine g_iload_n hk dX11_set_17 rfl ?_
      refine g_iload_n hk dX11_set_18 rfl ?_
      refine g_icmp_ne (tgt := 24) (a := 0) (b := a781.toInt) hk dX11_set_19 (by decide) rfl rfl (fun c845 => ?_) (fun c845 => ?_)
      · skip
        refine g_aload_n hk dX11_set_24 rfl ?_
        refine gX_r0_4 hk hin11 (List.mem_cons_of_mem _ (List.mem_append_left _ (List.mem_of_getElem? (i := 0) rfl))) dX11_set_25 ?_
        refine g_iload_n hk dX11_set_28 rfl ?_
        refine g_iload_n hk dX11_set_29 rfl ?_
        refine g_callV (n := 2) hk (m260_X7_put l D zt d q a780 a781 (by omega) (by omega) (by omega) (by omega)) (SP.same _) (fun _ h => h) (gi_V (List.mem_cons_of_mem _ (List.mem_append_left _ (List.mem_of_getElem? (i := 7) rfl))) (List.mem_cons_of_mem _ (List.mem_append_left _ (List.mem_of_getElem? (i := 8) rfl))) (List.mem_cons_of_mem _ (List.mem_append_left _ (List.mem_of_getElem? (i := 9) rfl))) (List.mem_cons_of_mem _ (List.mem_append_left _ (List.mem_of_getElem? (i := 4) rfl))) (gi_sub (fun w h => (List.mem_cons_of_mem _ (List.mem_append_right _ (List.mem_append_right _ (List.mem_append_right _ (List.mem_append_right _ (List.mem_append_right _ (List.mem_append_right _ (List.mem_append_right _ (List.mem_append_right _ (List.mem_append_right _ (List.mem_append_left _ h)))))))))))) zg_m260_X7_put)) rfl rfl rfl (by decide +kernel) ⟨Nat.le_of_ble_eq_true rfl, Nat.le_of_ble_eq_true rfl⟩ 18 rfl rfl rfl rfl (Nat.le_of_ble_eq_true rfl) ⟨Nat.le_of_ble_eq_true rfl, Nat.le_of_ble_eq_true rfl⟩ dX11_set_30 (fun v ty' w' hp hk' => ?_)
        obtain ⟨rfl, rfl⟩ := hp
        show GW κ 4 0 0 (wX q d iX0 (up3 aX0 10 1 a781)) 33 [(3, .int 0), (0, .ref (q 0)), (1, .int a780), (2, .int a781)] []
        refine g_aload_n hk dX11_set_33 rfl ?_
        refine gX_r0_5 hk hin11 (List.mem_cons_of_mem _ (List.mem_append_left _ (List.mem_of_getElem? (i := 10) rfl))) dX11_set_34 ?_
        refine g_iconst (v := 3) hk dX11_set_37 (by decide) ?_
        refine g_iload_n hk dX11_set_38 rfl ?_
        refine g_iload_n hk dX11_set_39 rfl ?_
        refine g_callV (n := 3) hk (m261_X3_note l D zt a781 d q a780 (by omega) (by omega)) (SP.same _) (fun _ h => h) (gi_V (List.mem_cons_of_mem _ (List.mem_append_left _ (List.mem_of_getElem? (i := 11) rfl))) (List.mem_cons_of_mem _ (List.mem_append_left _ (List.mem_of_getElem? (i := 12) rfl))) (List.mem_cons_of_mem _ (List.mem_append_left _ (List.mem_of_getElem? (i := 13) rfl))) (List.mem_cons_of_mem _ (List.mem_append_left _ (List.mem_of_getElem? (i := 14) rfl))) (gi_sub (fun w h => (List.mem_cons_of_mem _ (List.mem_append_right _ (List.mem_append_right _ (List.mem_append_right _ (List.mem_append_right _ (List.mem_append_right _ (List.mem_append_right _ (List.mem_append_right _ (List.mem_append_right _ (List.mem_append_right _ (List.mem_append_right _ (List.mem_append_left _ h))))))))))))) zg_m261_X3_note)) rfl rfl rfl (by decide +kernel) ⟨Nat.le_of_ble_eq_true rfl, Nat.le_of_ble_eq_true rfl⟩ 20 rfl rfl rfl rfl (Nat.le_of_ble_eq_true rfl) ⟨Nat.le_of_ble_eq_true rfl, Nat.le_of_ble_eq_true rfl⟩ dX11_set_40 (fun v ty' w' hp hk' => ?_)
        obtain ⟨rfl, rfl⟩ := hp
        show GW κ 4 0 0 (wX q d (upd (upd iX0 20 1) 21 1) (up3 (up3 (up3 aX0 10 1 a781) 11 0 3) 12 0 a780)) 43 [(3, .int 0), (0, .ref (q 0)), (1, .int a780), (2, .int a781)] []
        refine g_iconst (v := 1) hk dX11_set_43 (by decide) ?_
        exact g_iret hk hR rfl (Or.inr (Or.inr (Or.inr (Or.inr (Or.inr (Or.inr (Or.inr (Or.inr (Or.inl ⟨c795, c796, c797, c798, c842, c843, c844, c845, rfl, rfl⟩))))))))) dX11_set_44
      · skip
        refine g_iconst (v := 0) hk dX11_set_22 (by decide) ?_
        exact g_iret hk hR rfl (Or.inr (Or.inr (Or.inr (Or.inr (Or.inr (Or.inr (Or.inr (Or.inr (Or.inr (Or.inl ⟨c795, c796, c797, c798, c842, c843, c844, c845, rfl, rfl⟩)))))))))) dX11_set_23
  · show GW κ 4 0 0 (wX q d iX0 aX0) 8 [(0, .ref (q 0)), (1, .int a780), (2, .int a781)] [.int 0]
    refine g_istore_n (lv' := [(3, .int 0), (0, .ref (q 0)), (1, .int a780), (2, .int a781)]) hk dX11_set_8 (by decide) rfl ?_
    refine g_iload_n hk dX11_set_9 rfl ?_
    refine g_iload_n hk dX11_set_10 rfl ?_
    refine g_callS (n := 2) hk (m262_X7_allows l D zt d q a780 a781 (by omega) (by omega)) (SP.same _) (fun _ h => h) (gi_S (List.mem_cons_of_mem _ (List.mem_append_left _ (List.mem_of_getElem? (i := 5) rfl))) (List.mem_cons_of_mem _ (List.mem_append_left _ (List.mem_of_getElem? (i := 6) rfl))) (List.mem_cons_of_mem _ (List.mem_append_left _ (List.mem_of_getElem? (i := 4) rfl))) (gi_sub (fun w h => (List.mem_cons_of_mem _ (List.mem_append_right _ (List.mem_append_right _ (List.mem_append_right _ (List.mem_append_right _ (List.mem_append_right _ (List.mem_append_right _ (List.mem_append_right _ (List.mem_append_right _ (List.mem_append_right _ (List.mem_append_right _ (List.mem_append_right _ (List.mem_append_left _ h)))))))))))))) zg_m262_X7_allows)) rfl rfl rfl (by decide +kernel) ⟨Nat.le_of_ble_eq_true rfl, Nat.le_of_ble_eq_true rfl⟩ rfl rfl (Nat.le_of_ble_eq_true rfl) ⟨Nat.le_of_ble_eq_true rfl, Nat.le_of_ble_eq_true rfl⟩ dX11_set_11 (fun v ty' w' hp hk' => ?_)
    rcases hp with ⟨c855, c856, rfl, rfl⟩ | ⟨c857, c858, c859, rfl, rfl⟩ | ⟨c860, c861, c862, rfl, rfl⟩
    · show GW κ 4 0 0 (wX q d iX0 aX0) 14 [(3, .int 0), (0, .ref (q 0)), (1, .int a780), (2, .int a781)] [.int 0]
      refine g_if_eq (tgt := 22) (a := 0) hk dX11_set_14 (by decide) rfl (fun _ => ?_) (fun z9 => absurd (show (0 : Int) = (0 : Int) from by decide) z9)
      refine g_iconst (v := 0) hk dX11_set_22 (by decide) ?_
      exact g_iret hk hR rfl (Or.inr (Or.inr (Or.inr (Or.inr (Or.inr (Or.inr (Or.inr (Or.inr (Or.inr (Or.inr (Or.inl ⟨c799, c800, c801, c802, c803, c855, c856, rfl, rfl⟩))))))))))) dX11_set_23
    · show GW κ 4 0 0 (wX q d iX0 aX0) 14 [(3, .int 0), (0, .ref (q 0)), (1, .int a780), (2, .int a781)] [.int 0]
      refine g_if_eq (tgt := 22) (a := 0) hk dX11_set_14 (by decide) rfl (fun _ => ?_) (fun z9 => absurd (show (0 : Int) = (0 : Int) from by decide) z9)
      refine g_iconst (v := 0) hk dX11_set_22 (by decide) ?_
      exact g_iret hk hR rfl (Or.inr (Or.inr (Or.inr (Or.inr (Or.inr (Or.inr (Or.inr (Or.inr (Or.inr (Or.inr (Or.inr (Or.inl ⟨c799, c800, c801, c802, c803, c857, c858, c859, rfl, rfl⟩)))))))))))) dX11_set_23
    · show GW κ 4 0 0 (wX q d iX0 aX0) 14 [(3, .int 0), (0, .ref (q 0)), (1, .int a780), (2, .int a781)] [.int 1]
      refine g_if_eq (tgt := 22) (a := 1) hk dX11_set_14 (by decide) rfl (fun z9 => absurd z9 (show ¬ ((1 : Int) = (0 : Int)) from by decide)) (fun _ => ?_)
      refine g_iload_n hk dX11_set_17 rfl ?_
      refine g_iload_n hk dX11_set_18 rfl ?_
      refine g_icmp_ne (tgt := 24) (a := 0) (b := a781.toInt) hk dX11_set_19 (by decide) rfl rfl (fun c863 => ?_) (fun c863 => ?_)
      · skip
        refine g_aload_n hk dX11_set_24 rfl ?_
        refine gX_r0_4 hk hin11 (List.mem_cons_of_mem _ (List.mem_append_left _ (List.mem_of_getElem? (i := 0) rfl))) dX11_set_25 ?_
        refine g_iload_n hk dX11_set_28 rfl ?_
        refine g_iload_n hk dX11_set_29 rfl ?_
        refine g_callV (n := 2) hk (m263_X7_put l D zt d q a780 a781 (by omega) (by omega) (by omega) (by omega)) (SP.same _) (fun _ h => h) (gi_V (List.mem_cons_of_mem _ (List.mem_append_left _ (List.mem_of_getElem? (i := 7) rfl))) (List.mem_cons_of_mem _ (List.mem_append_left _ (List.mem_of_getElem? (i := 8) rfl))) (List.mem_cons_of_mem _ (List.mem_append_left _ (List.mem_of_getElem? (i := 9) rfl))) (List.mem_cons_of_mem _ (List.mem_append_left _ (List.mem_of_getElem? (i := 4) rfl))) (gi_sub (fun w h => (List.mem_cons_of_mem _ (List.mem_append_right _ (List.mem_append_right _ (List.mem_append_right _ (List.mem_append_right _ (List.mem_append_right _ (List.mem_append_right _ (List.mem_append_right _ (List.mem_append_right _ (List.mem_append_right _ (List.mem_append_right _ (List.mem_append_right _ (List.mem_append_right _ (List.mem_append_left _ h))))))))))))))) zg_m263_X7_put)) rfl rfl rfl (by decide +kernel) ⟨Nat.le_of_ble_eq_true rfl, Nat.le_of_ble_eq_true rfl⟩ 18 rfl rfl rfl rfl (Nat.le_of_ble_eq_true rfl) ⟨Nat.le_of_ble_eq_true rfl, Nat.le_of_ble_eq_true rfl⟩ dX11_set_30 (fun v ty' w' hp hk' => ?_)
        obtain ⟨rfl, rfl⟩ := hp
        show GW κ 4 0 0 (wX q d iX0 (up3 aX0 10 2 a781)) 33 [(3, .int 0), (0, .ref (q 0)), (1, .int a780), (2, .int a781)] []
        refine g_aload_n hk dX11_set_33 rfl ?_
        refine gX_r0_5 hk hin11 (List.mem_cons_of_mem _ (List.mem_append_left _ (List.mem_of_getElem? (i := 10) rfl))) dX11_set_34 ?_
        refine g_iconst (v := 3) hk dX11_set_37 (by decide) ?_
        refine g_iload_n hk dX11_set_38 rfl ?_
        refine g_iload_n hk dX11_set_39 rfl ?_
        refine g_callV (n := 3) hk (m264_X3_note l D zt a781 d q a780 (by omega) (by omega)) (SP.same _) (fun _ h => h) (gi_V (List.mem_cons_of_mem _ (List.mem_append_left _ (List.mem_of_getElem? (i := 11) rfl))) (List.mem_cons_of_mem _ (List.mem_append_left _ (List.mem_of_getElem? (i := 12) rfl))) (List.mem_cons_of_mem _ (List.mem_append_left _ (List.mem_of_getElem? (i := 13) rfl))) (List.mem_cons_of_mem _ (List.mem_append_left _ (List.mem_of_getElem? (i := 14) rfl))) (gi_sub (fun w h => (List.mem_cons_of_mem _ (List.mem_append_right _ (List.mem_append_right _ (List.mem_append_right _ (List.mem_append_right _ (List.mem_append_right _ (List.mem_append_right _ (List.mem_append_right _ (List.mem_append_right _ (List.mem_append_right _ (List.mem_append_right _ (List.mem_append_right _ (List.mem_append_right _ (List.mem_append_right _ (List.mem_append_left _ h)))))))))))))))) zg_m264_X3_note)) rfl rfl rfl (by decide +kernel) ⟨Nat.le_of_ble_eq_true rfl, Nat.le_of_ble_eq_true rfl⟩ 20 rfl rfl rfl rfl (Nat.le_of_ble_eq_true rfl) ⟨Nat.le_of_ble_eq_true rfl, Nat.le_of_ble_eq_true rfl⟩ dX11_set_40 (fun v ty' w' hp hk' => ?_)
        obtain ⟨rfl, rfl⟩ := hp
        show GW κ 4 0 0 (wX q d (upd (upd iX0 20 1) 21 1) (up3 (up3 (up3 aX0 10 2 a781) 11 0 3) 12 0 a780)) 43 [(3, .int 0), (0, .ref (q 0)), (1, .int a780), (2, .int a781)] []
        refine g_iconst (v := 1) hk dX11_set_43 (by decide) ?_
        exact g_iret hk hR rfl (Or.inr (Or.inr (Or.inr (Or.inr (Or.inr (Or.inr (Or.inr (Or.inr (Or.inr (Or.inr (Or.inr (Or.inr (Or.inl ⟨c799, c800, c801, c802, c803, c860, c861, c862, c863, rfl, rfl⟩))))))))))))) dX11_set_44
      · skip
        refine g_iconst (v := 0) hk dX11_set_22 (by decide) ?_
        exact g_iret hk hR rfl (Or.inr (Or.inr (Or.inr (Or.inr (Or.inr (Or.inr (Or.inr (Or.inr (Or.inr (Or.inr (Or.inr (Or.inr (Or.inr (Or.inl ⟨c799, c800, c801, c802, c803, c860, c861, c862, c863, rfl, rfl⟩)))))))))))))) dX11_set_23
  · show GW κ 4 0 0 (wX q d iX0 aX0) 8 [(0, .ref (q 0)), (1, .int a780), (2, .int a781)] [.int 8]
    refine g_istore_n (lv' := [(3, .int 8), (0, .ref (q 0)), (1, .int a780), (2, .int a781)]) hk dX11_set_8 (by decide) rfl ?_
    refine g_iload_n hk dX11_set_9 rfl ?_
    refine g_iload_n hk dX11_set_10 rfl ?_
    refine g_callS (n := 2) hk (m265_X7_allows l D zt d q a780 a781 (by omega) (by omega)) (SP.same _) (fun _ h => h) (gi_S (List.mem_cons_of_mem _ (List.mem_append_left _ (List.mem_of_getElem? (i := 5) rfl))) (List.mem_cons_of_mem _ (List.mem_append_left _ (List.mem_of_getElem? (i := 6) rfl))) (List.mem_cons_of_mem _ (List.mem_append_left _ (List.mem_of_getElem? (i := 4) rfl))) (gi_sub (fun w h => (List.mem_cons_of_mem _ (List.mem_append_right _ (List.mem_append_right _ (List.mem_append_right _ (List.mem_append_right _ (List.mem_append_right _ (List.mem_append_right _ (List.mem_append_right _ (List.mem_append_right _ (List.mem_append_right _ (List.mem_append_right _ (List.mem_append_right _ (List.mem_append_right _ (List.mem_append_right _ (List.mem_append_right _ (List.mem_append_left _ h))))))))))))))))) zg_m265_X7_allows)) rfl rfl rfl (by decide +kernel) ⟨Nat.le_of_ble_eq_true rfl, Nat.le_of_ble_eq_true rfl⟩ rfl rfl (Nat.le_of_ble_eq_true rfl) ⟨Nat.le_of_ble_eq_true rfl, Nat.le_of_ble_eq_true rfl⟩ dX11_set_11 (fun v ty' w' hp hk' => ?_)
    rcases hp with ⟨c873, c874, rfl, rfl⟩ | ⟨c875, c876, c877, rfl, rfl⟩ | ⟨c878, c879, c880, rfl, rfl⟩
    · show GW κ 4 0 0 (wX q d iX0 aX0) 14 [(3, .int 8), (0, .ref (q 0)), (1, .int a780), (2, .int a781)] [.int 0]
      refine g_if_eq (tgt := 22) (a := 0) hk dX11_set_14 (by decide) rfl (fun _ => ?_) (fun z9 => absurd (show (0 : Int) = (0 : Int) from by decide) z9)
      refine g_iconst (v := 0) hk dX11_set_22 (by decide) ?_
      exact g_iret hk hR rfl (Or.inr (Or.inr (Or.inr (Or.inr (Or.inr (Or.inr (Or.inr (Or.inr (Or.inr (Or.inr (Or.inr (Or.inr (Or.inr (Or.inr (Or.inl ⟨c804, c805, c806, c807, c808, c809, c873, c874, rfl, rfl⟩))))))))))))))) dX11_set_23
    · show GW κ 4 0 0 (wX q d iX0 aX0) 14 [(3, .int 8), (0, .ref (q 0)), (1, .int a780), (2, .int a781)] [.int 0]
      refine g_if_eq (tgt := 22) (a := 0) hk dX11_set_14 (by decide) rfl (fun _ => ?_) (fun z9 => absurd (show (0 : Int) = (0 : Int) from by decide) z9)
      refine g_iconst (v := 0) hk dX11_set_22 (by decide) ?_
      exact g_iret hk hR rfl (Or.inr (Or.inr (Or.inr (Or.inr (Or.inr (Or.inr (Or.inr (Or.inr (Or.inr (Or.inr (Or.inr (Or.inr (Or.inr (Or.inr (Or.inr (Or.inl ⟨c804, c805, c806, c807, c808, c809, c875, c876, c877, rfl, rfl⟩)))))))))))))))) dX11_set_23
    · show GW κ 4 0 0 (wX q d iX0 aX0) 14 [(3, .int 8), (0, .ref (q 0)), (1, .int a780), (2, .int a781)] [.int 1]
      refine g_if_eq (tgt := 22) (a := 1) hk dX11_set_14 (by decide) rfl (fun z9 => absurd z9 (show ¬ ((1 : Int) = (0 : Int)) from by decide)) (fun _ => ?_)
      refine g_iload_n hk dX11_set_17 rfl ?_
      refine g_iload_n hk dX11_set_18 rfl ?_
      refine g_icmp_ne (tgt := 24) (a := 8) (b := a781.toInt) hk dX11_set_19 (by decide) rfl rfl (fun c881 => ?_) (fun c881 => ?_)
      · skip
        refine g_aload_n hk dX11_set_24 rfl ?_
        refine gX_r0_4 hk hin11 (List.mem_cons_of_mem _ (List.mem_append_left _ (List.mem_of_getElem? (i := 0) rfl))) dX11_set_25 ?_
        refine g_iload_n hk dX11_set_28 rfl ?_
        refine g_iload_n hk dX11_set_29 rfl ?_
        refine g_callV (n := 2) hk (m266_X7_put l D zt d q a780 a781 (by omega) (by omega) (by omega) (by omega)) (SP.same _) (fun _ h => h) (gi_V (List.mem_cons_of_mem _ (List.mem_append_left _ (List.mem_of_getElem? (i := 7) rfl))) (List.mem_cons_of_mem _ (List.mem_append_left _ (List.mem_of_getElem? (i := 8) rfl))) (List.mem_cons_of_mem _ (List.mem_append_left _ (List.mem_of_getElem? (i := 9) rfl))) (List.mem_cons_of_mem _ (List.mem_append_left _ (List.mem_of_getElem? (i := 4) rfl))) (gi_sub (fun w h => (List.mem_cons_of_mem _ (List.mem_append_right _ (List.mem_append_right _ (List.mem_append_right _ (List.mem_append_right _ (List.mem_append_right _ (List.mem_append_right _ (List.mem_append_right _ (List.mem_append_right _ (List.mem_append_right _ (List.mem_append_right _ (List.mem_append_right _ (List.mem_append_right _ (List.mem_append_right _ (List.mem_append_right _ (List.mem_append_right _ (List.mem_append_left _ h)))))))))))))))))) zg_m266_X7_put)) rfl rfl rfl (by decide +kernel) ⟨Nat.le_of_ble_eq_true rfl, Nat.le_of_ble_eq_true rfl⟩ 18 rfl rfl rfl rfl (Nat.le_of_ble_eq_true rfl) ⟨Nat.le_of_ble_eq_true rfl, Nat.le_of_ble_eq_true rfl⟩ dX11_set_30 (fun v ty' w' hp hk' => ?_)
        obtain ⟨rfl, rfl⟩ := hp
        show GW κ 4 0 0 (wX q d iX0 (up3 aX0 10 3 a781)) 33 [(3, .int 8), (0, .ref (q 0)), (1, .int a780), (2, .int a781)] []
        refine g_aload_n hk dX11_set_33 rfl ?_
        refine gX_r0_5 hk hin11 (List.mem_cons_of_mem _ (List.mem_append_left _ (List.mem_of_getElem? (i := 10) rfl))) dX11_set_34 ?_
        refine g_iconst (v := 3) hk dX11_set_37 (by decide) ?_
        refine g_iload_n hk dX11_set_38 rfl ?_
        refine g_iload_n hk dX11_set_39 rfl ?_
        refine g_callV (n := 3) hk (m267_X3_note l D zt a781 d q a780 (by omega) (by omega)) (SP.same _) (fun _ h => h) (gi_V (List.mem_cons_of_mem _ (List.mem_append_left _ (List.mem_of_getElem? (i := 11) rfl))) (List.mem_cons_of_mem _ (List.mem_append_left _ (List.mem_of_getElem? (i := 12) rfl))) (List.mem_cons_of_mem _ (List.mem_append_left _ (List.mem_of_getElem? (i := 13) rfl))) (List.mem_cons_of_mem _ (List.mem_append_left _ (List.mem_of_getElem? (i := 14) rfl))) (gi_sub (fun w h => (List.mem_cons_of_mem _ (List.mem_append_right _ (List.mem_append_right _ (List.mem_append_right _ (List.mem_append_right _ (List.mem_append_right _ (List.mem_append_right _ (List.mem_append_right _ (List.mem_append_right _ (List.mem_append_right _ (List.mem_append_right _ (List.mem_append_right _ (List.mem_append_right _ (List.mem_append_right _ (List.mem_append_right _ (List.mem_append_right _ (List.mem_append_right _ (List.mem_append_left _ h))))))))))))))))))) zg_m267_X3_note)) rfl rfl rfl (by decide +kernel) ⟨Nat.le_of_ble_eq_true rfl, Nat.le_of_ble_eq_true rfl⟩ 20 rfl rfl rfl rfl (Nat.le_of_ble_eq_true rfl) ⟨Nat.le_of_ble_eq_true rfl, Nat.le_of_ble_eq_true rfl⟩ dX11_set_40 (fun v ty' w' hp hk' => ?_)
        obtain ⟨rfl, rfl⟩ := hp
        show GW κ 4 0 0 (wX q d (upd (upd iX0 20 1) 21 1) (up3 (up3 (up3 (up3 aX0 10 3 a781) 11 0 3) 12 0 a780) 13 0 8)) 43 [(3, .int 8), (0, .ref (q 0)), (1, .int a780), (2, .int a781)] []
        refine g_iconst (v := 1) hk dX11_set_43 (by decide) ?_
        exact g_iret hk hR rfl (Or.inr (Or.inr (Or.inr (Or.inr (Or.inr (Or.inr (Or.inr (Or.inr (Or.inr (Or.inr (Or.inr (Or.inr (Or.inr (Or.inr (Or.inr (Or.inr (Or.inl ⟨c804, c805, c806, c807, c808, c809, c878, c879, c880, c881, rfl, rfl⟩))))))))))))))))) dX11_set_44
      · skip
        refine g_iconst (v := 0) hk dX11_set_22 (by decide) ?_
        exact g_iret hk hR rfl (Or.inr (Or.inr (Or.inr (Or.inr (Or.inr (Or.inr (Or.inr (Or.inr (Or.inr (Or.inr (Or.inr (Or.inr (Or.inr (Or.inr (Or.inr (Or.inr (Or.inr (⟨c804, c805, c806, c807, c808, c809, c878, c879, c880, c881, rfl, rfl⟩)))))))))))))))))) dX11_set_23
def wo_m269_X3_stepBack : List Cond := [Cond.fieldLink RX3 19 "WarpDesk$Past" "size" "I"]
def wz_m269_X3_stepBack : List Cond := .code yX3_stepBack cX3_stepBack 1 (some .boolean) :: (wo_m269_X3_stepBack ++ (wsX30 ++ ([] : List Cond)))
theorem zg_m269_X3_stepBack : ∀ w ∈ wz_m269_X3_stepBack, goodWord w = true := zg_cons rfl (zg_app (by decide +kernel) (zg_app zgU_wsX30 zg_nil))
theorem zi_m269_X3_stepBack : ∀ w ∈ wz_m269_X3_stepBack, w ∈ lw_tbl := zi_cons zw_873 (zi_app (zi_cons zw_306 zi_nil) (zi_app inX3 zi_nil))
set_option maxHeartbeats 4000000 in
set_option maxRecDepth 100000 in
theorem m269_X3_stepBack (l : Launch) (D : va_G) (zt : Nat × Nat × Nat) (d : Nat → ClassId) (q : Nat → Nat) : GM l D zt (tyX d) yX3_stepBack wz_m269_X3_stepBack ({ frames := 0, cells := 0, slots := 0, locals := 0 } : Room) [.ref (q 20)] (wX q d iX0 aX0) (fun v _ w' => v = some (.int 0) ∧ w' = wX q d iX0 aX0) 0 0 := by
  refine GM.of (cc := cX3_stepBack) (maxL := 1) (ret := (some .boolean)) (own := RX3) (lv := [(0, .ref (q 20))]) (by decide) rfl rfl (Nat.le_of_ble_eq_true rfl) rfl (fun κ sz hk hR hN => ?_)
  have hin3 : ∀ w ∈ u_ws RX3 TX3 5, w ∈ wz_m269_X3_stepBack := fun w h => (List.mem_cons_of_mem _ (List.mem_append_right _ (List.mem_append_left _ h)))
  refine g_aload_n hk dX3_stepBack_0 rfl ?_
  refine gX_i21 (v := 0) hk hin3 (List.mem_cons_of_mem _ (List.mem_append_left _ (List.mem_of_getElem? (i := 0) rfl))) dX3_stepBack_1 rfl ?_
  refine g_iconst (v := 1) hk dX3_stepBack_4 (by decide) ?_
  refine g_icmp_ge (tgt := 10) (a := 0) (b := 1) hk dX3_stepBack_5 (by decide) rfl rfl (fun z9 => absurd z9 (show ¬ ((1 : Int) ≤ (0 : Int)) from by decide)) (fun _ => ?_)
  refine g_iconst (v := 0) hk dX3_stepBack_8 (by decide) ?_
  exact g_iret hk hR rfl ⟨rfl, rfl⟩ dX3_stepBack_9
def wo_m268_X11_undo : List Cond := [Cond.fieldLink RX11 49 "WarpDesk" "past" "LWarpDesk$Past;", Cond.methodLink RX11 164 yX3_stepBack, Cond.instanceMethod yX3_stepBack, Cond.selects RX3 yX3_stepBack yX3_stepBack, Cond.initialized RX3]
def wz_m268_X11_undo : List Cond := .code yX11_undo cX11_undo 2 (some .boolean) :: (wo_m268_X11_undo ++ (wsX110 ++ (wz_m269_X3_stepBack ++ ([] : List Cond))))
theorem zg_m268_X11_undo : ∀ w ∈ wz_m268_X11_undo, goodWord w = true := zg_cons rfl (zg_app (by decide +kernel) (zg_app zgU_wsX110 (zg_app zg_m269_X3_stepBack zg_nil)))
theorem zi_m268_X11_undo : ∀ w ∈ wz_m268_X11_undo, w ∈ lw_tbl := zi_cons zw_869 (zi_app (zi_cons zw_492 (zi_cons zw_870 (zi_cons zw_871 (zi_cons zw_872 (zi_cons zw_110 zi_nil))))) (zi_app inX11 (zi_app zi_m269_X3_stepBack zi_nil)))
set_option maxHeartbeats 4000000 in
set_option maxRecDepth 100000 in
theorem m268_X11_undo (l : Launch) (D : va_G) (zt : Nat × Nat × Nat) (d : Nat → ClassId) (q : Nat → Nat) : GM l D zt (tyX d) yX11_undo wz_m268_X11_undo ({ frames := 1, cells := 0, slots := 0, locals := 20 } : Room) [.ref (q 0)] (wX q d iX0 aX0) (fun v _ w' => v = some (.int 0) ∧ w' = wX q d iX0 aX0) 0 0 := by
  refine GM.of (cc := cX11_undo) (maxL := 2) (ret := (some .boolean)) (own := RX11) (lv := [(0, .ref (q 0))]) (by decide) rfl rfl (Nat.le_of_ble_eq_true rfl) rfl (fun κ sz hk hR hN => ?_)
  have hin11 : ∀ w ∈ u_ws RX11 TX11 10, w ∈ wz_m268_X11_undo := fun w h => (List.mem_cons_of_mem _ (List.mem_append_right _ (List.mem_append_left _ h)))
  refine g_aload_n hk dX11_undo_0 rfl ?_
  refine gX_r0_5 hk hin11 (List.mem_cons_of_mem _ (List.mem_append_left _ (List.mem_of_getElem? (i := 0) rfl))) dX11_undo_1 ?_
  refine g_callV (n := 0) hk (m269_X3_stepBack l D zt d q) (SP.same _) (fun _ h => h) (gi_V (List.mem_cons_of_mem _ (List.mem_append_left _ (List.mem_of_getElem? (i := 1) rfl))) (List.mem_cons_of_mem _ (List.mem_append_left _ (List.mem_of_getElem? (i := 2) rfl))) (List.mem_cons_of_mem _ (List.mem_append_left _ (List.mem_of_getElem? (i := 3) rfl))) (List.mem_cons_of_mem _ (List.mem_append_left _ (List.mem_of_getElem? (i := 4) rfl))) (gi_sub (fun w h => (List.mem_cons_of_mem _ (List.mem_append_right _ (List.mem_append_right _ (List.mem_append_left _ h))))) zg_m269_X3_stepBack)) rfl rfl rfl (by decide +kernel) ⟨Nat.le_of_ble_eq_true rfl, Nat.le_of_ble_eq_true rfl⟩ 20 rfl rfl rfl rfl (Nat.le_of_ble_eq_true rfl) ⟨Nat.le_of_ble_eq_true rfl, Nat.le_of_ble_eq_true rfl⟩ dX11_undo_4 (fun v ty' w' hp hk' => ?_)
  obtain ⟨rfl, rfl⟩ := hp
  show GW κ 2 0 0 (wX q d iX0 aX0) 7 [(0, .ref (q 0))] [.int 0]
  refine g_if_ne (tgt := 12) (a := 0) hk dX11_undo_7 (by decide) rfl (fun z9 => absurd z9 (show ¬ ((0 : Int) ≠ (0 : Int)) from by decide)) (fun _ => ?_)
  refine g_iconst (v := 0) hk dX11_undo_10 (by decide) ?_
  exact g_iret hk hR rfl ⟨rfl, rfl⟩ dX11_undo_11
def wo_m271_X6_hasWindow : List Cond := [Cond.fieldLink RX6 19 "WarpDesk$Series" "size" "I"]
def wz_m271_X6_hasWindow : List Cond := .code yX6_hasWindow cX6_hasWindow 4 (some .boolean) :: (wo_m271_X6_hasWindow ++ (wsX60 ++ ([] : List Cond)))
theorem zg_m271_X6_hasWindow : ∀ w ∈ wz_m271_X6_hasWindow, goodWord w = true := zg_cons rfl (zg_app (by decide +kernel) (zg_app zgU_wsX60 zg_nil))
theorem zi_m271_X6_hasWindow : ∀ w ∈ wz_m271_X6_hasWindow, w ∈ lw_tbl := zi_cons zw_904 (zi_app (zi_cons zw_282 zi_nil) (zi_app inX6 zi_nil))
set_option maxHeartbeats 4000000 in
set_option maxRecDepth 100000 in
theorem m271_X6_hasWindow (l : Launch) (D : va_G) (zt : Nat × Nat × Nat) (d : Nat → ClassId) (q : Nat → Nat) (a890 : Int32) (a891 : Int32) (h0 : 1 ≤ a891.toInt) : GM l D zt (tyX d) yX6_hasWindow wz_m271_X6_hasWindow ({ frames := 0, cells := 0, slots := 0, locals := 0 } : Room) [.ref (q 13), .int a890, .int a891] (wX q d iX0 aX0) (fun v _ w' => v = some (.int 0) ∧ w' = wX q d iX0 aX0) 0 0 := by
  refine GM.of (cc := cX6_hasWindow) (maxL := 4) (ret := (some .boolean)) (own := RX6) (lv := [(0, .ref (q 13)), (1, .int a890), (2, .int a891)]) (by decide) rfl rfl (Nat.le_of_ble_eq_true rfl) rfl (fun κ sz hk hR hN => ?_)
  have hin6 : ∀ w ∈ u_ws RX6 TX6 3, w ∈ wz_m271_X6_hasWindow := fun w h => (List.mem_cons_of_mem _ (List.mem_append_right _ (List.mem_append_left _ h)))
  refine g_iload_n hk dX6_hasWindow_0 rfl ?_
  refine g_if_lt (tgt := 27) (a := a890.toInt) hk dX6_hasWindow_1 (by decide) rfl (fun c892 => ?_) (fun c892 => ?_)
  · skip
    refine g_iconst (v := 0) hk dX6_hasWindow_27 (by decide) ?_
    exact g_iret hk hR rfl ⟨rfl, rfl⟩ dX6_hasWindow_28
  · skip
    refine g_iload_n hk dX6_hasWindow_4 rfl ?_
    refine g_aload_n hk dX6_hasWindow_5 rfl ?_
    refine gX_i18 (v := 0) hk hin6 (List.mem_cons_of_mem _ (List.mem_append_left _ (List.mem_of_getElem? (i := 0) rfl))) dX6_hasWindow_6 rfl ?_
    refine g_icmp_ge (tgt := 27) (a := a890.toInt) (b := 0) hk dX6_hasWindow_9 (by decide) rfl rfl (fun _ => ?_) (fun z9 => absurd (show 0 ≤ a890.toInt from by omega) z9)
    refine g_iconst (v := 0) hk dX6_hasWindow_27 (by decide) ?_
    exact g_iret hk hR rfl ⟨rfl, rfl⟩ dX6_hasWindow_28
def wo_m270_X11_window : List Cond := [Cond.constant RX11 186 (-1000000), Cond.fieldLink RX11 28 "WarpDesk" "series" "LWarpDesk$Series;", Cond.methodLink RX11 183 yX6_hasWindow, Cond.instanceMethod yX6_hasWindow, Cond.selects RX6 yX6_hasWindow yX6_hasWindow, Cond.initialized RX6]
def wz_m270_X11_window : List Cond := .code yX11_window cX11_window 4 (some .int) :: (wo_m270_X11_window ++ (wsX110 ++ (wz_m271_X6_hasWindow ++ ([] : List Cond))))
theorem zg_m270_X11_window : ∀ w ∈ wz_m270_X11_window, goodWord w = true := zg_cons rfl (zg_app (by decide +kernel) (zg_app zgU_wsX110 (zg_app zg_m271_X6_hasWindow zg_nil)))
theorem zi_m270_X11_window : ∀ w ∈ wz_m270_X11_window, w ∈ lw_tbl := zi_cons zw_900 (zi_app (zi_cons zw_906 (zi_cons zw_489 (zi_cons zw_901 (zi_cons zw_902 (zi_cons zw_903 (zi_cons zw_109 zi_nil)))))) (zi_app inX11 (zi_app zi_m271_X6_hasWindow zi_nil)))
set_option maxHeartbeats 4000000 in
set_option maxRecDepth 100000 in
theorem m270_X11_window (l : Launch) (D : va_G) (zt : Nat × Nat × Nat) (d : Nat → ClassId) (q : Nat → Nat) (a886 : Int32) (a887 : Int32) (a888 : Int32) : GM l D zt (tyX d) yX11_window wz_m270_X11_window ({ frames := 1, cells := 0, slots := 0, locals := 23 } : Room) [.ref (q 0), .int a886, .int a887, .int a888] (wX q d iX0 aX0) (fun v _ w' => v = some (.int (-1000000)) ∧ w' = wX q d iX0 aX0) 0 0 := by
  refine GM.of (cc := cX11_window) (maxL := 4) (ret := (some .int)) (own := RX11) (lv := [(0, .ref (q 0)), (1, .int a886), (2, .int a887), (3, .int a888)]) (by decide) rfl rfl (Nat.le_of_ble_eq_true rfl) rfl (fun κ sz hk hR hN => ?_)
  have hin11 : ∀ w ∈ u_ws RX11 TX11 10, w ∈ wz_m270_X11_window := fun w h => (List.mem_cons_of_mem _ (List.mem_append_right _ (List.mem_append_left _ h)))
  refine g_iload_n hk dX11_window_0 rfl ?_
  refine g_iconst (v := 1) hk dX11_window_1 (by decide) ?_
  refine g_icmp_lt (tgt := 17) (a := a887.toInt) (b := 1) hk dX11_window_2 (by decide) rfl rfl (fun c889 => ?_) (fun c889 => ?_)
  · skip
    refine g_ldc (v := (-1000000)) hk (List.mem_cons_of_mem _ (List.mem_append_left _ (List.mem_of_getElem? (i := 0) rfl))) dX11_window_17 ?_
    exact g_iret hk hR rfl ⟨rfl, rfl⟩ dX11_window_19
  · skip
    refine g_aload_n hk dX11_window_5 rfl ?_
    refine gX_r0_2 hk hin11 (List.mem_cons_of_mem _ (List.mem_append_left _ (List.mem_of_getElem? (i := 1) rfl))) dX11_window_6 ?_
    refine g_iload_n hk dX11_window_9 rfl ?_
    refine g_iload_n hk dX11_window_10 rfl ?_
    refine g_callV (n := 2) hk (m271_X6_hasWindow l D zt d q a886 a887 (by omega)) (SP.same _) (fun _ h => h) (gi_V (List.mem_cons_of_mem _ (List.mem_append_left _ (List.mem_of_getElem? (i := 2) rfl))) (List.mem_cons_of_mem _ (List.mem_append_left _ (List.mem_of_getElem? (i := 3) rfl))) (List.mem_cons_of_mem _ (List.mem_append_left _ (List.mem_of_getElem? (i := 4) rfl))) (List.mem_cons_of_mem _ (List.mem_append_left _ (List.mem_of_getElem? (i := 5) rfl))) (gi_sub (fun w h => (List.mem_cons_of_mem _ (List.mem_append_right _ (List.mem_append_right _ (List.mem_append_left _ h))))) zg_m271_X6_hasWindow)) rfl rfl rfl (by decide +kernel) ⟨Nat.le_of_ble_eq_true rfl, Nat.le_of_ble_eq_true rfl⟩ 13 rfl rfl rfl rfl (Nat.le_of_ble_eq_true rfl) ⟨Nat.le_of_ble_eq_true rfl, Nat.le_of_ble_eq_true rfl⟩ dX11_window_11 (fun v ty' w' hp hk' => ?_)
    obtain ⟨rfl, rfl⟩ := hp
    show GW κ 4 0 0 (wX q d iX0 aX0) 14 [(0, .ref (q 0)), (1, .int a886), (2, .int a887), (3, .int a888)] [.int 0]
    refine g_if_ne (tgt := 20) (a := 0) hk dX11_window_14 (by decide) rfl (fun z9 => absurd z9 (show ¬ ((0 : Int) ≠ (0 : Int)) from by decide)) (fun _ => ?_)
    refine g_ldc (v := (-1000000)) hk (List.mem_cons_of_mem _ (List.mem_append_left _ (List.mem_of_getElem? (i := 0) rfl))) dX11_window_17 ?_
    exact g_iret hk hR rfl ⟨rfl, rfl⟩ dX11_window_19
def wo_m273_X11_isStretch : List Cond := []
def wz_m273_X11_isStretch : List Cond := .code yX11_isStretch cX11_isStretch 1 (some .boolean) :: (wo_m273_X11_isStretch ++ ([] : List Cond))
theorem zg_m273_X11_isStretch : ∀ w ∈ wz_m273_X11_isStretch, goodWord w = true := zg_cons rfl (zg_app (by decide +kernel) zg_nil)
theorem zi_m273_X11_isStretch : ∀ w ∈ wz_m273_X11_isStretch, w ∈ lw_tbl := zi_cons zw_928 (zi_app zi_nil zi_nil)
set_option maxHeartbeats 4000000 in
set_option maxRecDepth 100000 in
theorem m273_X11_isStretch (l : Launch) (D : va_G) (zt : Nat × Nat × Nat) (d : Nat → ClassId) (q : Nat → Nat) (a896 : Int32) : GM l D zt (tyX d) yX11_isStretch wz_m273_X11_isStretch ({ frames := 0, cells := 0, slots := 0, locals := 0 } : Room) [.int a896] (wX q d iX0 aX0) (fun v _ w' => ((a896.toInt < 2) ∧ v = some (.int 0) ∧ w' = wX q d iX0 aX0) ∨ ((¬ (a896.toInt < 2)) ∧ (16 < a896.toInt) ∧ v = some (.int 0) ∧ w' = wX q d iX0 aX0) ∨ ((¬ (a896.toInt < 2)) ∧ (¬ (16 < a896.toInt)) ∧ v = some (.int 1) ∧ w' = wX q d iX0 aX0)) 0 0 := by
  refine GM.of (cc := cX11_isStretch) (maxL := 1) (ret := (some .boolean)) (own := RX11) (lv := [(0, .int a896)]) (by decide) rfl rfl (Nat.le_of_ble_eq_true rfl) rfl (fun κ sz hk hR hN => ?_)
  refine g_iload_n hk dX11_isStretch_0 rfl ?_
  refine g_iconst (v := 2) hk dX11_isStretch_1 (by decide) ?_
  refine g_icmp_lt (tgt := 15) (a := a896.toInt) (b := 2) hk dX11_isStretch_2 (by decide) rfl rfl (fun c897 => ?_) (fun c897 => ?_)
  · skip
    refine g_iconst (v := 0) hk dX11_isStretch_15 (by decide) ?_
    exact g_iret hk hR rfl (Or.inl ⟨c897, rfl, rfl⟩) dX11_isStretch_16
  · skip
    refine g_iload_n hk dX11_isStretch_5 rfl ?_
    refine g_bipush (v := 16) hk dX11_isStretch_6 (by decide) ?_
    refine g_icmp_gt (tgt := 15) (a := a896.toInt) (b := 16) hk dX11_isStretch_8 (by decide) rfl rfl (fun c898 => ?_) (fun c898 => ?_)
    · skip
      refine g_iconst (v := 0) hk dX11_isStretch_15 (by decide) ?_
      exact g_iret hk hR rfl (Or.inr (Or.inl ⟨c897, c898, rfl, rfl⟩)) dX11_isStretch_16
    · skip
      refine g_iconst (v := 1) hk dX11_isStretch_11 (by decide) ?_
      refine g_goto (tgt := 16) hk dX11_isStretch_12 (by decide) ?_
      exact g_iret hk hR rfl (Or.inr (Or.inr (⟨c897, c898, rfl, rfl⟩))) dX11_isStretch_16
def wo_m274_X6_hasWindow : List Cond := [Cond.fieldLink RX6 19 "WarpDesk$Series" "size" "I"]
def wz_m274_X6_hasWindow : List Cond := .code yX6_hasWindow cX6_hasWindow 4 (some .boolean) :: (wo_m274_X6_hasWindow ++ (wsX60 ++ ([] : List Cond)))
theorem zg_m274_X6_hasWindow : ∀ w ∈ wz_m274_X6_hasWindow, goodWord w = true := zg_cons rfl (zg_app (by decide +kernel) (zg_app zgU_wsX60 zg_nil))
theorem zi_m274_X6_hasWindow : ∀ w ∈ wz_m274_X6_hasWindow, w ∈ lw_tbl := zi_cons zw_904 (zi_app (zi_cons zw_282 zi_nil) (zi_app inX6 zi_nil))
set_option maxHeartbeats 4000000 in
set_option maxRecDepth 100000 in
theorem m274_X6_hasWindow (l : Launch) (D : va_G) (zt : Nat × Nat × Nat) (d : Nat → ClassId) (q : Nat → Nat) (a906 : Int32) (a907 : Int32) (h0 : 2 ≤ a907.toInt) (h1 : a907.toInt ≤ 16) : GM l D zt (tyX d) yX6_hasWindow wz_m274_X6_hasWindow ({ frames := 0, cells := 0, slots := 0, locals := 0 } : Room) [.ref (q 13), .int a906, .int a907] (wX q d iX0 aX0) (fun v _ w' => v = some (.int 0) ∧ w' = wX q d iX0 aX0) 0 0 := by
  refine GM.of (cc := cX6_hasWindow) (maxL := 4) (ret := (some .boolean)) (own := RX6) (lv := [(0, .ref (q 13)), (1, .int a906), (2, .int a907)]) (by decide) rfl rfl (Nat.le_of_ble_eq_true rfl) rfl (fun κ sz hk hR hN => ?_)
  have hin6 : ∀ w ∈ u_ws RX6 TX6 3, w ∈ wz_m274_X6_hasWindow := fun w h => (List.mem_cons_of_mem _ (List.mem_append_right _ (List.mem_append_left _ h)))
  refine g_iload_n hk dX6_hasWindow_0 rfl ?_
  refine g_if_lt (tgt := 27) (a := a906.toInt) hk dX6_hasWindow_1 (by decide) rfl (fun c908 => ?_) (fun c908 => ?_)
  · skip
    refine g_iconst (v := 0) hk dX6_hasWindow_27 (by decide) ?_
    exact g_iret hk hR rfl ⟨rfl, rfl⟩ dX6_hasWindow_28
  · skip
    refine g_iload_n hk dX6_hasWindow_4 rfl ?_
    refine g_aload_n hk dX6_hasWindow_5 rfl ?_
    refine gX_i18 (v := 0) hk hin6 (List.mem_cons_of_mem _ (List.mem_append_left _ (List.mem_of_getElem? (i := 0) rfl))) dX6_hasWindow_6 rfl ?_
    refine g_icmp_ge (tgt := 27) (a := a906.toInt) (b := 0) hk dX6_hasWindow_9 (by decide) rfl rfl (fun _ => ?_) (fun z9 => absurd (show 0 ≤ a906.toInt from by omega) z9)
    refine g_iconst (v := 0) hk dX6_hasWindow_27 (by decide) ?_
    exact g_iret hk hR rfl ⟨rfl, rfl⟩ dX6_hasWindow_28
def wo_m272_X11_level : List Cond := [Cond.methodLink RX11 196 yX11_isStretch, Cond.static yX11_isStretch, Cond.initialized RX11, Cond.constant RX11 186 (-1000000), Cond.fieldLink RX11 28 "WarpDesk" "series" "LWarpDesk$Series;", Cond.methodLink RX11 183 yX6_hasWindow, Cond.instanceMethod yX6_hasWindow, Cond.selects RX6 yX6_hasWindow yX6_hasWindow, Cond.initialized RX6]
def wz_m272_X11_level : List Cond := .code yX11_level cX11_level 4 (some .int) :: (wo_m272_X11_level ++ (wsX110 ++ (wz_m273_X11_isStretch ++ (wz_m274_X6_hasWindow ++ ([] : List Cond)))))
theorem zg_m272_X11_level : ∀ w ∈ wz_m272_X11_level, goodWord w = true := zg_cons rfl (zg_app (by decide +kernel) (zg_app zgU_wsX110 (zg_app zg_m273_X11_isStretch (zg_app zg_m274_X6_hasWindow zg_nil))))
theorem zi_m272_X11_level : ∀ w ∈ wz_m272_X11_level, w ∈ lw_tbl := zi_cons zw_925 (zi_app (zi_cons zw_926 (zi_cons zw_927 (zi_cons zw_103 (zi_cons zw_906 (zi_cons zw_489 (zi_cons zw_901 (zi_cons zw_902 (zi_cons zw_903 (zi_cons zw_109 zi_nil))))))))) (zi_app inX11 (zi_app zi_m273_X11_isStretch (zi_app zi_m274_X6_hasWindow zi_nil))))
set_option maxHeartbeats 4000000 in
set_option maxRecDepth 100000 in
theorem m272_X11_level (l : Launch) (D : va_G) (zt : Nat × Nat × Nat) (d : Nat → ClassId) (q : Nat → Nat) (a893 : Int32) (a894 : Int32) (a895 : Int32) : GM l D zt (tyX d) yX11_level wz_m272_X11_level ({ frames := 1, cells := 0, slots := 0, locals := 23 } : Room) [.ref (q 0), .int a893, .int a894, .int a895] (wX q d iX0 aX0) (fun v _ w' => v = some (.int (-1000000)) ∧ w' = wX q d iX0 aX0) 0 0 := by
  refine GM.of (cc := cX11_level) (maxL := 4) (ret := (some .int)) (own := RX11) (lv := [(0, .ref (q 0)), (1, .int a893), (2, .int a894), (3, .int a895)]) (by decide) rfl rfl (Nat.le_of_ble_eq_true rfl) rfl (fun κ sz hk hR hN => ?_)
  have hin11 : ∀ w ∈ u_ws RX11 TX11 10, w ∈ wz_m272_X11_level := fun w h => (List.mem_cons_of_mem _ (List.mem_append_right _ (List.mem_append_left _ h)))
  refine g_iload_n hk dX11_level_0 rfl ?_
  refine g_callS (n := 1) hk (m273_X11_isStretch l D zt d q a894) (SP.same _) (fun _ h => h) (gi_S (List.mem_cons_of_mem _ (List.mem_append_left _ (List.mem_of_getElem? (i := 0) rfl))) (List.mem_cons_of_mem _ (List.mem_append_left _ (List.mem_of_getElem? (i := 1) rfl))) (List.mem_cons_of_mem _ (List.mem_append_left _ (List.mem_of_getElem? (i := 2) rfl))) (gi_sub (fun w h => (List.mem_cons_of_mem _ (List.mem_append_right _ (List.mem_append_right _ (List.mem_append_left _ h))))) zg_m273_X11_isStretch)) rfl rfl rfl (by decide +kernel) ⟨Nat.le_of_ble_eq_true rfl, Nat.le_of_ble_eq_true rfl⟩ rfl rfl (Nat.le_of_ble_eq_true rfl) ⟨Nat.le_of_ble_eq_true rfl, Nat.le_of_ble_eq_true rfl⟩ dX11_level_1 (fun v ty' w' hp hk' => ?_)
  rcases hp with ⟨c899, rfl, rfl⟩ | ⟨c900, c901, rfl, rfl⟩ | ⟨c902, c903, rfl, rfl⟩
  · show GW κ 4 0 0 (wX q d iX0 aX0) 4 [(0, .ref (q 0)), (1, .int a893), (2, .int a894), (3, .int a895)] [.int 0]
    refine g_if_eq (tgt := 28) (a := 0) hk dX11_level_4 (by decide) rfl (fun _ => ?_) (fun z9 => absurd (show (0 : Int) = (0 : Int) from by decide) z9)
    refine g_ldc (v := (-1000000)) hk (List.mem_cons_of_mem _ (List.mem_append_left _ (List.mem_of_getElem? (i := 3) rfl))) dX11_level_28 ?_
    exact g_iret hk hR rfl ⟨rfl, rfl⟩ dX11_level_30
  · show GW κ 4 0 0 (wX q d iX0 aX0) 4 [(0, .ref (q 0)), (1, .int a893), (2, .int a894), (3, .int a895)] [.int 0]
    refine g_if_eq (tgt := 28) (a := 0) hk dX11_level_4 (by decide) rfl (fun _ => ?_) (fun z9 => absurd (show (0 : Int) = (0 : Int) from by decide) z9)
    refine g_ldc (v := (-1000000)) hk (List.mem_cons_of_mem _ (List.mem_append_left _ (List.mem_of_getElem? (i := 3) rfl))) dX11_level_28 ?_
    exact g_iret hk hR rfl ⟨rfl, rfl⟩ dX11_level_30
  · show GW κ 4 0 0 (wX q d iX0 aX0) 4 [(0, .ref (q 0)), (1, .int a893), (2, .int a894), (3, .int a895)] [.int 1]
    refine g_if_eq (tgt := 28) (a := 1) hk dX11_level_4 (by decide) rfl (fun z9 => absurd z9 (show ¬ ((1 : Int) = (0 : Int)) from by decide)) (fun _ => ?_)
    refine g_iload_n hk dX11_level_7 rfl ?_
    refine g_if_lt (tgt := 28) (a := a895.toInt) hk dX11_level_8 (by decide) rfl (fun c904 => ?_) (fun c904 => ?_)
    · skip
      refine g_ldc (v := (-1000000)) hk (List.mem_cons_of_mem _ (List.mem_append_left _ (List.mem_of_getElem? (i := 3) rfl))) dX11_level_28 ?_
      exact g_iret hk hR rfl ⟨rfl, rfl⟩ dX11_level_30
    · skip
      refine g_iload_n hk dX11_level_11 rfl ?_
      refine g_iload_n hk dX11_level_12 rfl ?_
      refine g_icmp_ge (tgt := 28) (a := a895.toInt) (b := a894.toInt) hk dX11_level_13 (by decide) rfl rfl (fun c905 => ?_) (fun c905 => ?_)
      · skip
        refine g_ldc (v := (-1000000)) hk (List.mem_cons_of_mem _ (List.mem_append_left _ (List.mem_of_getElem? (i := 3) rfl))) dX11_level_28 ?_
        exact g_iret hk hR rfl ⟨rfl, rfl⟩ dX11_level_30
      · skip
        refine g_aload_n hk dX11_level_16 rfl ?_
        refine gX_r0_2 hk hin11 (List.mem_cons_of_mem _ (List.mem_append_left _ (List.mem_of_getElem? (i := 4) rfl))) dX11_level_17 ?_
        refine g_iload_n hk dX11_level_20 rfl ?_
        refine g_iload_n hk dX11_level_21 rfl ?_
        refine g_callV (n := 2) hk (m274_X6_hasWindow l D zt d q a893 a894 (by omega) (by omega)) (SP.same _) (fun _ h => h) (gi_V (List.mem_cons_of_mem _ (List.mem_append_left _ (List.mem_of_getElem? (i := 5) rfl))) (List.mem_cons_of_mem _ (List.mem_append_left _ (List.mem_of_getElem? (i := 6) rfl))) (List.mem_cons_of_mem _ (List.mem_append_left _ (List.mem_of_getElem? (i := 7) rfl))) (List.mem_cons_of_mem _ (List.mem_append_left _ (List.mem_of_getElem? (i := 8) rfl))) (gi_sub (fun w h => (List.mem_cons_of_mem _ (List.mem_append_right _ (List.mem_append_right _ (List.mem_append_right _ (List.mem_append_left _ h)))))) zg_m274_X6_hasWindow)) rfl rfl rfl (by decide +kernel) ⟨Nat.le_of_ble_eq_true rfl, Nat.le_of_ble_eq_true rfl⟩ 13 rfl rfl rfl rfl (Nat.le_of_ble_eq_true rfl) ⟨Nat.le_of_ble_eq_true rfl, Nat.le_of_ble_eq_true rfl⟩ dX11_level_22 (fun v ty' w' hp hk' => ?_)
        obtain ⟨rfl, rfl⟩ := hp
        show GW κ 4 0 0 (wX q d iX0 aX0) 25 [(0, .ref (q 0)), (1, .int a893), (2, .int a894), (3, .int a895)] [.int 0]
        refine g_if_ne (tgt := 31) (a := 0) hk dX11_level_25 (by decide) rfl (fun z9 => absurd z9 (show ¬ ((0 : Int) ≠ (0 : Int)) from by decide)) (fun _ => ?_)
        refine g_ldc (v := (-1000000)) hk (List.mem_cons_of_mem _ (List.mem_append_left _ (List.mem_of_getElem? (i := 3) rfl))) dX11_level_28 ?_
        exact g_iret hk hR rfl ⟨rfl, rfl⟩ dX11_level_30
def wo_m277_X0_hasBoth : List Cond := [Cond.fieldLink RX0 22 "WarpDesk$Bench" "queries" "LWarpDesk$Queries;", Cond.methodLink RX0 30 yX4_has, Cond.instanceMethod yX4_has, Cond.selects RX4 yX4_has yX4_has, Cond.initialized RX4]
def wz_m277_X0_hasBoth : List Cond := .code yX0_hasBoth cX0_hasBoth 3 (some .boolean) :: (wo_m277_X0_hasBoth ++ (wsX00 ++ (wz_m240_X4_has ++ ([] : List Cond))))
theorem zg_m277_X0_hasBoth : ∀ w ∈ wz_m277_X0_hasBoth, goodWord w = true := zg_cons rfl (zg_app (by decide +kernel) (zg_app zgU_wsX00 (zg_app zg_m240_X4_has zg_nil)))
theorem zi_m277_X0_hasBoth : ∀ w ∈ wz_m277_X0_hasBoth, w ∈ lw_tbl := zi_cons zw_976 (zi_app (zi_cons zw_376 (zi_cons zw_977 (zi_cons zw_747 (zi_cons zw_748 (zi_cons zw_108 zi_nil))))) (zi_app inX0 (zi_app zi_m240_X4_has zi_nil)))
set_option maxHeartbeats 4000000 in
set_option maxRecDepth 100000 in
theorem m277_X0_hasBoth (l : Launch) (D : va_G) (zt : Nat × Nat × Nat) (d : Nat → ClassId) (q : Nat → Nat) (a913 : Int32) (a914 : Int32) : GM l D zt (tyX d) yX0_hasBoth wz_m277_X0_hasBoth ({ frames := 1, cells := 0, slots := 0, locals := 21 } : Room) [.ref (q 37), .int a913, .int a914] (wX q d iX0 aX0) (fun v _ w' => v = some (.int 0) ∧ w' = wX q d iX0 aX0) 0 0 := by
  refine GM.of (cc := cX0_hasBoth) (maxL := 3) (ret := (some .boolean)) (own := RX0) (lv := [(0, .ref (q 37)), (1, .int a913), (2, .int a914)]) (by decide) rfl rfl (Nat.le_of_ble_eq_true rfl) rfl (fun κ sz hk hR hN => ?_)
  have hin0 : ∀ w ∈ u_ws RX0 TX0 5, w ∈ wz_m277_X0_hasBoth := fun w h => (List.mem_cons_of_mem _ (List.mem_append_right _ (List.mem_append_left _ h)))
  refine g_aload_n hk dX0_hasBoth_0 rfl ?_
  refine gX_r37_1 hk hin0 (List.mem_cons_of_mem _ (List.mem_append_left _ (List.mem_of_getElem? (i := 0) rfl))) dX0_hasBoth_1 ?_
  refine g_iload_n hk dX0_hasBoth_4 rfl ?_
  refine g_callV (n := 1) hk (m240_X4_has l D zt d q a913) (SP.same _) (fun _ h => h) (gi_V (List.mem_cons_of_mem _ (List.mem_append_left _ (List.mem_of_getElem? (i := 1) rfl))) (List.mem_cons_of_mem _ (List.mem_append_left _ (List.mem_of_getElem? (i := 2) rfl))) (List.mem_cons_of_mem _ (List.mem_append_left _ (List.mem_of_getElem? (i := 3) rfl))) (List.mem_cons_of_mem _ (List.mem_append_left _ (List.mem_of_getElem? (i := 4) rfl))) (gi_sub (fun w h => (List.mem_cons_of_mem _ (List.mem_append_right _ (List.mem_append_right _ (List.mem_append_left _ h))))) zg_m240_X4_has)) rfl rfl rfl (by decide +kernel) ⟨Nat.le_of_ble_eq_true rfl, Nat.le_of_ble_eq_true rfl⟩ 15 rfl rfl rfl rfl (Nat.le_of_ble_eq_true rfl) ⟨Nat.le_of_ble_eq_true rfl, Nat.le_of_ble_eq_true rfl⟩ dX0_hasBoth_5 (fun v ty' w' hp hk' => ?_)
  obtain ⟨rfl, rfl⟩ := hp
  show GW κ 3 0 0 (wX q d iX0 aX0) 8 [(0, .ref (q 37)), (1, .int a913), (2, .int a914)] [.int 0]
  refine g_if_eq (tgt := 34) (a := 0) hk dX0_hasBoth_8 (by decide) rfl (fun _ => ?_) (fun z9 => absurd (show (0 : Int) = (0 : Int) from by decide) z9)
  refine g_iconst (v := 0) hk dX0_hasBoth_34 (by decide) ?_
  exact g_iret hk hR rfl ⟨rfl, rfl⟩ dX0_hasBoth_35
def wo_m276_X0_openBoth : List Cond := [Cond.methodLink RX0 46 yX0_hasBoth, Cond.instanceMethod yX0_hasBoth, Cond.selects RX0 yX0_hasBoth yX0_hasBoth, Cond.initialized RX0]
def wz_m276_X0_openBoth : List Cond := .code yX0_openBoth cX0_openBoth 3 (some .boolean) :: (wo_m276_X0_openBoth ++ (wz_m277_X0_hasBoth ++ ([] : List Cond)))
theorem zg_m276_X0_openBoth : ∀ w ∈ wz_m276_X0_openBoth, goodWord w = true := zg_cons rfl (zg_app (by decide +kernel) (zg_app zg_m277_X0_hasBoth zg_nil))
theorem zi_m276_X0_openBoth : ∀ w ∈ wz_m276_X0_openBoth, w ∈ lw_tbl := zi_cons zw_972 (zi_app (zi_cons zw_973 (zi_cons zw_974 (zi_cons zw_975 (zi_cons zw_111 zi_nil)))) (zi_app zi_m277_X0_hasBoth zi_nil))
set_option maxHeartbeats 4000000 in
set_option maxRecDepth 100000 in
theorem m276_X0_openBoth (l : Launch) (D : va_G) (zt : Nat × Nat × Nat) (d : Nat → ClassId) (q : Nat → Nat) (a911 : Int32) (a912 : Int32) : GM l D zt (tyX d) yX0_openBoth wz_m276_X0_openBoth ({ frames := 2, cells := 0, slots := 0, locals := 43 } : Room) [.ref (q 37), .int a911, .int a912] (wX q d iX0 aX0) (fun v _ w' => v = some (.int 0) ∧ w' = wX q d iX0 aX0) 0 0 := by
  refine GM.of (cc := cX0_openBoth) (maxL := 3) (ret := (some .boolean)) (own := RX0) (lv := [(0, .ref (q 37)), (1, .int a911), (2, .int a912)]) (by decide) rfl rfl (Nat.le_of_ble_eq_true rfl) rfl (fun κ sz hk hR hN => ?_)
  refine g_aload_n hk dX0_openBoth_0 rfl ?_
  refine g_iload_n hk dX0_openBoth_1 rfl ?_
  refine g_iload_n hk dX0_openBoth_2 rfl ?_
  refine g_callV (n := 2) hk (m277_X0_hasBoth l D zt d q a911 a912) (SP.same _) (fun _ h => h) (gi_V (List.mem_cons_of_mem _ (List.mem_append_left _ (List.mem_of_getElem? (i := 0) rfl))) (List.mem_cons_of_mem _ (List.mem_append_left _ (List.mem_of_getElem? (i := 1) rfl))) (List.mem_cons_of_mem _ (List.mem_append_left _ (List.mem_of_getElem? (i := 2) rfl))) (List.mem_cons_of_mem _ (List.mem_append_left _ (List.mem_of_getElem? (i := 3) rfl))) (gi_sub (fun w h => (List.mem_cons_of_mem _ (List.mem_append_right _ (List.mem_append_left _ h)))) zg_m277_X0_hasBoth)) rfl rfl rfl (by decide +kernel) ⟨Nat.le_of_ble_eq_true rfl, Nat.le_of_ble_eq_true rfl⟩ 37 rfl rfl rfl rfl (Nat.le_of_ble_eq_true rfl) ⟨Nat.le_of_ble_eq_true rfl, Nat.le_of_ble_eq_true rfl⟩ dX0_openBoth_3 (fun v ty' w' hp hk' => ?_)
  obtain ⟨rfl, rfl⟩ := hp
  show GW κ 3 0 0 (wX q d iX0 aX0) 6 [(0, .ref (q 37)), (1, .int a911), (2, .int a912)] [.int 0]
  refine g_if_ne (tgt := 11) (a := 0) hk dX0_openBoth_6 (by decide) rfl (fun z9 => absurd z9 (show ¬ ((0 : Int) ≠ (0 : Int)) from by decide)) (fun _ => ?_)
  refine g_iconst (v := 0) hk dX0_openBoth_9 (by decide) ?_
  exact g_iret hk hR rfl ⟨rfl, rfl⟩ dX0_openBoth_10
def wo_m275_X11_distance : List Cond := [Cond.fieldLink RX11 65 "WarpDesk" "bench" "LWarpDesk$Bench;", Cond.methodLink RX11 212 yX0_openBoth, Cond.instanceMethod yX0_openBoth, Cond.selects RX0 yX0_openBoth yX0_openBoth, Cond.initialized RX0]
def wz_m275_X11_distance : List Cond := .code yX11_distance cX11_distance 3 (some .int) :: (wo_m275_X11_distance ++ (wsX110 ++ (wz_m276_X0_openBoth ++ ([] : List Cond))))
theorem zg_m275_X11_distance : ∀ w ∈ wz_m275_X11_distance, goodWord w = true := zg_cons rfl (zg_app (by decide +kernel) (zg_app zgU_wsX110 (zg_app zg_m276_X0_openBoth zg_nil)))
theorem zi_m275_X11_distance : ∀ w ∈ wz_m275_X11_distance, w ∈ lw_tbl := zi_cons zw_968 (zi_app (zi_cons zw_494 (zi_cons zw_969 (zi_cons zw_970 (zi_cons zw_971 (zi_cons zw_111 zi_nil))))) (zi_app inX11 (zi_app zi_m276_X0_openBoth zi_nil)))
set_option maxHeartbeats 4000000 in
set_option maxRecDepth 100000 in
theorem m275_X11_distance (l : Launch) (D : va_G) (zt : Nat × Nat × Nat) (d : Nat → ClassId) (q : Nat → Nat) (a909 : Int32) (a910 : Int32) : GM l D zt (tyX d) yX11_distance wz_m275_X11_distance ({ frames := 3, cells := 0, slots := 0, locals := 65 } : Room) [.ref (q 0), .int a909, .int a910] (wX q d iX0 aX0) (fun v _ w' => v = some (.int (-1)) ∧ w' = wX q d iX0 aX0) 0 0 := by
  refine GM.of (cc := cX11_distance) (maxL := 3) (ret := (some .int)) (own := RX11) (lv := [(0, .ref (q 0)), (1, .int a909), (2, .int a910)]) (by decide) rfl rfl (Nat.le_of_ble_eq_true rfl) rfl (fun κ sz hk hR hN => ?_)
  have hin11 : ∀ w ∈ u_ws RX11 TX11 10, w ∈ wz_m275_X11_distance := fun w h => (List.mem_cons_of_mem _ (List.mem_append_right _ (List.mem_append_left _ h)))
  refine g_aload_n hk dX11_distance_0 rfl ?_
  refine gX_r0_7 hk hin11 (List.mem_cons_of_mem _ (List.mem_append_left _ (List.mem_of_getElem? (i := 0) rfl))) dX11_distance_1 ?_
  refine g_iload_n hk dX11_distance_4 rfl ?_
  refine g_iload_n hk dX11_distance_5 rfl ?_
  refine g_callV (n := 2) hk (m276_X0_openBoth l D zt d q a909 a910) (SP.same _) (fun _ h => h) (gi_V (List.mem_cons_of_mem _ (List.mem_append_left _ (List.mem_of_getElem? (i := 1) rfl))) (List.mem_cons_of_mem _ (List.mem_append_left _ (List.mem_of_getElem? (i := 2) rfl))) (List.mem_cons_of_mem _ (List.mem_append_left _ (List.mem_of_getElem? (i := 3) rfl))) (List.mem_cons_of_mem _ (List.mem_append_left _ (List.mem_of_getElem? (i := 4) rfl))) (gi_sub (fun w h => (List.mem_cons_of_mem _ (List.mem_append_right _ (List.mem_append_right _ (List.mem_append_left _ h))))) zg_m276_X0_openBoth)) rfl rfl rfl (by decide +kernel) ⟨Nat.le_of_ble_eq_true rfl, Nat.le_of_ble_eq_true rfl⟩ 37 rfl rfl rfl rfl (Nat.le_of_ble_eq_true rfl) ⟨Nat.le_of_ble_eq_true rfl, Nat.le_of_ble_eq_true rfl⟩ dX11_distance_6 (fun v ty' w' hp hk' => ?_)
  obtain ⟨rfl, rfl⟩ := hp
  show GW κ 3 0 0 (wX q d iX0 aX0) 9 [(0, .ref (q 0)), (1, .int a909), (2, .int a910)] [.int 0]
  refine g_if_eq (tgt := 25) (a := 0) hk dX11_distance_9 (by decide) rfl (fun _ => ?_) (fun z9 => absurd (show (0 : Int) = (0 : Int) from by decide) z9)
  refine g_iconst (v := (-1)) hk dX11_distance_25 (by decide) ?_
  exact g_iret hk hR rfl ⟨rfl, rfl⟩ dX11_distance_26
def wo_m278_X11_bound : List Cond := [Cond.fieldLink RX11 65 "WarpDesk" "bench" "LWarpDesk$Bench;", Cond.methodLink RX11 212 yX0_openBoth, Cond.instanceMethod yX0_openBoth, Cond.selects RX0 yX0_openBoth yX0_openBoth, Cond.initialized RX0]
def wz_m278_X11_bound : List Cond := .code yX11_bound cX11_bound 4 (some .int) :: (wo_m278_X11_bound ++ (wsX110 ++ (wz_m276_X0_openBoth ++ ([] : List Cond))))
theorem zg_m278_X11_bound : ∀ w ∈ wz_m278_X11_bound, goodWord w = true := zg_cons rfl (zg_app (by decide +kernel) (zg_app zgU_wsX110 (zg_app zg_m276_X0_openBoth zg_nil)))
theorem zi_m278_X11_bound : ∀ w ∈ wz_m278_X11_bound, w ∈ lw_tbl := zi_cons zw_1020 (zi_app (zi_cons zw_494 (zi_cons zw_969 (zi_cons zw_970 (zi_cons zw_971 (zi_cons zw_111 zi_nil))))) (zi_app inX11 (zi_app zi_m276_X0_openBoth zi_nil)))
set_option maxHeartbeats 4000000 in
set_option maxRecDepth 100000 in
theorem m278_X11_bound (l : Launch) (D : va_G) (zt : Nat × Nat × Nat) (d : Nat → ClassId) (q : Nat → Nat) (a915 : Int32) (a916 : Int32) (a917 : Int32) : GM l D zt (tyX d) yX11_bound wz_m278_X11_bound ({ frames := 3, cells := 0, slots := 0, locals := 65 } : Room) [.ref (q 0), .int a915, .int a916, .int a917] (wX q d iX0 aX0) (fun v _ w' => v = some (.int (-1)) ∧ w' = wX q d iX0 aX0) 0 0 := by
  refine GM.of (cc := cX11_bound) (maxL := 4) (ret := (some .int)) (own := RX11) (lv := [(0, .ref (q 0)), (1, .int a915), (2, .int a916), (3, .int a917)]) (by decide) rfl rfl (Nat.le_of_ble_eq_true rfl) rfl (fun κ sz hk hR hN => ?_)
  have hin11 : ∀ w ∈ u_ws RX11 TX11 10, w ∈ wz_m278_X11_bound := fun w h => (List.mem_cons_of_mem _ (List.mem_append_right _ (List.mem_append_left _ h)))
  refine g_aload_n hk dX11_bound_0 rfl ?_
  refine gX_r0_7 hk hin11 (List.mem_cons_of_mem _ (List.mem_append_left _ (List.mem_of_getElem? (i := 0) rfl))) dX11_bound_1 ?_
  refine g_iload_n hk dX11_bound_4 rfl ?_
  refine g_iload_n hk dX11_bound_5 rfl ?_
  refine g_callV (n := 2) hk (m276_X0_openBoth l D zt d q a915 a916) (SP.same _) (fun _ h => h) (gi_V (List.mem_cons_of_mem _ (List.mem_append_left _ (List.mem_of_getElem? (i := 1) rfl))) (List.mem_cons_of_mem _ (List.mem_append_left _ (List.mem_of_getElem? (i := 2) rfl))) (List.mem_cons_of_mem _ (List.mem_append_left _ (List.mem_of_getElem? (i := 3) rfl))) (List.mem_cons_of_mem _ (List.mem_append_left _ (List.mem_of_getElem? (i := 4) rfl))) (gi_sub (fun w h => (List.mem_cons_of_mem _ (List.mem_append_right _ (List.mem_append_right _ (List.mem_append_left _ h))))) zg_m276_X0_openBoth)) rfl rfl rfl (by decide +kernel) ⟨Nat.le_of_ble_eq_true rfl, Nat.le_of_ble_eq_true rfl⟩ 37 rfl rfl rfl rfl (Nat.le_of_ble_eq_true rfl) ⟨Nat.le_of_ble_eq_true rfl, Nat.le_of_ble_eq_true rfl⟩ dX11_bound_6 (fun v ty' w' hp hk' => ?_)
  obtain ⟨rfl, rfl⟩ := hp
  show GW κ 4 0 0 (wX q d iX0 aX0) 9 [(0, .ref (q 0)), (1, .int a915), (2, .int a916), (3, .int a917)] [.int 0]
  refine g_if_ne (tgt := 14) (a := 0) hk dX11_bound_9 (by decide) rfl (fun z9 => absurd z9 (show ¬ ((0 : Int) ≠ (0 : Int)) from by decide)) (fun _ => ?_)
  refine g_iconst (v := (-1)) hk dX11_bound_12 (by decide) ?_
  exact g_iret hk hR rfl ⟨rfl, rfl⟩ dX11_bound_13
def wo_m279_X11_look : List Cond := [Cond.fieldLink RX11 65 "WarpDesk" "bench" "LWarpDesk$Bench;", Cond.methodLink RX11 212 yX0_openBoth, Cond.instanceMethod yX0_openBoth, Cond.selects RX0 yX0_openBoth yX0_openBoth, Cond.initialized RX0]
def wz_m279_X11_look : List Cond := .code yX11_look cX11_look 6 (some .int) :: (wo_m279_X11_look ++ (wsX110 ++ (wz_m276_X0_openBoth ++ ([] : List Cond))))
theorem zg_m279_X11_look : ∀ w ∈ wz_m279_X11_look, goodWord w = true := zg_cons rfl (zg_app (by decide +kernel) (zg_app zgU_wsX110 (zg_app zg_m276_X0_openBoth zg_nil)))
theorem zi_m279_X11_look : ∀ w ∈ wz_m279_X11_look, w ∈ lw_tbl := zi_cons zw_1044 (zi_app (zi_cons zw_494 (zi_cons zw_969 (zi_cons zw_970 (zi_cons zw_971 (zi_cons zw_111 zi_nil))))) (zi_app inX11 (zi_app zi_m276_X0_openBoth zi_nil)))
set_option maxHeartbeats 4000000 in
set_option maxRecDepth 100000 in
theorem m279_X11_look (l : Launch) (D : va_G) (zt : Nat × Nat × Nat) (d : Nat → ClassId) (q : Nat → Nat) (a918 : Int32) (a919 : Int32) (a920 : Int32) (a921 : Int32) : GM l D zt (tyX d) yX11_look wz_m279_X11_look ({ frames := 3, cells := 0, slots := 0, locals := 65 } : Room) [.ref (q 0), .int a918, .int a919, .int a920, .int a921] (wX q d iX0 aX0) (fun v _ w' => v = some (.int (-1)) ∧ w' = wX q d iX0 aX0) 0 0 := by
  refine GM.of (cc := cX11_look) (maxL := 6) (ret := (some .int)) (own := RX11) (lv := [(0, .ref (q 0)), (1, .int a918), (2, .int a919), (3, .int a920), (4, .int a921)]) (by decide) rfl rfl (Nat.le_of_ble_eq_true rfl) rfl (fun κ sz hk hR hN => ?_)
  have hin11 : ∀ w ∈ u_ws RX11 TX11 10, w ∈ wz_m279_X11_look := fun w h => (List.mem_cons_of_mem _ (List.mem_append_right _ (List.mem_append_left _ h)))
  refine g_iload_n hk dX11_look_0 rfl ?_
  refine g_if_lt (tgt := 27) (a := a920.toInt) hk dX11_look_1 (by decide) rfl (fun c922 => ?_) (fun c922 => ?_)
  · skip
    refine g_iconst (v := (-1)) hk dX11_look_27 (by decide) ?_
    exact g_iret hk hR rfl ⟨rfl, rfl⟩ dX11_look_28
  · skip
    refine g_iload hk dX11_look_4 rfl ?_
    refine g_if_lt (tgt := 27) (a := a921.toInt) hk dX11_look_6 (by decide) rfl (fun c923 => ?_) (fun c923 => ?_)
    · skip
      refine g_iconst (v := (-1)) hk dX11_look_27 (by decide) ?_
      exact g_iret hk hR rfl ⟨rfl, rfl⟩ dX11_look_28
    · skip
      refine g_iload hk dX11_look_9 rfl ?_
      refine g_iconst (v := 2) hk dX11_look_11 (by decide) ?_
      refine g_icmp_gt (tgt := 27) (a := a921.toInt) (b := 2) hk dX11_look_12 (by decide) rfl rfl (fun c924 => ?_) (fun c924 => ?_)
      · skip
        refine g_iconst (v := (-1)) hk dX11_look_27 (by decide) ?_
        exact g_iret hk hR rfl ⟨rfl, rfl⟩ dX11_look_28
      · skip
        refine g_aload_n hk dX11_look_15 rfl ?_
        refine gX_r0_7 hk hin11 (List.mem_cons_of_mem _ (List.mem_append_left _ (List.mem_of_getElem? (i := 0) rfl))) dX11_look_16 ?_
        refine g_iload_n hk dX11_look_19 rfl ?_
        refine g_iload_n hk dX11_look_20 rfl ?_
        refine g_callV (n := 2) hk (m276_X0_openBoth l D zt d q a918 a919) (SP.same _) (fun _ h => h) (gi_V (List.mem_cons_of_mem _ (List.mem_append_left _ (List.mem_of_getElem? (i := 1) rfl))) (List.mem_cons_of_mem _ (List.mem_append_left _ (List.mem_of_getElem? (i := 2) rfl))) (List.mem_cons_of_mem _ (List.mem_append_left _ (List.mem_of_getElem? (i := 3) rfl))) (List.mem_cons_of_mem _ (List.mem_append_left _ (List.mem_of_getElem? (i := 4) rfl))) (gi_sub (fun w h => (List.mem_cons_of_mem _ (List.mem_append_right _ (List.mem_append_right _ (List.mem_append_left _ h))))) zg_m276_X0_openBoth)) rfl rfl rfl (by decide +kernel) ⟨Nat.le_of_ble_eq_true rfl, Nat.le_of_ble_eq_true rfl⟩ 37 rfl rfl rfl rfl (Nat.le_of_ble_eq_true rfl) ⟨Nat.le_of_ble_eq_true rfl, Nat.le_of_ble_eq_true rfl⟩ dX11_look_21 (fun v ty' w' hp hk' => ?_)
        obtain ⟨rfl, rfl⟩ := hp
        show GW κ 6 0 0 (wX q d iX0 aX0) 24 [(0, .ref (q 0)), (1, .int a918), (2, .int a919), (3, .int a920), (4, .int a921)] [.int 0]
        refine g_if_ne (tgt := 29) (a := 0) hk dX11_look_24 (by decide) rfl (fun z9 => absurd z9 (show ¬ ((0 : Int) ≠ (0 : Int)) from by decide)) (fun _ => ?_)
        refine g_iconst (v := (-1)) hk dX11_look_27 (by decide) ?_
        exact g_iret hk hR rfl ⟨rfl, rfl⟩ dX11_look_28
def wo_m280_X11_best : List Cond := [Cond.fieldLink RX11 35 "WarpDesk" "queries" "LWarpDesk$Queries;", Cond.methodLink RX11 251 yX4_has, Cond.instanceMethod yX4_has, Cond.selects RX4 yX4_has yX4_has, Cond.initialized RX4]
def wz_m280_X11_best : List Cond := .code yX11_best cX11_best 3 (some .int) :: (wo_m280_X11_best ++ (wsX110 ++ (wz_m240_X4_has ++ ([] : List Cond))))
theorem zg_m280_X11_best : ∀ w ∈ wz_m280_X11_best, goodWord w = true := zg_cons rfl (zg_app (by decide +kernel) (zg_app zgU_wsX110 (zg_app zg_m240_X4_has zg_nil)))
theorem zi_m280_X11_best : ∀ w ∈ wz_m280_X11_best, w ∈ lw_tbl := zi_cons zw_1116 (zi_app (zi_cons zw_490 (zi_cons zw_1086 (zi_cons zw_747 (zi_cons zw_748 (zi_cons zw_108 zi_nil))))) (zi_app inX11 (zi_app zi_m240_X4_has zi_nil)))
set_option maxHeartbeats 4000000 in
set_option maxRecDepth 100000 in
theorem m280_X11_best (l : Launch) (D : va_G) (zt : Nat × Nat × Nat) (d : Nat → ClassId) (q : Nat → Nat) (a925 : Int32) (a926 : Int32) : GM l D zt (tyX d) yX11_best wz_m280_X11_best ({ frames := 1, cells := 0, slots := 0, locals := 21 } : Room) [.ref (q 0), .int a925, .int a926] (wX q d iX0 aX0) (fun v _ w' => v = some (.int (-1)) ∧ w' = wX q d iX0 aX0) 0 0 := by
  refine GM.of (cc := cX11_best) (maxL := 3) (ret := (some .int)) (own := RX11) (lv := [(0, .ref (q 0)), (1, .int a925), (2, .int a926)]) (by decide) rfl rfl (Nat.le_of_ble_eq_true rfl) rfl (fun κ sz hk hR hN => ?_)
  have hin11 : ∀ w ∈ u_ws RX11 TX11 10, w ∈ wz_m280_X11_best := fun w h => (List.mem_cons_of_mem _ (List.mem_append_right _ (List.mem_append_left _ h)))
  refine g_iload_n hk dX11_best_0 rfl ?_
  refine g_if_lt (tgt := 20) (a := a926.toInt) hk dX11_best_1 (by decide) rfl (fun c927 => ?_) (fun c927 => ?_)
  · skip
    refine g_iconst (v := (-1)) hk dX11_best_20 (by decide) ?_
    exact g_iret hk hR rfl ⟨rfl, rfl⟩ dX11_best_21
  · skip
    refine g_iload_n hk dX11_best_4 rfl ?_
    refine g_iconst (v := 1) hk dX11_best_5 (by decide) ?_
    refine g_icmp_gt (tgt := 20) (a := a926.toInt) (b := 1) hk dX11_best_6 (by decide) rfl rfl (fun c928 => ?_) (fun c928 => ?_)
    · skip
      refine g_iconst (v := (-1)) hk dX11_best_20 (by decide) ?_
      exact g_iret hk hR rfl ⟨rfl, rfl⟩ dX11_best_21
    · skip
      refine g_aload_n hk dX11_best_9 rfl ?_
      refine gX_r0_3 hk hin11 (List.mem_cons_of_mem _ (List.mem_append_left _ (List.mem_of_getElem? (i := 0) rfl))) dX11_best_10 ?_
      refine g_iload_n hk dX11_best_13 rfl ?_
      refine g_callV (n := 1) hk (m240_X4_has l D zt d q a925) (SP.same _) (fun _ h => h) (gi_V (List.mem_cons_of_mem _ (List.mem_append_left _ (List.mem_of_getElem? (i := 1) rfl))) (List.mem_cons_of_mem _ (List.mem_append_left _ (List.mem_of_getElem? (i := 2) rfl))) (List.mem_cons_of_mem _ (List.mem_append_left _ (List.mem_of_getElem? (i := 3) rfl))) (List.mem_cons_of_mem _ (List.mem_append_left _ (List.mem_of_getElem? (i := 4) rfl))) (gi_sub (fun w h => (List.mem_cons_of_mem _ (List.mem_append_right _ (List.mem_append_right _ (List.mem_append_left _ h))))) zg_m240_X4_has)) rfl rfl rfl (by decide +kernel) ⟨Nat.le_of_ble_eq_true rfl, Nat.le_of_ble_eq_true rfl⟩ 15 rfl rfl rfl rfl (Nat.le_of_ble_eq_true rfl) ⟨Nat.le_of_ble_eq_true rfl, Nat.le_of_ble_eq_true rfl⟩ dX11_best_14 (fun v ty' w' hp hk' => ?_)
      obtain ⟨rfl, rfl⟩ := hp
      show GW κ 3 0 0 (wX q d iX0 aX0) 17 [(0, .ref (q 0)), (1, .int a925), (2, .int a926)] [.int 0]
      refine g_if_ne (tgt := 22) (a := 0) hk dX11_best_17 (by decide) rfl (fun z9 => absurd z9 (show ¬ ((0 : Int) ≠ (0 : Int)) from by decide)) (fun _ => ?_)
      refine g_iconst (v := (-1)) hk dX11_best_20 (by decide) ?_
      exact g_iret hk hR rfl ⟨rfl, rfl⟩ dX11_best_21
def wo_m281_X11_search : List Cond := [Cond.fieldLink RX11 35 "WarpDesk" "queries" "LWarpDesk$Queries;", Cond.methodLink RX11 251 yX4_has, Cond.instanceMethod yX4_has, Cond.selects RX4 yX4_has yX4_has, Cond.initialized RX4]
def wz_m281_X11_search : List Cond := .code yX11_search cX11_search 3 (some .int) :: (wo_m281_X11_search ++ (wsX110 ++ (wz_m240_X4_has ++ ([] : List Cond))))
theorem zg_m281_X11_search : ∀ w ∈ wz_m281_X11_search, goodWord w = true := zg_cons rfl (zg_app (by decide +kernel) (zg_app zgU_wsX110 (zg_app zg_m240_X4_has zg_nil)))
theorem zi_m281_X11_search : ∀ w ∈ wz_m281_X11_search, w ∈ lw_tbl := zi_cons zw_1132 (zi_app (zi_cons zw_490 (zi_cons zw_1086 (zi_cons zw_747 (zi_cons zw_748 (zi_cons zw_108 zi_nil))))) (zi_app inX11 (zi_app zi_m240_X4_has zi_nil)))
set_option maxHeartbeats 4000000 in
set_option maxRecDepth 100000 in
theorem m281_X11_search (l : Launch) (D : va_G) (zt : Nat × Nat × Nat) (d : Nat → ClassId) (q : Nat → Nat) (a929 : Int32) (a930 : Int32) : GM l D zt (tyX d) yX11_search wz_m281_X11_search ({ frames := 1, cells := 0, slots := 0, locals := 21 } : Room) [.ref (q 0), .int a929, .int a930] (wX q d iX0 aX0) (fun v _ w' => v = some (.int (-1)) ∧ w' = wX q d iX0 aX0) 0 0 := by
  refine GM.of (cc := cX11_search) (maxL := 3) (ret := (some .int)) (own := RX11) (lv := [(0, .ref (q 0)), (1, .int a929), (2, .int a930)]) (by decide) rfl rfl (Nat.le_of_ble_eq_true rfl) rfl (fun κ sz hk hR hN => ?_)
  have hin11 : ∀ w ∈ u_ws RX11 TX11 10, w ∈ wz_m281_X11_search := fun w h => (List.mem_cons_of_mem _ (List.mem_append_right _ (List.mem_append_left _ h)))
  refine g_iload_n hk dX11_search_0 rfl ?_
  refine g_if_lt (tgt := 21) (a := a930.toInt) hk dX11_search_1 (by decide) rfl (fun c931 => ?_) (fun c931 => ?_)
  · skip
    refine g_iconst (v := (-1)) hk dX11_search_21 (by decide) ?_
    exact g_iret hk hR rfl ⟨rfl, rfl⟩ dX11_search_22
  · skip
    refine g_iload_n hk dX11_search_4 rfl ?_
    refine g_bipush (v := 9) hk dX11_search_5 (by decide) ?_
    refine g_icmp_ge (tgt := 21) (a := a930.toInt) (b := 9) hk dX11_search_7 (by decide) rfl rfl (fun c932 => ?_) (fun c932 => ?_)
    · skip
      refine g_iconst (v := (-1)) hk dX11_search_21 (by decide) ?_
      exact g_iret hk hR rfl ⟨rfl, rfl⟩ dX11_search_22
    · skip
      refine g_aload_n hk dX11_search_10 rfl ?_
      refine gX_r0_3 hk hin11 (List.mem_cons_of_mem _ (List.mem_append_left _ (List.mem_of_getElem? (i := 0) rfl))) dX11_search_11 ?_
      refine g_iload_n hk dX11_search_14 rfl ?_
      refine g_callV (n := 1) hk (m240_X4_has l D zt d q a929) (SP.same _) (fun _ h => h) (gi_V (List.mem_cons_of_mem _ (List.mem_append_left _ (List.mem_of_getElem? (i := 1) rfl))) (List.mem_cons_of_mem _ (List.mem_append_left _ (List.mem_of_getElem? (i := 2) rfl))) (List.mem_cons_of_mem _ (List.mem_append_left _ (List.mem_of_getElem? (i := 3) rfl))) (List.mem_cons_of_mem _ (List.mem_append_left _ (List.mem_of_getElem? (i := 4) rfl))) (gi_sub (fun w h => (List.mem_cons_of_mem _ (List.mem_append_right _ (List.mem_append_right _ (List.mem_append_left _ h))))) zg_m240_X4_has)) rfl rfl rfl (by decide +kernel) ⟨Nat.le_of_ble_eq_true rfl, Nat.le_of_ble_eq_true rfl⟩ 15 rfl rfl rfl rfl (Nat.le_of_ble_eq_true rfl) ⟨Nat.le_of_ble_eq_true rfl, Nat.le_of_ble_eq_true rfl⟩ dX11_search_15 (fun v ty' w' hp hk' => ?_)
      obtain ⟨rfl, rfl⟩ := hp
      show GW κ 3 0 0 (wX q d iX0 aX0) 18 [(0, .ref (q 0)), (1, .int a929), (2, .int a930)] [.int 0]
      refine g_if_ne (tgt := 23) (a := 0) hk dX11_search_18 (by decide) rfl (fun z9 => absurd z9 (show ¬ ((0 : Int) ≠ (0 : Int)) from by decide)) (fun _ => ?_)
      refine g_iconst (v := (-1)) hk dX11_search_21 (by decide) ?_
      exact g_iret hk hR rfl ⟨rfl, rfl⟩ dX11_search_22
def wo_m282_X11_match : List Cond := [Cond.fieldLink RX11 35 "WarpDesk" "queries" "LWarpDesk$Queries;", Cond.methodLink RX11 251 yX4_has, Cond.instanceMethod yX4_has, Cond.selects RX4 yX4_has yX4_has, Cond.initialized RX4]
def wz_m282_X11_match : List Cond := .code yX11_match cX11_match 4 (some .int) :: (wo_m282_X11_match ++ (wsX110 ++ (wz_m240_X4_has ++ ([] : List Cond))))
theorem zg_m282_X11_match : ∀ w ∈ wz_m282_X11_match, goodWord w = true := zg_cons rfl (zg_app (by decide +kernel) (zg_app zgU_wsX110 (zg_app zg_m240_X4_has zg_nil)))
theorem zi_m282_X11_match : ∀ w ∈ wz_m282_X11_match, w ∈ lw_tbl := zi_cons zw_1146 (zi_app (zi_cons zw_490 (zi_cons zw_1086 (zi_cons zw_747 (zi_cons zw_748 (zi_cons zw_108 zi_nil))))) (zi_app inX11 (zi_app zi_m240_X4_has zi_nil)))
set_option maxHeartbeats 4000000 in
set_option maxRecDepth 100000 in
theorem m282_X11_match (l : Launch) (D : va_G) (zt : Nat × Nat × Nat) (d : Nat → ClassId) (q : Nat → Nat) (a933 : Int32) (a934 : Int32) (a935 : Int32) : GM l D zt (tyX d) yX11_match wz_m282_X11_match ({ frames := 1, cells := 0, slots := 0, locals := 21 } : Room) [.ref (q 0), .int a933, .int a934, .int a935] (wX q d iX0 aX0) (fun v _ w' => v = some (.int (-1)) ∧ w' = wX q d iX0 aX0) 0 0 := by
  refine GM.of (cc := cX11_match) (maxL := 4) (ret := (some .int)) (own := RX11) (lv := [(0, .ref (q 0)), (1, .int a933), (2, .int a934), (3, .int a935)]) (by decide) rfl rfl (Nat.le_of_ble_eq_true rfl) rfl (fun κ sz hk hR hN => ?_)
  have hin11 : ∀ w ∈ u_ws RX11 TX11 10, w ∈ wz_m282_X11_match := fun w h => (List.mem_cons_of_mem _ (List.mem_append_right _ (List.mem_append_left _ h)))
  refine g_iload_n hk dX11_match_0 rfl ?_
  refine g_if_lt (tgt := 24) (a := a934.toInt) hk dX11_match_1 (by decide) rfl (fun c936 => ?_) (fun c936 => ?_)
  · skip
    refine g_iconst (v := (-1)) hk dX11_match_24 (by decide) ?_
    exact g_iret hk hR rfl ⟨rfl, rfl⟩ dX11_match_25
  · skip
    refine g_iload_n hk dX11_match_4 rfl ?_
    refine g_if_lt (tgt := 24) (a := a935.toInt) hk dX11_match_5 (by decide) rfl (fun c937 => ?_) (fun c937 => ?_)
    · skip
      refine g_iconst (v := (-1)) hk dX11_match_24 (by decide) ?_
      exact g_iret hk hR rfl ⟨rfl, rfl⟩ dX11_match_25
    · skip
      refine g_iload_n hk dX11_match_8 rfl ?_
      refine g_iconst (v := 1) hk dX11_match_9 (by decide) ?_
      refine g_icmp_gt (tgt := 24) (a := a935.toInt) (b := 1) hk dX11_match_10 (by decide) rfl rfl (fun c938 => ?_) (fun c938 => ?_)
      · skip
        refine g_iconst (v := (-1)) hk dX11_match_24 (by decide) ?_
        exact g_iret hk hR rfl ⟨rfl, rfl⟩ dX11_match_25
      · skip
        refine g_aload_n hk dX11_match_13 rfl ?_
        refine gX_r0_3 hk hin11 (List.mem_cons_of_mem _ (List.mem_append_left _ (List.mem_of_getElem? (i := 0) rfl))) dX11_match_14 ?_
        refine g_iload_n hk dX11_match_17 rfl ?_
        refine g_callV (n := 1) hk (m240_X4_has l D zt d q a933) (SP.same _) (fun _ h => h) (gi_V (List.mem_cons_of_mem _ (List.mem_append_left _ (List.mem_of_getElem? (i := 1) rfl))) (List.mem_cons_of_mem _ (List.mem_append_left _ (List.mem_of_getElem? (i := 2) rfl))) (List.mem_cons_of_mem _ (List.mem_append_left _ (List.mem_of_getElem? (i := 3) rfl))) (List.mem_cons_of_mem _ (List.mem_append_left _ (List.mem_of_getElem? (i := 4) rfl))) (gi_sub (fun w h => (List.mem_cons_of_mem _ (List.mem_append_right _ (List.mem_append_right _ (List.mem_append_left _ h))))) zg_m240_X4_has)) rfl rfl rfl (by decide +kernel) ⟨Nat.le_of_ble_eq_true rfl, Nat.le_of_ble_eq_true rfl⟩ 15 rfl rfl rfl rfl (Nat.le_of_ble_eq_true rfl) ⟨Nat.le_of_ble_eq_true rfl, Nat.le_of_ble_eq_true rfl⟩ dX11_match_18 (fun v ty' w' hp hk' => ?_)
        obtain ⟨rfl, rfl⟩ := hp
        show GW κ 4 0 0 (wX q d iX0 aX0) 21 [(0, .ref (q 0)), (1, .int a933), (2, .int a934), (3, .int a935)] [.int 0]
        refine g_if_ne (tgt := 26) (a := 0) hk dX11_match_21 (by decide) rfl (fun z9 => absurd z9 (show ¬ ((0 : Int) ≠ (0 : Int)) from by decide)) (fun _ => ?_)
        refine g_iconst (v := (-1)) hk dX11_match_24 (by decide) ?_
        exact g_iret hk hR rfl ⟨rfl, rfl⟩ dX11_match_25
def wo_m283_X11_within : List Cond := [Cond.fieldLink RX11 35 "WarpDesk" "queries" "LWarpDesk$Queries;", Cond.methodLink RX11 251 yX4_has, Cond.instanceMethod yX4_has, Cond.selects RX4 yX4_has yX4_has, Cond.initialized RX4]
def wz_m283_X11_within : List Cond := .code yX11_within cX11_within 3 (some .int) :: (wo_m283_X11_within ++ (wsX110 ++ (wz_m240_X4_has ++ ([] : List Cond))))
theorem zg_m283_X11_within : ∀ w ∈ wz_m283_X11_within, goodWord w = true := zg_cons rfl (zg_app (by decide +kernel) (zg_app zgU_wsX110 (zg_app zg_m240_X4_has zg_nil)))
theorem zi_m283_X11_within : ∀ w ∈ wz_m283_X11_within, w ∈ lw_tbl := zi_cons zw_1175 (zi_app (zi_cons zw_490 (zi_cons zw_1086 (zi_cons zw_747 (zi_cons zw_748 (zi_cons zw_108 zi_nil))))) (zi_app inX11 (zi_app zi_m240_X4_has zi_nil)))
set_option maxHeartbeats 4000000 in
set_option maxRecDepth 100000 in
theorem m283_X11_within (l : Launch) (D : va_G) (zt : Nat × Nat × Nat) (d : Nat → ClassId) (q : Nat → Nat) (a939 : Int32) (a940 : Int32) : GM l D zt (tyX d) yX11_within wz_m283_X11_within ({ frames := 1, cells := 0, slots := 0, locals := 21 } : Room) [.ref (q 0), .int a939, .int a940] (wX q d iX0 aX0) (fun v _ w' => v = some (.int (-1)) ∧ w' = wX q d iX0 aX0) 0 0 := by
  refine GM.of (cc := cX11_within) (maxL := 3) (ret := (some .int)) (own := RX11) (lv := [(0, .ref (q 0)), (1, .int a939), (2, .int a940)]) (by decide) rfl rfl (Nat.le_of_ble_eq_true rfl) rfl (fun κ sz hk hR hN => ?_)
  have hin11 : ∀ w ∈ u_ws RX11 TX11 10, w ∈ wz_m283_X11_within := fun w h => (List.mem_cons_of_mem _ (List.mem_append_right _ (List.mem_append_left _ h)))
  refine g_iload_n hk dX11_within_0 rfl ?_
  refine g_if_lt (tgt := 15) (a := a940.toInt) hk dX11_within_1 (by decide) rfl (fun c941 => ?_) (fun c941 => ?_)
  · skip
    refine g_iconst (v := (-1)) hk dX11_within_15 (by decide) ?_
    exact g_iret hk hR rfl ⟨rfl, rfl⟩ dX11_within_16
  · skip
    refine g_aload_n hk dX11_within_4 rfl ?_
    refine gX_r0_3 hk hin11 (List.mem_cons_of_mem _ (List.mem_append_left _ (List.mem_of_getElem? (i := 0) rfl))) dX11_within_5 ?_
    refine g_iload_n hk dX11_within_8 rfl ?_
    refine g_callV (n := 1) hk (m240_X4_has l D zt d q a939) (SP.same _) (fun _ h => h) (gi_V (List.mem_cons_of_mem _ (List.mem_append_left _ (List.mem_of_getElem? (i := 1) rfl))) (List.mem_cons_of_mem _ (List.mem_append_left _ (List.mem_of_getElem? (i := 2) rfl))) (List.mem_cons_of_mem _ (List.mem_append_left _ (List.mem_of_getElem? (i := 3) rfl))) (List.mem_cons_of_mem _ (List.mem_append_left _ (List.mem_of_getElem? (i := 4) rfl))) (gi_sub (fun w h => (List.mem_cons_of_mem _ (List.mem_append_right _ (List.mem_append_right _ (List.mem_append_left _ h))))) zg_m240_X4_has)) rfl rfl rfl (by decide +kernel) ⟨Nat.le_of_ble_eq_true rfl, Nat.le_of_ble_eq_true rfl⟩ 15 rfl rfl rfl rfl (Nat.le_of_ble_eq_true rfl) ⟨Nat.le_of_ble_eq_true rfl, Nat.le_of_ble_eq_true rfl⟩ dX11_within_9 (fun v ty' w' hp hk' => ?_)
    obtain ⟨rfl, rfl⟩ := hp
    show GW κ 3 0 0 (wX q d iX0 aX0) 12 [(0, .ref (q 0)), (1, .int a939), (2, .int a940)] [.int 0]
    refine g_if_ne (tgt := 17) (a := 0) hk dX11_within_12 (by decide) rfl (fun z9 => absurd z9 (show ¬ ((0 : Int) ≠ (0 : Int)) from by decide)) (fun _ => ?_)
    refine g_iconst (v := (-1)) hk dX11_within_15 (by decide) ?_
    exact g_iret hk hR rfl ⟨rfl, rfl⟩ dX11_within_16
def wo_m284_X11_way : List Cond := [Cond.fieldLink RX11 65 "WarpDesk" "bench" "LWarpDesk$Bench;", Cond.methodLink RX11 212 yX0_openBoth, Cond.instanceMethod yX0_openBoth, Cond.selects RX0 yX0_openBoth yX0_openBoth, Cond.initialized RX0]
def wz_m284_X11_way : List Cond := .code yX11_way cX11_way 4 (some .int) :: (wo_m284_X11_way ++ (wsX110 ++ (wz_m276_X0_openBoth ++ ([] : List Cond))))
theorem zg_m284_X11_way : ∀ w ∈ wz_m284_X11_way, goodWord w = true := zg_cons rfl (zg_app (by decide +kernel) (zg_app zgU_wsX110 (zg_app zg_m276_X0_openBoth zg_nil)))
theorem zi_m284_X11_way : ∀ w ∈ wz_m284_X11_way, w ∈ lw_tbl := zi_cons zw_1053 (zi_app (zi_cons zw_494 (zi_cons zw_969 (zi_cons zw_970 (zi_cons zw_971 (zi_cons zw_111 zi_nil))))) (zi_app inX11 (zi_app zi_m276_X0_openBoth zi_nil)))
set_option maxHeartbeats 4000000 in
set_option maxRecDepth 100000 in
theorem m284_X11_way (l : Launch) (D : va_G) (zt : Nat × Nat × Nat) (d : Nat → ClassId) (q : Nat → Nat) (a942 : Int32) (a943 : Int32) (a944 : Int32) : GM l D zt (tyX d) yX11_way wz_m284_X11_way ({ frames := 3, cells := 0, slots := 0, locals := 65 } : Room) [.ref (q 0), .int a942, .int a943, .int a944] (wX q d iX0 aX0) (fun v _ w' => v = some (.int (-1)) ∧ w' = wX q d iX0 aX0) 0 0 := by
  refine GM.of (cc := cX11_way) (maxL := 4) (ret := (some .int)) (own := RX11) (lv := [(0, .ref (q 0)), (1, .int a942), (2, .int a943), (3, .int a944)]) (by decide) rfl rfl (Nat.le_of_ble_eq_true rfl) rfl (fun κ sz hk hR hN => ?_)
  have hin11 : ∀ w ∈ u_ws RX11 TX11 10, w ∈ wz_m284_X11_way := fun w h => (List.mem_cons_of_mem _ (List.mem_append_right _ (List.mem_append_left _ h)))
  refine g_aload_n hk dX11_way_0 rfl ?_
  refine gX_r0_7 hk hin11 (List.mem_cons_of_mem _ (List.mem_append_left _ (List.mem_of_getElem? (i := 0) rfl))) dX11_way_1 ?_
  refine g_iload_n hk dX11_way_4 rfl ?_
  refine g_iload_n hk dX11_way_5 rfl ?_
  refine g_callV (n := 2) hk (m276_X0_openBoth l D zt d q a942 a943) (SP.same _) (fun _ h => h) (gi_V (List.mem_cons_of_mem _ (List.mem_append_left _ (List.mem_of_getElem? (i := 1) rfl))) (List.mem_cons_of_mem _ (List.mem_append_left _ (List.mem_of_getElem? (i := 2) rfl))) (List.mem_cons_of_mem _ (List.mem_append_left _ (List.mem_of_getElem? (i := 3) rfl))) (List.mem_cons_of_mem _ (List.mem_append_left _ (List.mem_of_getElem? (i := 4) rfl))) (gi_sub (fun w h => (List.mem_cons_of_mem _ (List.mem_append_right _ (List.mem_append_right _ (List.mem_append_left _ h))))) zg_m276_X0_openBoth)) rfl rfl rfl (by decide +kernel) ⟨Nat.le_of_ble_eq_true rfl, Nat.le_of_ble_eq_true rfl⟩ 37 rfl rfl rfl rfl (Nat.le_of_ble_eq_true rfl) ⟨Nat.le_of_ble_eq_true rfl, Nat.le_of_ble_eq_true rfl⟩ dX11_way_6 (fun v ty' w' hp hk' => ?_)
  obtain ⟨rfl, rfl⟩ := hp
  show GW κ 4 0 0 (wX q d iX0 aX0) 9 [(0, .ref (q 0)), (1, .int a942), (2, .int a943), (3, .int a944)] [.int 0]
  refine g_if_ne (tgt := 14) (a := 0) hk dX11_way_9 (by decide) rfl (fun z9 => absurd z9 (show ¬ ((0 : Int) ≠ (0 : Int)) from by decide)) (fun _ => ?_)
  refine g_iconst (v := (-1)) hk dX11_way_12 (by decide) ?_
  exact g_iret hk hR rfl ⟨rfl, rfl⟩ dX11_way_13
def wo_m285_X11_needs : List Cond := [Cond.fieldLink RX11 65 "WarpDesk" "bench" "LWarpDesk$Bench;", Cond.methodLink RX11 299 yX0_hasBoth, Cond.instanceMethod yX0_hasBoth, Cond.selects RX0 yX0_hasBoth yX0_hasBoth, Cond.initialized RX0]
def wz_m285_X11_needs : List Cond := .code yX11_needs cX11_needs 3 (some .int) :: (wo_m285_X11_needs ++ (wsX110 ++ (wz_m277_X0_hasBoth ++ ([] : List Cond))))
theorem zg_m285_X11_needs : ∀ w ∈ wz_m285_X11_needs, goodWord w = true := zg_cons rfl (zg_app (by decide +kernel) (zg_app zgU_wsX110 (zg_app zg_m277_X0_hasBoth zg_nil)))
theorem zi_m285_X11_needs : ∀ w ∈ wz_m285_X11_needs, w ∈ lw_tbl := zi_cons zw_1197 (zi_app (zi_cons zw_494 (zi_cons zw_1198 (zi_cons zw_974 (zi_cons zw_975 (zi_cons zw_111 zi_nil))))) (zi_app inX11 (zi_app zi_m277_X0_hasBoth zi_nil)))
set_option maxHeartbeats 4000000 in
set_option maxRecDepth 100000 in
theorem m285_X11_needs (l : Launch) (D : va_G) (zt : Nat × Nat × Nat) (d : Nat → ClassId) (q : Nat → Nat) (a945 : Int32) (a946 : Int32) : GM l D zt (tyX d) yX11_needs wz_m285_X11_needs ({ frames := 2, cells := 0, slots := 0, locals := 43 } : Room) [.ref (q 0), .int a945, .int a946] (wX q d iX0 aX0) (fun v _ w' => v = some (.int (-1)) ∧ w' = wX q d iX0 aX0) 0 0 := by
  refine GM.of (cc := cX11_needs) (maxL := 3) (ret := (some .int)) (own := RX11) (lv := [(0, .ref (q 0)), (1, .int a945), (2, .int a946)]) (by decide) rfl rfl (Nat.le_of_ble_eq_true rfl) rfl (fun κ sz hk hR hN => ?_)
  have hin11 : ∀ w ∈ u_ws RX11 TX11 10, w ∈ wz_m285_X11_needs := fun w h => (List.mem_cons_of_mem _ (List.mem_append_right _ (List.mem_append_left _ h)))
  refine g_aload_n hk dX11_needs_0 rfl ?_
  refine gX_r0_7 hk hin11 (List.mem_cons_of_mem _ (List.mem_append_left _ (List.mem_of_getElem? (i := 0) rfl))) dX11_needs_1 ?_
  refine g_iload_n hk dX11_needs_4 rfl ?_
  refine g_iload_n hk dX11_needs_5 rfl ?_
  refine g_callV (n := 2) hk (m277_X0_hasBoth l D zt d q a945 a946) (SP.same _) (fun _ h => h) (gi_V (List.mem_cons_of_mem _ (List.mem_append_left _ (List.mem_of_getElem? (i := 1) rfl))) (List.mem_cons_of_mem _ (List.mem_append_left _ (List.mem_of_getElem? (i := 2) rfl))) (List.mem_cons_of_mem _ (List.mem_append_left _ (List.mem_of_getElem? (i := 3) rfl))) (List.mem_cons_of_mem _ (List.mem_append_left _ (List.mem_of_getElem? (i := 4) rfl))) (gi_sub (fun w h => (List.mem_cons_of_mem _ (List.mem_append_right _ (List.mem_append_right _ (List.mem_append_left _ h))))) zg_m277_X0_hasBoth)) rfl rfl rfl (by decide +kernel) ⟨Nat.le_of_ble_eq_true rfl, Nat.le_of_ble_eq_true rfl⟩ 37 rfl rfl rfl rfl (Nat.le_of_ble_eq_true rfl) ⟨Nat.le_of_ble_eq_true rfl, Nat.le_of_ble_eq_true rfl⟩ dX11_needs_6 (fun v ty' w' hp hk' => ?_)
  obtain ⟨rfl, rfl⟩ := hp
  show GW κ 3 0 0 (wX q d iX0 aX0) 9 [(0, .ref (q 0)), (1, .int a945), (2, .int a946)] [.int 0]
  refine g_if_eq (tgt := 24) (a := 0) hk dX11_needs_9 (by decide) rfl (fun _ => ?_) (fun z9 => absurd (show (0 : Int) = (0 : Int) from by decide) z9)
  refine g_iconst (v := (-1)) hk dX11_needs_24 (by decide) ?_
  exact g_iret hk hR rfl ⟨rfl, rfl⟩ dX11_needs_25
def wo_m286_X11_alike : List Cond := [Cond.fieldLink RX11 35 "WarpDesk" "queries" "LWarpDesk$Queries;", Cond.methodLink RX11 251 yX4_has, Cond.instanceMethod yX4_has, Cond.selects RX4 yX4_has yX4_has, Cond.initialized RX4]
def wz_m286_X11_alike : List Cond := .code yX11_alike cX11_alike 3 (some .int) :: (wo_m286_X11_alike ++ (wsX110 ++ (wz_m240_X4_has ++ ([] : List Cond))))
theorem zg_m286_X11_alike : ∀ w ∈ wz_m286_X11_alike, goodWord w = true := zg_cons rfl (zg_app (by decide +kernel) (zg_app zgU_wsX110 (zg_app zg_m240_X4_has zg_nil)))
theorem zi_m286_X11_alike : ∀ w ∈ wz_m286_X11_alike, w ∈ lw_tbl := zi_cons zw_1085 (zi_app (zi_cons zw_490 (zi_cons zw_1086 (zi_cons zw_747 (zi_cons zw_748 (zi_cons zw_108 zi_nil))))) (zi_app inX11 (zi_app zi_m240_X4_has zi_nil)))
set_option maxHeartbeats 4000000 in
set_option maxRecDepth 100000 in
theorem m286_X11_alike (l : Launch) (D : va_G) (zt : Nat × Nat × Nat) (d : Nat → ClassId) (q : Nat → Nat) (a947 : Int32) (a948 : Int32) : GM l D zt (tyX d) yX11_alike wz_m286_X11_alike ({ frames := 1, cells := 0, slots := 0, locals := 21 } : Room) [.ref (q 0), .int a947, .int a948] (wX q d iX0 aX0) (fun v _ w' => v = some (.int (-1)) ∧ w' = wX q d iX0 aX0) 0 0 := by
  refine GM.of (cc := cX11_alike) (maxL := 3) (ret := (some .int)) (own := RX11) (lv := [(0, .ref (q 0)), (1, .int a947), (2, .int a948)]) (by decide) rfl rfl (Nat.le_of_ble_eq_true rfl) rfl (fun κ sz hk hR hN => ?_)
  have hin11 : ∀ w ∈ u_ws RX11 TX11 10, w ∈ wz_m286_X11_alike := fun w h => (List.mem_cons_of_mem _ (List.mem_append_right _ (List.mem_append_left _ h)))
  refine g_aload_n hk dX11_alike_0 rfl ?_
  refine gX_r0_3 hk hin11 (List.mem_cons_of_mem _ (List.mem_append_left _ (List.mem_of_getElem? (i := 0) rfl))) dX11_alike_1 ?_
  refine g_iload_n hk dX11_alike_4 rfl ?_
  refine g_callV (n := 1) hk (m240_X4_has l D zt d q a947) (SP.same _) (fun _ h => h) (gi_V (List.mem_cons_of_mem _ (List.mem_append_left _ (List.mem_of_getElem? (i := 1) rfl))) (List.mem_cons_of_mem _ (List.mem_append_left _ (List.mem_of_getElem? (i := 2) rfl))) (List.mem_cons_of_mem _ (List.mem_append_left _ (List.mem_of_getElem? (i := 3) rfl))) (List.mem_cons_of_mem _ (List.mem_append_left _ (List.mem_of_getElem? (i := 4) rfl))) (gi_sub (fun w h => (List.mem_cons_of_mem _ (List.mem_append_right _ (List.mem_append_right _ (List.mem_append_left _ h))))) zg_m240_X4_has)) rfl rfl rfl (by decide +kernel) ⟨Nat.le_of_ble_eq_true rfl, Nat.le_of_ble_eq_true rfl⟩ 15 rfl rfl rfl rfl (Nat.le_of_ble_eq_true rfl) ⟨Nat.le_of_ble_eq_true rfl, Nat.le_of_ble_eq_true rfl⟩ dX11_alike_5 (fun v ty' w' hp hk' => ?_)
  obtain ⟨rfl, rfl⟩ := hp
  show GW κ 3 0 0 (wX q d iX0 aX0) 8 [(0, .ref (q 0)), (1, .int a947), (2, .int a948)] [.int 0]
  refine g_if_eq (tgt := 22) (a := 0) hk dX11_alike_8 (by decide) rfl (fun _ => ?_) (fun z9 => absurd (show (0 : Int) = (0 : Int) from by decide) z9)
  refine g_iconst (v := (-1)) hk dX11_alike_22 (by decide) ?_
  exact g_iret hk hR rfl ⟨rfl, rfl⟩ dX11_alike_23
def wo_m287_X11_near : List Cond := [Cond.methodLink RX11 196 yX11_isStretch, Cond.static yX11_isStretch, Cond.initialized RX11, Cond.fieldLink RX11 28 "WarpDesk" "series" "LWarpDesk$Series;", Cond.methodLink RX11 183 yX6_hasWindow, Cond.instanceMethod yX6_hasWindow, Cond.selects RX6 yX6_hasWindow yX6_hasWindow, Cond.initialized RX6]
def wz_m287_X11_near : List Cond := .code yX11_near cX11_near 4 (some .int) :: (wo_m287_X11_near ++ (wsX110 ++ (wz_m273_X11_isStretch ++ (wz_m274_X6_hasWindow ++ ([] : List Cond)))))
theorem zg_m287_X11_near : ∀ w ∈ wz_m287_X11_near, goodWord w = true := zg_cons rfl (zg_app (by decide +kernel) (zg_app zgU_wsX110 (zg_app zg_m273_X11_isStretch (zg_app zg_m274_X6_hasWindow zg_nil))))
theorem zi_m287_X11_near : ∀ w ∈ wz_m287_X11_near, w ∈ lw_tbl := zi_cons zw_1250 (zi_app (zi_cons zw_926 (zi_cons zw_927 (zi_cons zw_103 (zi_cons zw_489 (zi_cons zw_901 (zi_cons zw_902 (zi_cons zw_903 (zi_cons zw_109 zi_nil)))))))) (zi_app inX11 (zi_app zi_m273_X11_isStretch (zi_app zi_m274_X6_hasWindow zi_nil))))
set_option maxHeartbeats 4000000 in
set_option maxRecDepth 100000 in
theorem m287_X11_near (l : Launch) (D : va_G) (zt : Nat × Nat × Nat) (d : Nat → ClassId) (q : Nat → Nat) (a949 : Int32) (a950 : Int32) (a951 : Int32) : GM l D zt (tyX d) yX11_near wz_m287_X11_near ({ frames := 1, cells := 0, slots := 0, locals := 23 } : Room) [.ref (q 0), .int a949, .int a950, .int a951] (wX q d iX0 aX0) (fun v _ w' => v = some (.int (-1)) ∧ w' = wX q d iX0 aX0) 0 0 := by
  refine GM.of (cc := cX11_near) (maxL := 4) (ret := (some .int)) (own := RX11) (lv := [(0, .ref (q 0)), (1, .int a949), (2, .int a950), (3, .int a951)]) (by decide) rfl rfl (Nat.le_of_ble_eq_true rfl) rfl (fun κ sz hk hR hN => ?_)
  have hin11 : ∀ w ∈ u_ws RX11 TX11 10, w ∈ wz_m287_X11_near := fun w h => (List.mem_cons_of_mem _ (List.mem_append_right _ (List.mem_append_left _ h)))
  refine g_iload_n hk dX11_near_0 rfl ?_
  refine g_callS (n := 1) hk (m273_X11_isStretch l D zt d q a950) (SP.same _) (fun _ h => h) (gi_S (List.mem_cons_of_mem _ (List.mem_append_left _ (List.mem_of_getElem? (i := 0) rfl))) (List.mem_cons_of_mem _ (List.mem_append_left _ (List.mem_of_getElem? (i := 1) rfl))) (List.mem_cons_of_mem _ (List.mem_append_left _ (List.mem_of_getElem? (i := 2) rfl))) (gi_sub (fun w h => (List.mem_cons_of_mem _ (List.mem_append_right _ (List.mem_append_right _ (List.mem_append_left _ h))))) zg_m273_X11_isStretch)) rfl rfl rfl (by decide +kernel) ⟨Nat.le_of_ble_eq_true rfl, Nat.le_of_ble_eq_true rfl⟩ rfl rfl (Nat.le_of_ble_eq_true rfl) ⟨Nat.le_of_ble_eq_true rfl, Nat.le_of_ble_eq_true rfl⟩ dX11_near_1 (fun v ty' w' hp hk' => ?_)
  rcases hp with ⟨c952, rfl, rfl⟩ | ⟨c953, c954, rfl, rfl⟩ | ⟨c955, c956, rfl, rfl⟩
  · show GW κ 4 0 0 (wX q d iX0 aX0) 4 [(0, .ref (q 0)), (1, .int a949), (2, .int a950), (3, .int a951)] [.int 0]
    refine g_if_eq (tgt := 28) (a := 0) hk dX11_near_4 (by decide) rfl (fun _ => ?_) (fun z9 => absurd (show (0 : Int) = (0 : Int) from by decide) z9)
    refine g_iconst (v := (-1)) hk dX11_near_28 (by decide) ?_
    exact g_iret hk hR rfl ⟨rfl, rfl⟩ dX11_near_29
  · show GW κ 4 0 0 (wX q d iX0 aX0) 4 [(0, .ref (q 0)), (1, .int a949), (2, .int a950), (3, .int a951)] [.int 0]
    refine g_if_eq (tgt := 28) (a := 0) hk dX11_near_4 (by decide) rfl (fun _ => ?_) (fun z9 => absurd (show (0 : Int) = (0 : Int) from by decide) z9)
    refine g_iconst (v := (-1)) hk dX11_near_28 (by decide) ?_
    exact g_iret hk hR rfl ⟨rfl, rfl⟩ dX11_near_29
  · show GW κ 4 0 0 (wX q d iX0 aX0) 4 [(0, .ref (q 0)), (1, .int a949), (2, .int a950), (3, .int a951)] [.int 1]
    refine g_if_eq (tgt := 28) (a := 1) hk dX11_near_4 (by decide) rfl (fun z9 => absurd z9 (show ¬ ((1 : Int) = (0 : Int)) from by decide)) (fun _ => ?_)
    refine g_iload_n hk dX11_near_7 rfl ?_
    refine g_if_lt (tgt := 28) (a := a951.toInt) hk dX11_near_8 (by decide) rfl (fun c957 => ?_) (fun c957 => ?_)
    · skip
      refine g_iconst (v := (-1)) hk dX11_near_28 (by decide) ?_
      exact g_iret hk hR rfl ⟨rfl, rfl⟩ dX11_near_29
    · skip
      refine g_iload_n hk dX11_near_11 rfl ?_
      refine g_iconst (v := 1) hk dX11_near_12 (by decide) ?_
      refine g_icmp_gt (tgt := 28) (a := a951.toInt) (b := 1) hk dX11_near_13 (by decide) rfl rfl (fun c958 => ?_) (fun c958 => ?_)
      · skip
        refine g_iconst (v := (-1)) hk dX11_near_28 (by decide) ?_
        exact g_iret hk hR rfl ⟨rfl, rfl⟩ dX11_near_29
      · skip
        refine g_aload_n hk dX11_near_16 rfl ?_
        refine gX_r0_2 hk hin11 (List.mem_cons_of_mem _ (List.mem_append_left _ (List.mem_of_getElem? (i := 3) rfl))) dX11_near_17 ?_
        refine g_iload_n hk dX11_near_20 rfl ?_
        refine g_iload_n hk dX11_near_21 rfl ?_
        refine g_callV (n := 2) hk (m274_X6_hasWindow l D zt d q a949 a950 (by omega) (by omega)) (SP.same _) (fun _ h => h) (gi_V (List.mem_cons_of_mem _ (List.mem_append_left _ (List.mem_of_getElem? (i := 4) rfl))) (List.mem_cons_of_mem _ (List.mem_append_left _ (List.mem_of_getElem? (i := 5) rfl))) (List.mem_cons_of_mem _ (List.mem_append_left _ (List.mem_of_getElem? (i := 6) rfl))) (List.mem_cons_of_mem _ (List.mem_append_left _ (List.mem_of_getElem? (i := 7) rfl))) (gi_sub (fun w h => (List.mem_cons_of_mem _ (List.mem_append_right _ (List.mem_append_right _ (List.mem_append_right _ (List.mem_append_left _ h)))))) zg_m274_X6_hasWindow)) rfl rfl rfl (by decide +kernel) ⟨Nat.le_of_ble_eq_true rfl, Nat.le_of_ble_eq_true rfl⟩ 13 rfl rfl rfl rfl (Nat.le_of_ble_eq_true rfl) ⟨Nat.le_of_ble_eq_true rfl, Nat.le_of_ble_eq_true rfl⟩ dX11_near_22 (fun v ty' w' hp hk' => ?_)
        obtain ⟨rfl, rfl⟩ := hp
        show GW κ 4 0 0 (wX q d iX0 aX0) 25 [(0, .ref (q 0)), (1, .int a949), (2, .int a950), (3, .int a951)] [.int 0]
        refine g_if_ne (tgt := 30) (a := 0) hk dX11_near_25 (by decide) rfl (fun z9 => absurd z9 (show ¬ ((0 : Int) ≠ (0 : Int)) from by decide)) (fun _ => ?_)
        refine g_iconst (v := (-1)) hk dX11_near_28 (by decide) ?_
        exact g_iret hk hR rfl ⟨rfl, rfl⟩ dX11_near_29
def wo_m291_X6_hasWindow : List Cond := [Cond.fieldLink RX6 19 "WarpDesk$Series" "size" "I"]
def wz_m291_X6_hasWindow : List Cond := .code yX6_hasWindow cX6_hasWindow 4 (some .boolean) :: (wo_m291_X6_hasWindow ++ (wsX60 ++ ([] : List Cond)))
theorem zg_m291_X6_hasWindow : ∀ w ∈ wz_m291_X6_hasWindow, goodWord w = true := zg_cons rfl (zg_app (by decide +kernel) (zg_app zgU_wsX60 zg_nil))
theorem zi_m291_X6_hasWindow : ∀ w ∈ wz_m291_X6_hasWindow, w ∈ lw_tbl := zi_cons zw_904 (zi_app (zi_cons zw_282 zi_nil) (zi_app inX6 zi_nil))
set_option maxHeartbeats 4000000 in
set_option maxRecDepth 100000 in
theorem m291_X6_hasWindow (l : Launch) (D : va_G) (zt : Nat × Nat × Nat) (d : Nat → ClassId) (q : Nat → Nat) (a974 : Int32) (a975 : Int32) (h0 : 0 ≤ a974.toInt) (h1 : a974.toInt ≤ 159) (h2 : 2 ≤ a975.toInt) (h3 : a975.toInt ≤ 16) : GM l D zt (tyX d) yX6_hasWindow wz_m291_X6_hasWindow ({ frames := 0, cells := 0, slots := 0, locals := 0 } : Room) [.ref (q 13), .int a974, .int a975] (wX q d (upd (upd (upd iX0 40 (-2)) 41 (-2)) 42 (-2)) aX0) (fun v _ w' => v = some (.int 0) ∧ w' = wX q d (upd (upd (upd iX0 40 (-2)) 41 (-2)) 42 (-2)) aX0) 0 0 := by
  refine GM.of (cc := cX6_hasWindow) (maxL := 4) (ret := (some .boolean)) (own := RX6) (lv := [(0, .ref (q 13)), (1, .int a974), (2, .int a975)]) (by decide) rfl rfl (Nat.le_of_ble_eq_true rfl) rfl (fun κ sz hk hR hN => ?_)
  have hin6 : ∀ w ∈ u_ws RX6 TX6 3, w ∈ wz_m291_X6_hasWindow := fun w h => (List.mem_cons_of_mem _ (List.mem_append_right _ (List.mem_append_left _ h)))
  refine g_iload_n hk dX6_hasWindow_0 rfl ?_
  refine g_if_lt (tgt := 27) (a := a974.toInt) hk dX6_hasWindow_1 (by decide) rfl (fun z9 => absurd z9 (show ¬ (a974.toInt < 0) from by omega)) (fun _ => ?_)
  refine g_iload_n hk dX6_hasWindow_4 rfl ?_
  refine g_aload_n hk dX6_hasWindow_5 rfl ?_
  refine gX_i18 (v := 0) hk hin6 (List.mem_cons_of_mem _ (List.mem_append_left _ (List.mem_of_getElem? (i := 0) rfl))) dX6_hasWindow_6 rfl ?_
  refine g_icmp_ge (tgt := 27) (a := a974.toInt) (b := 0) hk dX6_hasWindow_9 (by decide) rfl rfl (fun _ => ?_) (fun z9 => absurd (show 0 ≤ a974.toInt from by omega) z9)
  refine g_iconst (v := 0) hk dX6_hasWindow_27 (by decide) ?_
  exact g_iret hk hR rfl ⟨rfl, rfl⟩ dX6_hasWindow_28
def wo_m290_X9_bringAll : List Cond := [Cond.fieldLink RX9 15 "WarpDesk$Stretches" "isThere" "[Z", Cond.fieldLink RX9 19 "WarpDesk$Stretches" "bench" "LWarpDesk$Bench;", Cond.fieldLink RX9 30 "WarpDesk$Bench" "series" "LWarpDesk$Series;", Cond.methodLink RX9 34 yX6_hasWindow, Cond.instanceMethod yX6_hasWindow, Cond.selects RX6 yX6_hasWindow yX6_hasWindow, Cond.initialized RX6]
def wz_m290_X9_bringAll : List Cond := .code yX9_bringAll cX9_bringAll 3 none :: (wo_m290_X9_bringAll ++ (wsX00 ++ (wsX90 ++ (wz_m291_X6_hasWindow ++ ([] : List Cond)))))
theorem zg_m290_X9_bringAll : ∀ w ∈ wz_m290_X9_bringAll, goodWord w = true := zg_cons rfl (zg_app (by decide +kernel) (zg_app zgU_wsX00 (zg_app zgU_wsX90 (zg_app zg_m291_X6_hasWindow zg_nil))))
theorem zi_m290_X9_bringAll : ∀ w ∈ wz_m290_X9_bringAll, w ∈ lw_tbl := zi_cons zw_1258 (zi_app (zi_cons zw_449 (zi_cons zw_446 (zi_cons zw_375 (zi_cons zw_1259 (zi_cons zw_902 (zi_cons zw_903 (zi_cons zw_109 zi_nil))))))) (zi_app inX0 (zi_app inX9 (zi_app zi_m291_X6_hasWindow zi_nil))))
set_option maxHeartbeats 4000000 in
set_option maxRecDepth 100000 in
theorem m290_X9_bringAll (l : Launch) (D : va_G) (zt : Nat × Nat × Nat) (d : Nat → ClassId) (q : Nat → Nat) (a969 : Int32) (h0 : 2 ≤ a969.toInt) (h1 : a969.toInt ≤ 16) : GM l D zt (tyX d) yX9_bringAll wz_m290_X9_bringAll ({ frames := 1, cells := 0, slots := 0, locals := 23 } : Room) [.ref (q 49), .int a969] (wX q d (upd (upd (upd iX0 40 (-2)) 41 (-2)) 42 (-2)) aX0) (fun v _ w' => v = none ∧ w' = wX q d (upd (upd (upd iX0 40 (-2)) 41 (-2)) 42 (-2)) aX0) 0 0 := by
  refine GM.of (cc := cX9_bringAll) (maxL := 3) (ret := none) (own := RX9) (lv := [(0, .ref (q 49)), (1, .int a969)]) (by decide) rfl rfl (Nat.le_of_ble_eq_true rfl) rfl (fun κ sz hk hR hN => ?_)
  have hin0 : ∀ w ∈ u_ws RX0 TX0 5, w ∈ wz_m290_X9_bringAll := fun w h => (List.mem_cons_of_mem _ (List.mem_append_right _ (List.mem_append_left _ h)))
  have hin9 : ∀ w ∈ u_ws RX9 TX9 11, w ∈ wz_m290_X9_bringAll := fun w h => (List.mem_cons_of_mem _ (List.mem_append_right _ (List.mem_append_right _ (List.mem_append_left _ h))))
  refine g_iconst (v := 0) hk dX9_bringAll_0 (by decide) ?_
  refine g_istore_n (lv' := [(2, .int 0), (0, .ref (q 49)), (1, .int a969)]) hk dX9_bringAll_1 (by decide) rfl ?_
  have lp970 : ∀ (n972 k971 : Nat), k971 + n972 = 160 → GW κ 3 0 0 (wX q d (upd (upd (upd iX0 40 (-2)) 41 (-2)) 42 (-2)) aX0) 2 [(2, .int (nI k971)), (0, .ref (q 49)), (1, .int a969)] [] := by
    intro n972
    induction n972 with
    | zero =>
      intro k971 hk971
      obtain rfl : k971 = 160 := by omega
      show GW κ 3 0 0 (wX q d (upd (upd (upd iX0 40 (-2)) 41 (-2)) 42 (-2)) aX0) 2 [(2, .int 160), (0, .ref (q 49)), (1, .int a969)] []
      refine g_iload_n hk dX9_bringAll_2 rfl ?_
      refine g_sipush (v := 160) hk dX9_bringAll_3 (by decide) ?_
      refine g_icmp_ge (tgt := 66) (a := 160) (b := 160) hk dX9_bringAll_6 (by decide) rfl rfl (fun _ => ?_) (fun z9 => absurd (show (160 : Int) ≤ (160 : Int) from by decide) z9)
      exact g_vret hk hR ⟨rfl, rfl⟩ dX9_bringAll_66
    | succ n972 ih =>
      intro k971 hk971
      obtain ⟨x973, ex973⟩ : ∃ x : Int32, x = nI k971 := ⟨_, rfl⟩
      have hx973 : x973.toInt = (k971 : Int) := by rw [ex973]; exact nI_toInt (by omega)
      rw [← ex973]
      refine g_iload_n hk dX9_bringAll_2 rfl ?_
      refine g_sipush (v := 160) hk dX9_bringAll_3 (by decide) ?_
      refine g_icmp_ge (tgt := 66) (a := x973.toInt) (b := 160) hk dX9_bringAll_6 (by decide) rfl rfl (fun z9 => absurd z9 (show ¬ (160 ≤ x973.toInt) from by omega)) (fun _ => ?_)
      refine g_aload_n hk dX9_bringAll_9 rfl ?_
      refine gX_r49_3 hk hin9 (List.mem_cons_of_mem _ (List.mem_append_left _ (List.mem_of_getElem? (i := 0) rfl))) dX9_bringAll_10 ?_
      refine g_iload_n hk dX9_bringAll_13 rfl ?_
      refine g_aload_n hk dX9_bringAll_14 rfl ?_
      refine gX_r49_0 hk hin9 (List.mem_cons_of_mem _ (List.mem_append_left _ (List.mem_of_getElem? (i := 1) rfl))) dX9_bringAll_15 ?_
      refine gX_r37_0 hk hin0 (List.mem_cons_of_mem _ (List.mem_append_left _ (List.mem_of_getElem? (i := 2) rfl))) dX9_bringAll_18 ?_
      refine g_iload_n hk dX9_bringAll_21 rfl ?_
      refine g_iload_n hk dX9_bringAll_22 rfl ?_
      refine g_callV (n := 2) hk (m291_X6_hasWindow l D zt d q x973 a969 (by omega) (by omega) (by omega) (by omega)) (SP.same _) (fun _ h => h) (gi_V (List.mem_cons_of_mem _ (List.mem_append_left _ (List.mem_of_getElem? (i := 3) rfl))) (List.mem_cons_of_mem _ (List.mem_append_left _ (List.mem_of_getElem? (i := 4) rfl))) (List.mem_cons_of_mem _ (List.mem_append_left _ (List.mem_of_getElem? (i := 5) rfl))) (List.mem_cons_of_mem _ (List.mem_append_left _ (List.mem_of_getElem? (i := 6) rfl))) (gi_sub (fun w h => (List.mem_cons_of_mem _ (List.mem_append_right _ (List.mem_append_right _ (List.mem_append_right _ (List.mem_append_left _ h)))))) zg_m291_X6_hasWindow)) rfl rfl rfl (by decide +kernel) ⟨Nat.le_of_ble_eq_true rfl, Nat.le_of_ble_eq_true rfl⟩ 13 rfl rfl rfl rfl (Nat.le_of_ble_eq_true rfl) ⟨Nat.le_of_ble_eq_true rfl, Nat.le_of_ble_eq_true rfl⟩ dX9_bringAll_23 (fun v ty' w' hp hk' => ?_)
      obtain ⟨rfl, rfl⟩ := hp
      show GW κ 3 0 0 (wX q d (upd (upd (upd iX0 40 (-2)) 41 (-2)) 42 (-2)) aX0) 26 [(2, .int x973), (0, .ref (q 49)), (1, .int a969)] [.int 0, .int x973, .ref (q 51)]
      refine sX_31 (y := 0) (j := k971) hk (vp_in_iff.mpr ⟨by omega, by omega⟩) (by rw [ex973]; exact nI_clamp (by omega)) rfl dX9_bringAll_26 ?_
      refine gX_same rfl ?_
      refine g_aload_n hk dX9_bringAll_27 rfl ?_
      refine gX_r49_3 hk hin9 (List.mem_cons_of_mem _ (List.mem_append_left _ (List.mem_of_getElem? (i := 0) rfl))) dX9_bringAll_28 ?_
      refine g_iload_n hk dX9_bringAll_31 rfl ?_
      refine lX_31 (v := 0) hk (vp_in_iff.mpr ⟨by omega, by omega⟩) rfl dX9_bringAll_32 ?_
      refine g_if_eq (tgt := 60) (a := 0) hk dX9_bringAll_33 (by decide) rfl (fun _ => ?_) (fun z9 => absurd (show (0 : Int) = (0 : Int) from by decide) z9)
      obtain ⟨y976, ey976⟩ : ∃ y : Int32, y = x973 + Int32.ofInt 1 := ⟨_, rfl⟩
      refine g_iinc (v := y976) (lv' := [(2, .int y976), (0, .ref (q 49)), (1, .int a969)]) hk 0 dX9_bringAll_60 rfl ey976.symm (by decide) rfl ?_
      have fy976 : y976 = nI (k971 + 1) := by rw [ey976, ex973]; exact nI_1 (k971)
      refine g_goto (tgt := 2) hk dX9_bringAll_63 (by decide) ?_
      rw [fy976]
      exact g_lv (List.forall_mem_cons.mpr ⟨List.mem_of_getElem? (i := 0) rfl, (List.forall_mem_cons.mpr ⟨List.mem_of_getElem? (i := 1) rfl, (List.forall_mem_cons.mpr ⟨List.mem_of_getElem? (i := 2) rfl, (fun _ h => absurd h List.not_mem_nil)⟩)⟩)⟩) (ih (k971 + 1) (by omega))
  exact lp970 160 0 (by omega)
def wo_m289_X9_findPair : List Cond := [Cond.fieldLink RX9 86 "WarpDesk$Stretches" "pairLesser" "I", Cond.fieldLink RX9 89 "WarpDesk$Stretches" "pairGreater" "I", Cond.fieldLink RX9 92 "WarpDesk$Stretches" "pairDistance" "I", Cond.methodLink RX9 50 yX9_bringAll, Cond.instanceMethod yX9_bringAll, Cond.selects RX9 yX9_bringAll yX9_bringAll, Cond.initialized RX9, Cond.fieldLink RX9 15 "WarpDesk$Stretches" "isThere" "[Z"]
def wz_m289_X9_findPair : List Cond := .code yX9_findPair cX9_findPair 3 none :: (wo_m289_X9_findPair ++ (wsX90 ++ (wz_m290_X9_bringAll ++ ([] : List Cond))))
theorem zg_m289_X9_findPair : ∀ w ∈ wz_m289_X9_findPair, goodWord w = true := zg_cons rfl (zg_app (by decide +kernel) (zg_app zgU_wsX90 (zg_app zg_m290_X9_bringAll zg_nil)))
theorem zi_m289_X9_findPair : ∀ w ∈ wz_m289_X9_findPair, w ∈ lw_tbl := zi_cons zw_1292 (zi_app (zi_cons zw_454 (zi_cons zw_456 (zi_cons zw_458 (zi_cons zw_1255 (zi_cons zw_1257 (zi_cons zw_39 (zi_cons zw_114 (zi_cons zw_449 zi_nil)))))))) (zi_app inX9 (zi_app zi_m290_X9_bringAll zi_nil)))
set_option maxHeartbeats 4000000 in
set_option maxRecDepth 100000 in
theorem m289_X9_findPair (l : Launch) (D : va_G) (zt : Nat × Nat × Nat) (d : Nat → ClassId) (q : Nat → Nat) (a968 : Int32) (h0 : 2 ≤ a968.toInt) (h1 : a968.toInt ≤ 16) : GM l D zt (tyX d) yX9_findPair wz_m289_X9_findPair ({ frames := 2, cells := 0, slots := 0, locals := 45 } : Room) [.ref (q 49), .int a968] (wX q d iX0 aX0) (fun v _ w' => v = none ∧ w' = wX q d (upd (upd (upd iX0 40 (-2)) 41 (-2)) 42 (-2)) aX0) 0 0 := by
  refine GM.of (cc := cX9_findPair) (maxL := 3) (ret := none) (own := RX9) (lv := [(0, .ref (q 49)), (1, .int a968)]) (by decide) rfl rfl (Nat.le_of_ble_eq_true rfl) rfl (fun κ sz hk hR hN => ?_)
  have hin9 : ∀ w ∈ u_ws RX9 TX9 11, w ∈ wz_m289_X9_findPair := fun w h => (List.mem_cons_of_mem _ (List.mem_append_right _ (List.mem_append_left _ h)))
  refine g_aload_n hk dX9_findPair_0 rfl ?_
  refine g_bipush (v := (-2)) hk dX9_findPair_1 (by decide) ?_
  refine pX_i40 hk hin9 (List.mem_cons_of_mem _ (List.mem_append_left _ (List.mem_of_getElem? (i := 0) rfl))) dX9_findPair_3 ?_
  refine g_aload_n hk dX9_findPair_6 rfl ?_
  refine g_bipush (v := (-2)) hk dX9_findPair_7 (by decide) ?_
  refine pX_i41 hk hin9 (List.mem_cons_of_mem _ (List.mem_append_left _ (List.mem_of_getElem? (i := 1) rfl))) dX9_findPair_9 ?_
  refine g_aload_n hk dX9_findPair_12 rfl ?_
  refine g_bipush (v := (-2)) hk dX9_findPair_13 (by decide) ?_
  refine pX_i42 hk hin9 (List.mem_cons_of_mem _ (List.mem_append_left _ (List.mem_of_getElem? (i := 2) rfl))) dX9_findPair_15 ?_
  refine g_aload_n hk dX9_findPair_18 rfl ?_
  refine g_iload_n hk dX9_findPair_19 rfl ?_
  refine g_callV (n := 1) hk (m290_X9_bringAll l D zt d q a968 (by omega) (by omega)) (SP.same _) (fun _ h => h) (gi_V (List.mem_cons_of_mem _ (List.mem_append_left _ (List.mem_of_getElem? (i := 3) rfl))) (List.mem_cons_of_mem _ (List.mem_append_left _ (List.mem_of_getElem? (i := 4) rfl))) (List.mem_cons_of_mem _ (List.mem_append_left _ (List.mem_of_getElem? (i := 5) rfl))) (List.mem_cons_of_mem _ (List.mem_append_left _ (List.mem_of_getElem? (i := 6) rfl))) (gi_sub (fun w h => (List.mem_cons_of_mem _ (List.mem_append_right _ (List.mem_append_right _ (List.mem_append_left _ h))))) zg_m290_X9_bringAll)) rfl rfl rfl (by decide +kernel) ⟨Nat.le_of_ble_eq_true rfl, Nat.le_of_ble_eq_true rfl⟩ 49 rfl rfl rfl rfl (Nat.le_of_ble_eq_true rfl) ⟨Nat.le_of_ble_eq_true rfl, Nat.le_of_ble_eq_true rfl⟩ dX9_findPair_20 (fun v ty' w' hp hk' => ?_)
  obtain ⟨rfl, rfl⟩ := hp
  show GW κ 3 0 0 (wX q d (upd (upd (upd iX0 40 (-2)) 41 (-2)) 42 (-2)) aX0) 23 [(0, .ref (q 49)), (1, .int a968)] []
  refine g_iconst (v := 0) hk dX9_findPair_23 (by decide) ?_
  refine g_istore_n (lv' := [(2, .int 0), (0, .ref (q 49)), (1, .int a968)]) hk dX9_findPair_24 (by decide) rfl ?_
  have lp977 : ∀ (n979 k978 : Nat), k978 + n979 = 160 → GW κ 3 0 0 (wX q d (upd (upd (upd iX0 40 (-2)) 41 (-2)) 42 (-2)) aX0) 25 [(2, .int (nI k978)), (0, .ref (q 49)), (1, .int a968)] [] := by
    intro n979
    induction n979 with
    | zero =>
      intro k978 hk978
      obtain rfl : k978 = 160 := by omega
      show GW κ 3 0 0 (wX q d (upd (upd (upd iX0 40 (-2)) 41 (-2)) 42 (-2)) aX0) 25 [(2, .int 160), (0, .ref (q 49)), (1, .int a968)] []
      refine g_iload_n hk dX9_findPair_25 rfl ?_
      refine g_sipush (v := 160) hk dX9_findPair_26 (by decide) ?_
      refine g_icmp_ge (tgt := 68) (a := 160) (b := 160) hk dX9_findPair_29 (by decide) rfl rfl (fun _ => ?_) (fun z9 => absurd (show (160 : Int) ≤ (160 : Int) from by decide) z9)
      exact g_vret hk hR ⟨rfl, rfl⟩ dX9_findPair_68
    | succ n979 ih =>
      intro k978 hk978
      obtain ⟨x980, ex980⟩ : ∃ x : Int32, x = nI k978 := ⟨_, rfl⟩
      have hx980 : x980.toInt = (k978 : Int) := by rw [ex980]; exact nI_toInt (by omega)
      rw [← ex980]
      refine g_iload_n hk dX9_findPair_25 rfl ?_
      refine g_sipush (v := 160) hk dX9_findPair_26 (by decide) ?_
      refine g_icmp_ge (tgt := 68) (a := x980.toInt) (b := 160) hk dX9_findPair_29 (by decide) rfl rfl (fun z9 => absurd z9 (show ¬ (160 ≤ x980.toInt) from by omega)) (fun _ => ?_)
      refine g_aload_n hk dX9_findPair_32 rfl ?_
      refine gX_r49_3 hk hin9 (List.mem_cons_of_mem _ (List.mem_append_left _ (List.mem_of_getElem? (i := 7) rfl))) dX9_findPair_33 ?_
      refine g_iload_n hk dX9_findPair_36 rfl ?_
      refine lX_31 (v := 0) hk (vp_in_iff.mpr ⟨by omega, by omega⟩) rfl dX9_findPair_37 ?_
      refine g_if_eq (tgt := 62) (a := 0) hk dX9_findPair_38 (by decide) rfl (fun _ => ?_) (fun z9 => absurd (show (0 : Int) = (0 : Int) from by decide) z9)
      obtain ⟨y981, ey981⟩ : ∃ y : Int32, y = x980 + Int32.ofInt 1 := ⟨_, rfl⟩
      refine g_iinc (v := y981) (lv' := [(2, .int y981), (0, .ref (q 49)), (1, .int a968)]) hk 0 dX9_findPair_62 rfl ey981.symm (by decide) rfl ?_
      have fy981 : y981 = nI (k978 + 1) := by rw [ey981, ex980]; exact nI_1 (k978)
      refine g_goto (tgt := 25) hk dX9_findPair_65 (by decide) ?_
      rw [fy981]
      exact g_lv (List.forall_mem_cons.mpr ⟨List.mem_of_getElem? (i := 0) rfl, (List.forall_mem_cons.mpr ⟨List.mem_of_getElem? (i := 1) rfl, (List.forall_mem_cons.mpr ⟨List.mem_of_getElem? (i := 2) rfl, (fun _ h => absurd h List.not_mem_nil)⟩)⟩)⟩) (ih (k978 + 1) (by omega))
  exact lp977 160 0 (by omega)
def wo_m288_X11_pair : List Cond := [Cond.methodLink RX11 196 yX11_isStretch, Cond.static yX11_isStretch, Cond.initialized RX11, Cond.fieldLink RX11 81 "WarpDesk" "stretches" "LWarpDesk$Stretches;", Cond.methodLink RX11 332 yX9_findPair, Cond.instanceMethod yX9_findPair, Cond.selects RX9 yX9_findPair yX9_findPair, Cond.initialized RX9, Cond.fieldLink RX11 341 "WarpDesk$Stretches" "pairGreater" "I", Cond.fieldLink RX11 338 "WarpDesk$Stretches" "pairLesser" "I", Cond.fieldLink RX11 335 "WarpDesk$Stretches" "pairDistance" "I"]
def wz_m288_X11_pair : List Cond := .code yX11_pair cX11_pair 3 (some .int) :: (wo_m288_X11_pair ++ (wsX90 ++ (wsX110 ++ (wz_m273_X11_isStretch ++ (wz_m289_X9_findPair ++ ([] : List Cond))))))
theorem zg_m288_X11_pair : ∀ w ∈ wz_m288_X11_pair, goodWord w = true := zg_cons rfl (zg_app (by decide +kernel) (zg_app zgU_wsX90 (zg_app zgU_wsX110 (zg_app zg_m273_X11_isStretch (zg_app zg_m289_X9_findPair zg_nil)))))
theorem zi_m288_X11_pair : ∀ w ∈ wz_m288_X11_pair, w ∈ lw_tbl := zi_cons zw_1288 (zi_app (zi_cons zw_926 (zi_cons zw_927 (zi_cons zw_103 (zi_cons zw_496 (zi_cons zw_1289 (zi_cons zw_1290 (zi_cons zw_1291 (zi_cons zw_114 (zi_cons zw_457 (zi_cons zw_455 (zi_cons zw_459 zi_nil))))))))))) (zi_app inX9 (zi_app inX11 (zi_app zi_m273_X11_isStretch (zi_app zi_m289_X9_findPair zi_nil)))))
set_option maxHeartbeats 4000000 in
set_option maxRecDepth 100000 in
theorem m288_X11_pair (l : Launch) (D : va_G) (zt : Nat × Nat × Nat) (d : Nat → ClassId) (q : Nat → Nat) (a959 : Int32) (a960 : Int32) : GM l D zt (tyX d) yX11_pair wz_m288_X11_pair ({ frames := 3, cells := 0, slots := 0, locals := 67 } : Room) [.ref (q 0), .int a959, .int a960] (wX q d iX0 aX0) (fun v _ w' => ((a959.toInt < 2) ∧ v = some (.int (-1)) ∧ w' = wX q d iX0 aX0) ∨ ((¬ (a959.toInt < 2)) ∧ (16 < a959.toInt) ∧ v = some (.int (-1)) ∧ w' = wX q d iX0 aX0) ∨ ((¬ (a959.toInt < 2)) ∧ (¬ (16 < a959.toInt)) ∧ (a960.toInt < 0) ∧ v = some (.int (-1)) ∧ w' = wX q d iX0 aX0) ∨ ((¬ (a959.toInt < 2)) ∧ (¬ (16 < a959.toInt)) ∧ (¬ (a960.toInt < 0)) ∧ (a960.toInt ≤ 2) ∧ (a960.toInt ≠ 2) ∧ (a960.toInt ≠ 0) ∧ v = some (.int (-2)) ∧ w' = wX q d (upd (upd (upd iX0 40 (-2)) 41 (-2)) 42 (-2)) aX0) ∨ ((¬ (a959.toInt < 2)) ∧ (¬ (16 < a959.toInt)) ∧ (¬ (a960.toInt < 0)) ∧ (a960.toInt ≤ 2) ∧ (a960.toInt ≠ 2) ∧ (¬ (a960.toInt ≠ 0)) ∧ v = some (.int (-2)) ∧ w' = wX q d (upd (upd (upd iX0 40 (-2)) 41 (-2)) 42 (-2)) aX0) ∨ ((¬ (a959.toInt < 2)) ∧ (¬ (16 < a959.toInt)) ∧ (¬ (a960.toInt < 0)) ∧ (a960.toInt ≤ 2) ∧ (¬ (a960.toInt ≠ 2)) ∧ v = some (.int (-2)) ∧ w' = wX q d (upd (upd (upd iX0 40 (-2)) 41 (-2)) 42 (-2)) aX0) ∨ ((¬ (a959.toInt < 2)) ∧ (¬ (16 < a959.toInt)) ∧ (¬ (a960.toInt < 0)) ∧ (¬ (a960.toInt ≤ 2)) ∧ v = some (.int (-1)) ∧ w' = wX q d iX0 aX0)) 0 0 := by
  refine GM.of (cc := cX11_pair) (maxL := 3) (ret := (some .int)) (own := RX11) (lv := [(0, .ref (q 0)), (1, .int a959), (2, .int a960)]) (by decide) rfl rfl (Nat.le_of_ble_eq_true rfl) rfl (fun κ sz hk hR hN => ?_)
  have hin9 : ∀ w ∈ u_ws RX9 TX9 11, w ∈ wz_m288_X11_pair := fun w h => (List.mem_cons_of_mem _ (List.mem_append_right _ (List.mem_append_left _ h)))
  have hin11 : ∀ w ∈ u_ws RX11 TX11 10, w ∈ wz_m288_X11_pair := fun w h => (List.mem_cons_of_mem _ (List.mem_append_right _ (List.mem_append_right _ (List.mem_append_left _ h))))
  refine g_iload_n hk dX11_pair_0 rfl ?_
  refine g_callS (n := 1) hk (m273_X11_isStretch l D zt d q a959) (SP.same _) (fun _ h => h) (gi_S (List.mem_cons_of_mem _ (List.mem_append_left _ (List.mem_of_getElem? (i := 0) rfl))) (List.mem_cons_of_mem _ (List.mem_append_left _ (List.mem_of_getElem? (i := 1) rfl))) (List.mem_cons_of_mem _ (List.mem_append_left _ (List.mem_of_getElem? (i := 2) rfl))) (gi_sub (fun w h => (List.mem_cons_of_mem _ (List.mem_append_right _ (List.mem_append_right _ (List.mem_append_right _ (List.mem_append_left _ h)))))) zg_m273_X11_isStretch)) rfl rfl rfl (by decide +kernel) ⟨Nat.le_of_ble_eq_true rfl, Nat.le_of_ble_eq_true rfl⟩ rfl rfl (Nat.le_of_ble_eq_true rfl) ⟨Nat.le_of_ble_eq_true rfl, Nat.le_of_ble_eq_true rfl⟩ dX11_pair_1 (fun v ty' w' hp hk' => ?_)
  rcases hp with ⟨c961, rfl, rfl⟩ | ⟨c962, c963, rfl, rfl⟩ | ⟨c964, c965, rfl, rfl⟩
  · show GW κ 3 0 0 (wX q d iX0 aX0) 4 [(0, .ref (q 0)), (1, .int a959), (2, .int a960)] [.int 0]
    refine g_if_eq (tgt := 16) (a := 0) hk dX11_pair_4 (by decide) rfl (fun _ => ?_) (fun z9 => absurd (show (0 : Int) = (0 : Int) from by decide) z9)
    refine g_iconst (v := (-1)) hk dX11_pair_16 (by decide) ?_
    exact g_iret hk hR rfl (Or.inl ⟨c961, rfl, rfl⟩) dX11_pair_17
  · show GW κ 3 0 0 (wX q d iX0 aX0) 4 [(0, .ref (q 0)), (1, .int a959), (2, .int a960)] [.int 0]
    refine g_if_eq (tgt := 16) (a := 0) hk dX11_pair_4 (by decide) rfl (fun _ => ?_) (fun z9 => absurd (show (0 : Int) = (0 : Int) from by decide) z9)
    refine g_iconst (v := (-1)) hk dX11_pair_16 (by decide) ?_
    exact g_iret hk hR rfl (Or.inr (Or.inl ⟨c962, c963, rfl, rfl⟩)) dX11_pair_17
  · show GW κ 3 0 0 (wX q d iX0 aX0) 4 [(0, .ref (q 0)), (1, .int a959), (2, .int a960)] [.int 1]
    refine g_if_eq (tgt := 16) (a := 1) hk dX11_pair_4 (by decide) rfl (fun z9 => absurd z9 (show ¬ ((1 : Int) = (0 : Int)) from by decide)) (fun _ => ?_)
    refine g_iload_n hk dX11_pair_7 rfl ?_
    refine g_if_lt (tgt := 16) (a := a960.toInt) hk dX11_pair_8 (by decide) rfl (fun c966 => ?_) (fun c966 => ?_)
    · skip
      refine g_iconst (v := (-1)) hk dX11_pair_16 (by decide) ?_
      exact g_iret hk hR rfl (Or.inr (Or.inr (Or.inl ⟨c964, c965, c966, rfl, rfl⟩))) dX11_pair_17
    · skip
      refine g_iload_n hk dX11_pair_11 rfl ?_
      refine g_iconst (v := 2) hk dX11_pair_12 (by decide) ?_
      refine g_icmp_le (tgt := 18) (a := a960.toInt) (b := 2) hk dX11_pair_13 (by decide) rfl rfl (fun c967 => ?_) (fun c967 => ?_)
      · skip
        refine g_aload_n hk dX11_pair_18 rfl ?_
        refine gX_r0_9 hk hin11 (List.mem_cons_of_mem _ (List.mem_append_left _ (List.mem_of_getElem? (i := 3) rfl))) dX11_pair_19 ?_
        refine g_iload_n hk dX11_pair_22 rfl ?_
        refine g_callV (n := 1) hk (m289_X9_findPair l D zt d q a959 (by omega) (by omega)) (SP.same _) (fun _ h => h) (gi_V (List.mem_cons_of_mem _ (List.mem_append_left _ (List.mem_of_getElem? (i := 4) rfl))) (List.mem_cons_of_mem _ (List.mem_append_left _ (List.mem_of_getElem? (i := 5) rfl))) (List.mem_cons_of_mem _ (List.mem_append_left _ (List.mem_of_getElem? (i := 6) rfl))) (List.mem_cons_of_mem _ (List.mem_append_left _ (List.mem_of_getElem? (i := 7) rfl))) (gi_sub (fun w h => (List.mem_cons_of_mem _ (List.mem_append_right _ (List.mem_append_right _ (List.mem_append_right _ (List.mem_append_right _ (List.mem_append_left _ h))))))) zg_m289_X9_findPair)) rfl rfl rfl (by decide +kernel) ⟨Nat.le_of_ble_eq_true rfl, Nat.le_of_ble_eq_true rfl⟩ 49 rfl rfl rfl rfl (Nat.le_of_ble_eq_true rfl) ⟨Nat.le_of_ble_eq_true rfl, Nat.le_of_ble_eq_true rfl⟩ dX11_pair_23 (fun v ty' w' hp hk' => ?_)
        obtain ⟨rfl, rfl⟩ := hp
        show GW κ 3 0 0 (wX q d (upd (upd (upd iX0 40 (-2)) 41 (-2)) 42 (-2)) aX0) 26 [(0, .ref (q 0)), (1, .int a959), (2, .int a960)] []
        refine g_iload_n hk dX11_pair_26 rfl ?_
        refine g_iconst (v := 2) hk dX11_pair_27 (by decide) ?_
        refine g_icmp_ne (tgt := 39) (a := a960.toInt) (b := 2) hk dX11_pair_28 (by decide) rfl rfl (fun c982 => ?_) (fun c982 => ?_)
        · skip
          refine g_iload_n hk dX11_pair_39 rfl ?_
          refine g_if_ne (tgt := 53) (a := a960.toInt) hk dX11_pair_40 (by decide) rfl (fun c983 => ?_) (fun c983 => ?_)
          · skip
            refine g_aload_n hk dX11_pair_53 rfl ?_
            refine gX_r0_9 hk hin11 (List.mem_cons_of_mem _ (List.mem_append_left _ (List.mem_of_getElem? (i := 3) rfl))) dX11_pair_54 ?_
            refine gX_i41 (v := (-2)) hk hin9 (List.mem_cons_of_mem _ (List.mem_append_left _ (List.mem_of_getElem? (i := 8) rfl))) dX11_pair_57 rfl ?_
            exact g_iret hk hR rfl (Or.inr (Or.inr (Or.inr (Or.inl ⟨c964, c965, c966, c967, c982, c983, rfl, rfl⟩)))) dX11_pair_60
          · skip
            refine g_aload_n hk dX11_pair_43 rfl ?_
            refine gX_r0_9 hk hin11 (List.mem_cons_of_mem _ (List.mem_append_left _ (List.mem_of_getElem? (i := 3) rfl))) dX11_pair_44 ?_
            refine gX_i40 (v := (-2)) hk hin9 (List.mem_cons_of_mem _ (List.mem_append_left _ (List.mem_of_getElem? (i := 9) rfl))) dX11_pair_47 rfl ?_
            refine g_goto (tgt := 60) hk dX11_pair_50 (by decide) ?_
            exact g_iret hk hR rfl (Or.inr (Or.inr (Or.inr (Or.inr (Or.inl ⟨c964, c965, c966, c967, c982, c983, rfl, rfl⟩))))) dX11_pair_60
        · skip
          refine g_aload_n hk dX11_pair_31 rfl ?_
          refine gX_r0_9 hk hin11 (List.mem_cons_of_mem _ (List.mem_append_left _ (List.mem_of_getElem? (i := 3) rfl))) dX11_pair_32 ?_
          refine gX_i42 (v := (-2)) hk hin9 (List.mem_cons_of_mem _ (List.mem_append_left _ (List.mem_of_getElem? (i := 10) rfl))) dX11_pair_35 rfl ?_
          exact g_iret hk hR rfl (Or.inr (Or.inr (Or.inr (Or.inr (Or.inr (Or.inl ⟨c964, c965, c966, c967, c982, rfl, rfl⟩)))))) dX11_pair_38
      · skip
        refine g_iconst (v := (-1)) hk dX11_pair_16 (by decide) ?_
        exact g_iret hk hR rfl (Or.inr (Or.inr (Or.inr (Or.inr (Or.inr (Or.inr (⟨c964, c965, c966, c967, rfl, rfl⟩))))))) dX11_pair_17
def wo_m295_X6_hasWindow : List Cond := [Cond.fieldLink RX6 19 "WarpDesk$Series" "size" "I"]
def wz_m295_X6_hasWindow : List Cond := .code yX6_hasWindow cX6_hasWindow 4 (some .boolean) :: (wo_m295_X6_hasWindow ++ (wsX60 ++ ([] : List Cond)))
theorem zg_m295_X6_hasWindow : ∀ w ∈ wz_m295_X6_hasWindow, goodWord w = true := zg_cons rfl (zg_app (by decide +kernel) (zg_app zgU_wsX60 zg_nil))
theorem zi_m295_X6_hasWindow : ∀ w ∈ wz_m295_X6_hasWindow, w ∈ lw_tbl := zi_cons zw_904 (zi_app (zi_cons zw_282 zi_nil) (zi_app inX6 zi_nil))
set_option maxHeartbeats 4000000 in
set_option maxRecDepth 100000 in
theorem m295_X6_hasWindow (l : Launch) (D : va_G) (zt : Nat × Nat × Nat) (d : Nat → ClassId) (q : Nat → Nat) (a999 : Int32) (a1000 : Int32) (h0 : 0 ≤ a999.toInt) (h1 : a999.toInt ≤ 159) (h2 : 2 ≤ a1000.toInt) (h3 : a1000.toInt ≤ 16) : GM l D zt (tyX d) yX6_hasWindow wz_m295_X6_hasWindow ({ frames := 0, cells := 0, slots := 0, locals := 0 } : Room) [.ref (q 13), .int a999, .int a1000] (wX q d (upd (upd iX0 43 (-2)) 44 (-2)) aX0) (fun v _ w' => v = some (.int 0) ∧ w' = wX q d (upd (upd iX0 43 (-2)) 44 (-2)) aX0) 0 0 := by
  refine GM.of (cc := cX6_hasWindow) (maxL := 4) (ret := (some .boolean)) (own := RX6) (lv := [(0, .ref (q 13)), (1, .int a999), (2, .int a1000)]) (by decide) rfl rfl (Nat.le_of_ble_eq_true rfl) rfl (fun κ sz hk hR hN => ?_)
  have hin6 : ∀ w ∈ u_ws RX6 TX6 3, w ∈ wz_m295_X6_hasWindow := fun w h => (List.mem_cons_of_mem _ (List.mem_append_right _ (List.mem_append_left _ h)))
  refine g_iload_n hk dX6_hasWindow_0 rfl ?_
  refine g_if_lt (tgt := 27) (a := a999.toInt) hk dX6_hasWindow_1 (by decide) rfl (fun z9 => absurd z9 (show ¬ (a999.toInt < 0) from by omega)) (fun _ => ?_)
  refine g_iload_n hk dX6_hasWindow_4 rfl ?_
  refine g_aload_n hk dX6_hasWindow_5 rfl ?_
  refine gX_i18 (v := 0) hk hin6 (List.mem_cons_of_mem _ (List.mem_append_left _ (List.mem_of_getElem? (i := 0) rfl))) dX6_hasWindow_6 rfl ?_
  refine g_icmp_ge (tgt := 27) (a := a999.toInt) (b := 0) hk dX6_hasWindow_9 (by decide) rfl rfl (fun _ => ?_) (fun z9 => absurd (show 0 ≤ a999.toInt from by omega) z9)
  refine g_iconst (v := 0) hk dX6_hasWindow_27 (by decide) ?_
  exact g_iret hk hR rfl ⟨rfl, rfl⟩ dX6_hasWindow_28
def wo_m294_X9_bringAll : List Cond := [Cond.fieldLink RX9 15 "WarpDesk$Stretches" "isThere" "[Z", Cond.fieldLink RX9 19 "WarpDesk$Stretches" "bench" "LWarpDesk$Bench;", Cond.fieldLink RX9 30 "WarpDesk$Bench" "series" "LWarpDesk$Series;", Cond.methodLink RX9 34 yX6_hasWindow, Cond.instanceMethod yX6_hasWindow, Cond.selects RX6 yX6_hasWindow yX6_hasWindow, Cond.initialized RX6]
def wz_m294_X9_bringAll : List Cond := .code yX9_bringAll cX9_bringAll 3 none :: (wo_m294_X9_bringAll ++ (wsX00 ++ (wsX90 ++ (wz_m295_X6_hasWindow ++ ([] : List Cond)))))
theorem zg_m294_X9_bringAll : ∀ w ∈ wz_m294_X9_bringAll, goodWord w = true := zg_cons rfl (zg_app (by decide +kernel) (zg_app zgU_wsX00 (zg_app zgU_wsX90 (zg_app zg_m295_X6_hasWindow zg_nil))))
theorem zi_m294_X9_bringAll : ∀ w ∈ wz_m294_X9_bringAll, w ∈ lw_tbl := zi_cons zw_1258 (zi_app (zi_cons zw_449 (zi_cons zw_446 (zi_cons zw_375 (zi_cons zw_1259 (zi_cons zw_902 (zi_cons zw_903 (zi_cons zw_109 zi_nil))))))) (zi_app inX0 (zi_app inX9 (zi_app zi_m295_X6_hasWindow zi_nil))))
set_option maxHeartbeats 4000000 in
set_option maxRecDepth 100000 in
theorem m294_X9_bringAll (l : Launch) (D : va_G) (zt : Nat × Nat × Nat) (d : Nat → ClassId) (q : Nat → Nat) (a994 : Int32) (h0 : 2 ≤ a994.toInt) (h1 : a994.toInt ≤ 16) : GM l D zt (tyX d) yX9_bringAll wz_m294_X9_bringAll ({ frames := 1, cells := 0, slots := 0, locals := 23 } : Room) [.ref (q 49), .int a994] (wX q d (upd (upd iX0 43 (-2)) 44 (-2)) aX0) (fun v _ w' => v = none ∧ w' = wX q d (upd (upd iX0 43 (-2)) 44 (-2)) aX0) 0 0 := by
  refine GM.of (cc := cX9_bringAll) (maxL := 3) (ret := none) (own := RX9) (lv := [(0, .ref (q 49)), (1, .int a994)]) (by decide) rfl rfl (Nat.le_of_ble_eq_true rfl) rfl (fun κ sz hk hR hN => ?_)
  have hin0 : ∀ w ∈ u_ws RX0 TX0 5, w ∈ wz_m294_X9_bringAll := fun w h => (List.mem_cons_of_mem _ (List.mem_append_right _ (List.mem_append_left _ h)))
  have hin9 : ∀ w ∈ u_ws RX9 TX9 11, w ∈ wz_m294_X9_bringAll := fun w h => (List.mem_cons_of_mem _ (List.mem_append_right _ (List.mem_append_right _ (List.mem_append_left _ h))))
  refine g_iconst (v := 0) hk dX9_bringAll_0 (by decide) ?_
  refine g_istore_n (lv' := [(2, .int 0), (0, .ref (q 49)), (1, .int a994)]) hk dX9_bringAll_1 (by decide) rfl ?_
  have lp995 : ∀ (n997 k996 : Nat), k996 + n997 = 160 → GW κ 3 0 0 (wX q d (upd (upd iX0 43 (-2)) 44 (-2)) aX0) 2 [(2, .int (nI k996)), (0, .ref (q 49)), (1, .int a994)] [] := by
    intro n997
    induction n997 with
    | zero =>
      intro k996 hk996
      obtain rfl : k996 = 160 := by omega
      show GW κ 3 0 0 (wX q d (upd (upd iX0 43 (-2)) 44 (-2)) aX0) 2 [(2, .int 160), (0, .ref (q 49)), (1, .int a994)] []
      refine g_iload_n hk dX9_bringAll_2 rfl ?_
      refine g_sipush (v := 160) hk dX9_bringAll_3 (by decide) ?_
      refine g_icmp_ge (tgt := 66) (a := 160) (b := 160) hk dX9_bringAll_6 (by decide) rfl rfl (fun _ => ?_) (fun z9 => absurd (show (160 : Int) ≤ (160 : Int) from by decide) z9)
      exact g_vret hk hR ⟨rfl, rfl⟩ dX9_bringAll_66
    | succ n997 ih =>
      intro k996 hk996
      obtain ⟨x998, ex998⟩ : ∃ x : Int32, x = nI k996 := ⟨_, rfl⟩
      have hx998 : x998.toInt = (k996 : Int) := by rw [ex998]; exact nI_toInt (by omega)
      rw [← ex998]
      refine g_iload_n hk dX9_bringAll_2 rfl ?_
      refine g_sipush (v := 160) hk dX9_bringAll_3 (by decide) ?_
      refine g_icmp_ge (tgt := 66) (a := x998.toInt) (b := 160) hk dX9_bringAll_6 (by decide) rfl rfl (fun z9 => absurd z9 (show ¬ (160 ≤ x998.toInt) from by omega)) (fun _ => ?_)
      refine g_aload_n hk dX9_bringAll_9 rfl ?_
      refine gX_r49_3 hk hin9 (List.mem_cons_of_mem _ (List.mem_append_left _ (List.mem_of_getElem? (i := 0) rfl))) dX9_bringAll_10 ?_
      refine g_iload_n hk dX9_bringAll_13 rfl ?_
      refine g_aload_n hk dX9_bringAll_14 rfl ?_
      refine gX_r49_0 hk hin9 (List.mem_cons_of_mem _ (List.mem_append_left _ (List.mem_of_getElem? (i := 1) rfl))) dX9_bringAll_15 ?_
      refine gX_r37_0 hk hin0 (List.mem_cons_of_mem _ (List.mem_append_left _ (List.mem_of_getElem? (i := 2) rfl))) dX9_bringAll_18 ?_
      refine g_iload_n hk dX9_bringAll_21 rfl ?_
      refine g_iload_n hk dX9_bringAll_22 rfl ?_
      refine g_callV (n := 2) hk (m295_X6_hasWindow l D zt d q x998 a994 (by omega) (by omega) (by omega) (by omega)) (SP.same _) (fun _ h => h) (gi_V (List.mem_cons_of_mem _ (List.mem_append_left _ (List.mem_of_getElem? (i := 3) rfl))) (List.mem_cons_of_mem _ (List.mem_append_left _ (List.mem_of_getElem? (i := 4) rfl))) (List.mem_cons_of_mem _ (List.mem_append_left _ (List.mem_of_getElem? (i := 5) rfl))) (List.mem_cons_of_mem _ (List.mem_append_left _ (List.mem_of_getElem? (i := 6) rfl))) (gi_sub (fun w h => (List.mem_cons_of_mem _ (List.mem_append_right _ (List.mem_append_right _ (List.mem_append_right _ (List.mem_append_left _ h)))))) zg_m295_X6_hasWindow)) rfl rfl rfl (by decide +kernel) ⟨Nat.le_of_ble_eq_true rfl, Nat.le_of_ble_eq_true rfl⟩ 13 rfl rfl rfl rfl (Nat.le_of_ble_eq_true rfl) ⟨Nat.le_of_ble_eq_true rfl, Nat.le_of_ble_eq_true rfl⟩ dX9_bringAll_23 (fun v ty' w' hp hk' => ?_)
      obtain ⟨rfl, rfl⟩ := hp
      show GW κ 3 0 0 (wX q d (upd (upd iX0 43 (-2)) 44 (-2)) aX0) 26 [(2, .int x998), (0, .ref (q 49)), (1, .int a994)] [.int 0, .int x998, .ref (q 51)]
      refine sX_31 (y := 0) (j := k996) hk (vp_in_iff.mpr ⟨by omega, by omega⟩) (by rw [ex998]; exact nI_clamp (by omega)) rfl dX9_bringAll_26 ?_
      refine gX_same rfl ?_
      refine g_aload_n hk dX9_bringAll_27 rfl ?_
      refine gX_r49_3 hk hin9 (List.mem_cons_of_mem _ (List.mem_append_left _ (List.mem_of_getElem? (i := 0) rfl))) dX9_bringAll_28 ?_
      refine g_iload_n hk dX9_bringAll_31 rfl ?_
      refine lX_31 (v := 0) hk (vp_in_iff.mpr ⟨by omega, by omega⟩) rfl dX9_bringAll_32 ?_
      refine g_if_eq (tgt := 60) (a := 0) hk dX9_bringAll_33 (by decide) rfl (fun _ => ?_) (fun z9 => absurd (show (0 : Int) = (0 : Int) from by decide) z9)
      obtain ⟨y1001, ey1001⟩ : ∃ y : Int32, y = x998 + Int32.ofInt 1 := ⟨_, rfl⟩
      refine g_iinc (v := y1001) (lv' := [(2, .int y1001), (0, .ref (q 49)), (1, .int a994)]) hk 0 dX9_bringAll_60 rfl ey1001.symm (by decide) rfl ?_
      have fy1001 : y1001 = nI (k996 + 1) := by rw [ey1001, ex998]; exact nI_1 (k996)
      refine g_goto (tgt := 2) hk dX9_bringAll_63 (by decide) ?_
      rw [fy1001]
      exact g_lv (List.forall_mem_cons.mpr ⟨List.mem_of_getElem? (i := 0) rfl, (List.forall_mem_cons.mpr ⟨List.mem_of_getElem? (i := 1) rfl, (List.forall_mem_cons.mpr ⟨List.mem_of_getElem? (i := 2) rfl, (fun _ h => absurd h List.not_mem_nil)⟩)⟩)⟩) (ih (k996 + 1) (by omega))
  exact lp995 160 0 (by omega)
