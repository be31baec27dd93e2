noncomputable def fX5_hasRoom (I : Nat → Int32) (A : Nat → Nat → Int32) : Int32 := if (I 4).toInt ≤ 400 then if (I 6).toInt = 0 then f_lt (fX5_tellAtHand I A) fun y909 => if y909.toInt ≠ 5 then 1 else if 5 ≤ (I 16).toInt then 0 else 1 else if (I 6).toInt = 1 then if (I 1).toInt = 3 then 1 else if 160 ≤ (I 14).toInt then 0 else 1 else if (I 6).toInt = 2 then 1 else if (I 6).toInt = 3 then if (I 1).toInt = 3 then 1 else if 16 ≤ (I 9).toInt then 0 else 1 else 1 else 0
def wo_k149_X5_hasRoom : List Cond := [Cond.fieldLink RX5 42 "WarpDesk$Reader" "tape" "LWarpDesk$Tape;", Cond.fieldLink RX5 124 "WarpDesk$Tape" "number" "I", Cond.fieldLink RX5 75 "WarpDesk$Reader" "state" "I", Cond.methodLink RX5 99 yX5_tellAtHand, Cond.instanceMethod yX5_tellAtHand, Cond.selects RX5 yX5_tellAtHand yX5_tellAtHand, Cond.initialized RX5, Cond.fieldLink RX5 21 "WarpDesk$Reader" "queries" "LWarpDesk$Queries;", Cond.fieldLink RX5 84 "WarpDesk$Queries" "size" "I", Cond.fieldLink RX5 53 "WarpDesk$Tape" "kind" "I", Cond.fieldLink RX5 12 "WarpDesk$Reader" "draft" "LWarpDesk$Stand;", Cond.fieldLink RX5 127 "WarpDesk$Stand" "size" "I", Cond.fieldLink RX5 32 "WarpDesk$Reader" "told" "I"]
def wz_k149_X5_hasRoom : List Cond := .code yX5_hasRoom cX5_hasRoom 1 (some .boolean) :: (wo_k149_X5_hasRoom ++ (wsX40 ++ (wsX50 ++ (wsX80 ++ (wsX100 ++ (wz_k133_X5_tellAtHand ++ ([] : List Cond)))))))
theorem zg_k149_X5_hasRoom : ∀ w ∈ wz_k149_X5_hasRoom, goodWord w = true := zg_cons rfl (zg_app (by decide +kernel) (zg_app zgU_wsX40 (zg_app zgU_wsX50 (zg_app zgU_wsX80 (zg_app zgU_wsX100 (zg_app zg_k133_X5_tellAtHand zg_nil))))))
theorem zi_k149_X5_hasRoom : ∀ w ∈ wz_k149_X5_hasRoom, w ∈ lw_tbl := zi_cons zw_692 (zi_app (zi_cons zw_230 (zi_cons zw_145 (zi_cons zw_237 (zi_cons zw_588 (zi_cons zw_590 (zi_cons zw_6 (zi_cons zw_105 (zi_cons zw_233 (zi_cons zw_220 (zi_cons zw_138 (zi_cons zw_231 (zi_cons zw_197 (zi_cons zw_240 zi_nil))))))))))))) (zi_app inX4 (zi_app inX5 (zi_app inX8 (zi_app inX10 (zi_app zi_k133_X5_tellAtHand zi_nil))))))
set_option maxHeartbeats 4000000 in
set_option maxRecDepth 100000 in
theorem k149_X5_hasRoom (l : Launch) (D : va_G) (zt : Nat × Nat × Nat × (Nat → Nat) × (Nat → Nat)) (q : Nat → Nat) (d : Nat → ClassId) (I : Nat → Int32) (A : Nat → Nat → Int32) (hIv : IvX I A) : GM l D zt (tyX d) yX5_hasRoom wz_k149_X5_hasRoom ({ frames := 6, cells := 0, slots := 0, locals := 127 } : Room) [.ref (q 3)] (wX q d I A) (fun v _ w' => (FE (fX5_hasRoom I A) (0) ∧ v = some (.int 0) ∧ w' = wX q d I A) ∨ (FE (fX5_hasRoom I A) (1) ∧ v = some (.int 1) ∧ w' = wX q d I A)) 0 0 := by
  refine GM.of (cc := cX5_hasRoom) (maxL := 1) (ret := (some .boolean)) (own := RX5) (lv := [(0, .ref (q 3))]) (by decide) rfl rfl (Nat.le_of_ble_eq_true rfl) rfl (fun κ sz hk hR hN => ?_)
  have hin4 : ∀ w ∈ u_ws RX4 TX4 3, w ∈ wz_k149_X5_hasRoom := fun w h => (List.mem_cons_of_mem _ (List.mem_append_right _ (List.mem_append_left _ h)))
  have hin5 : ∀ w ∈ u_ws RX5 TX5 13, w ∈ wz_k149_X5_hasRoom := fun w h => (List.mem_cons_of_mem _ (List.mem_append_right _ (List.mem_append_right _ (List.mem_append_left _ h))))
  have hin8 : ∀ w ∈ u_ws RX8 TX8 4, w ∈ wz_k149_X5_hasRoom := fun w h => (List.mem_cons_of_mem _ (List.mem_append_right _ (List.mem_append_right _ (List.mem_append_right _ (List.mem_append_left _ h)))))
  have hin10 : ∀ w ∈ u_ws RX10 TX10 7, w ∈ wz_k149_X5_hasRoom := fun w h => (List.mem_cons_of_mem _ (List.mem_append_right _ (List.mem_append_right _ (List.mem_append_right _ (List.mem_append_right _ (List.mem_append_left _ h))))))
  have hF : FE (fX5_hasRoom I A) (fX5_hasRoom I A) := FE.rf
  refine g_aload_n hk dX5_hasRoom_0 rfl ?_
  refine gX_r3_0 hk hin5 (List.mem_cons_of_mem _ (List.mem_append_left _ (List.mem_of_getElem? (i := 0) rfl))) dX5_hasRoom_1 ?_
  refine gX_i4 (v := (I 4)) hk hin10 (List.mem_cons_of_mem _ (List.mem_append_left _ (List.mem_of_getElem? (i := 1) rfl))) dX5_hasRoom_4 rfl ?_
  refine g_sipush (v := 400) hk dX5_hasRoom_7 (by decide) ?_
  have b906l := Int32.le_toInt (I 4)
  have b906h := Int32.toInt_lt (I 4)
  refine g_icmp_le (tgt := 15) (a := (I 4).toInt) (b := 400) hk dX5_hasRoom_10 (by decide) rfl rfl (fun c907 => ?_) (fun c907 => ?_)
  · skip
    replace hF := FE.pos hF c907
    refine g_aload_n hk dX5_hasRoom_15 rfl ?_
    refine gX_i6 (v := (I 6)) hk hin5 (List.mem_cons_of_mem _ (List.mem_append_left _ (List.mem_of_getElem? (i := 2) rfl))) dX5_hasRoom_16 rfl ?_
    by_cases c908 : (I 6).toInt = 0
    · refine g_tabIn (tgt := 48) (a := 0) hk dX5_hasRoom_19 c908 (by decide) (by decide) rfl (by decide) ?_
      replace hF := FE.pos hF c908
      refine g_aload_n hk dX5_hasRoom_48 rfl ?_
      refine g_callV (n := 0) hk (k133_X5_tellAtHand l D zt q d I A  hIv) (SP.same _) (fun _ h => h) (gi_V (List.mem_cons_of_mem _ (List.mem_append_left _ (List.mem_of_getElem? (i := 3) rfl))) (List.mem_cons_of_mem _ (List.mem_append_left _ (List.mem_of_getElem? (i := 4) rfl))) (List.mem_cons_of_mem _ (List.mem_append_left _ (List.mem_of_getElem? (i := 5) rfl))) (List.mem_cons_of_mem _ (List.mem_append_left _ (List.mem_of_getElem? (i := 6) rfl))) (gi_sub (fun w h => (List.mem_cons_of_mem _ (List.mem_append_right _ (List.mem_append_right _ (List.mem_append_right _ (List.mem_append_right _ (List.mem_append_right _ (List.mem_append_left _ h)))))))) zg_k133_X5_tellAtHand)) rfl rfl rfl (by decide +kernel) ⟨Nat.le_of_ble_eq_true rfl, Nat.le_of_ble_eq_true rfl⟩ 3 rfl rfl rfl rfl (Nat.le_of_ble_eq_true rfl) ⟨Nat.le_of_ble_eq_true rfl, Nat.le_of_ble_eq_true rfl⟩ dX5_hasRoom_49 (fun v ty' w' hp hk' => ?_)
      obtain ⟨y909, c910, c911, hC, rfl, rfl⟩ := hp
      replace hF := FE.lt hF (fe_s hC)
      show GW κ 1 0 0 (wX q d I A) 52 [(0, .ref (q 3))] [.int y909]
      refine g_iconst (v := 5) hk dX5_hasRoom_52 (by decide) ?_
      refine g_icmp_ne (tgt := 67) (a := y909.toInt) (b := 5) hk dX5_hasRoom_53 (by decide) rfl rfl (fun c912 => ?_) (fun c912 => ?_)
      · skip
        replace hF := FE.pos hF c912
        refine g_iconst (v := 1) hk dX5_hasRoom_67 (by decide) ?_
        refine g_goto (tgt := 72) hk dX5_hasRoom_68 (by decide) ?_
        exact g_iret hk hR rfl (Or.inr (⟨hF, rfl, rfl⟩)) dX5_hasRoom_72
      · skip
        replace hF := FE.neg hF c912
        refine g_aload_n hk dX5_hasRoom_56 rfl ?_
        refine gX_r3_2 hk hin5 (List.mem_cons_of_mem _ (List.mem_append_left _ (List.mem_of_getElem? (i := 7) rfl))) dX5_hasRoom_57 ?_
        refine gX_i16 (v := (I 16)) hk hin4 (List.mem_cons_of_mem _ (List.mem_append_left _ (List.mem_of_getElem? (i := 8) rfl))) dX5_hasRoom_60 rfl ?_
        refine g_iconst (v := 5) hk dX5_hasRoom_63 (by decide) ?_
        have b913l := Int32.le_toInt (I 16)
        have b913h := Int32.toInt_lt (I 16)
        refine g_icmp_ge (tgt := 71) (a := (I 16).toInt) (b := 5) hk dX5_hasRoom_64 (by decide) rfl rfl (fun c914 => ?_) (fun c914 => ?_)
        · skip
          replace hF := FE.pos hF c914
          refine g_iconst (v := 0) hk dX5_hasRoom_71 (by decide) ?_
          exact g_iret hk hR rfl (Or.inl ⟨hF, rfl, rfl⟩) dX5_hasRoom_72
        · skip
          replace hF := FE.neg hF c914
          refine g_iconst (v := 1) hk dX5_hasRoom_67 (by decide) ?_
          refine g_goto (tgt := 72) hk dX5_hasRoom_68 (by decide) ?_
          exact g_iret hk hR rfl (Or.inr (⟨hF, rfl, rfl⟩)) dX5_hasRoom_72
    replace hF := FE.neg hF c908
    by_cases c915 : (I 6).toInt = 1
    · refine g_tabIn (tgt := 73) (a := 1) hk dX5_hasRoom_19 c915 (by decide) (by decide) rfl (by decide) ?_
      replace hF := FE.pos hF c915
      refine g_aload_n hk dX5_hasRoom_73 rfl ?_
      refine gX_r3_0 hk hin5 (List.mem_cons_of_mem _ (List.mem_append_left _ (List.mem_of_getElem? (i := 0) rfl))) dX5_hasRoom_74 ?_
      refine gX_i1 (v := (I 1)) hk hin10 (List.mem_cons_of_mem _ (List.mem_append_left _ (List.mem_of_getElem? (i := 9) rfl))) dX5_hasRoom_77 rfl ?_
      refine g_iconst (v := 3) hk dX5_hasRoom_80 (by decide) ?_
      have b916l := Int32.le_toInt (I 1)
      have b916h := Int32.toInt_lt (I 1)
      refine g_icmp_eq (tgt := 97) (a := (I 1).toInt) (b := 3) hk dX5_hasRoom_81 (by decide) rfl rfl (fun c917 => ?_) (fun c917 => ?_)
      · skip
        replace hF := FE.pos hF c917
        refine g_iconst (v := 1) hk dX5_hasRoom_97 (by decide) ?_
        refine g_goto (tgt := 102) hk dX5_hasRoom_98 (by decide) ?_
        exact g_iret hk hR rfl (Or.inr (⟨hF, rfl, rfl⟩)) dX5_hasRoom_102
      · skip
        replace hF := FE.neg hF c917
        refine g_aload_n hk dX5_hasRoom_84 rfl ?_
        refine gX_r3_1 hk hin5 (List.mem_cons_of_mem _ (List.mem_append_left _ (List.mem_of_getElem? (i := 10) rfl))) dX5_hasRoom_85 ?_
        refine gX_i14 (v := (I 14)) hk hin8 (List.mem_cons_of_mem _ (List.mem_append_left _ (List.mem_of_getElem? (i := 11) rfl))) dX5_hasRoom_88 rfl ?_
        refine g_sipush (v := 160) hk dX5_hasRoom_91 (by decide) ?_
        have b918l := Int32.le_toInt (I 14)
        have b918h := Int32.toInt_lt (I 14)
        refine g_icmp_ge (tgt := 101) (a := (I 14).toInt) (b := 160) hk dX5_hasRoom_94 (by decide) rfl rfl (fun c919 => ?_) (fun c919 => ?_)
        · skip
          replace hF := FE.pos hF c919
          refine g_iconst (v := 0) hk dX5_hasRoom_101 (by decide) ?_
          exact g_iret hk hR rfl (Or.inl ⟨hF, rfl, rfl⟩) dX5_hasRoom_102
        · skip
          replace hF := FE.neg hF c919
          refine g_iconst (v := 1) hk dX5_hasRoom_97 (by decide) ?_
          refine g_goto (tgt := 102) hk dX5_hasRoom_98 (by decide) ?_
          exact g_iret hk hR rfl (Or.inr (⟨hF, rfl, rfl⟩)) dX5_hasRoom_102
    replace hF := FE.neg hF c915
    by_cases c920 : (I 6).toInt = 2
    · refine g_tabIn (tgt := 129) (a := 2) hk dX5_hasRoom_19 c920 (by decide) (by decide) rfl (by decide) ?_
      replace hF := FE.pos hF c920
      refine g_iconst (v := 1) hk dX5_hasRoom_129 (by decide) ?_
      exact g_iret hk hR rfl (Or.inr (⟨hF, rfl, rfl⟩)) dX5_hasRoom_130
    replace hF := FE.neg hF c920
    by_cases c921 : (I 6).toInt = 3
    · refine g_tabIn (tgt := 103) (a := 3) hk dX5_hasRoom_19 c921 (by decide) (by decide) rfl (by decide) ?_
      replace hF := FE.pos hF c921
      refine g_aload_n hk dX5_hasRoom_103 rfl ?_
      refine gX_r3_0 hk hin5 (List.mem_cons_of_mem _ (List.mem_append_left _ (List.mem_of_getElem? (i := 0) rfl))) dX5_hasRoom_104 ?_
      refine gX_i1 (v := (I 1)) hk hin10 (List.mem_cons_of_mem _ (List.mem_append_left _ (List.mem_of_getElem? (i := 9) rfl))) dX5_hasRoom_107 rfl ?_
      refine g_iconst (v := 3) hk dX5_hasRoom_110 (by decide) ?_
      have b922l := Int32.le_toInt (I 1)
      have b922h := Int32.toInt_lt (I 1)
      refine g_icmp_eq (tgt := 123) (a := (I 1).toInt) (b := 3) hk dX5_hasRoom_111 (by decide) rfl rfl (fun c923 => ?_) (fun c923 => ?_)
      · skip
        replace hF := FE.pos hF c923
        refine g_iconst (v := 1) hk dX5_hasRoom_123 (by decide) ?_
        refine g_goto (tgt := 128) hk dX5_hasRoom_124 (by decide) ?_
        exact g_iret hk hR rfl (Or.inr (⟨hF, rfl, rfl⟩)) dX5_hasRoom_128
      · skip
        replace hF := FE.neg hF c923
        refine g_aload_n hk dX5_hasRoom_114 rfl ?_
        refine gX_i9 (v := (I 9)) hk hin5 (List.mem_cons_of_mem _ (List.mem_append_left _ (List.mem_of_getElem? (i := 12) rfl))) dX5_hasRoom_115 rfl ?_
        refine g_bipush (v := 16) hk dX5_hasRoom_118 (by decide) ?_
        have b924l := Int32.le_toInt (I 9)
        have b924h := Int32.toInt_lt (I 9)
        refine g_icmp_ge (tgt := 127) (a := (I 9).toInt) (b := 16) hk dX5_hasRoom_120 (by decide) rfl rfl (fun c925 => ?_) (fun c925 => ?_)
        · skip
          replace hF := FE.pos hF c925
          refine g_iconst (v := 0) hk dX5_hasRoom_127 (by decide) ?_
          exact g_iret hk hR rfl (Or.inl ⟨hF, rfl, rfl⟩) dX5_hasRoom_128
        · skip
          replace hF := FE.neg hF c925
          refine g_iconst (v := 1) hk dX5_hasRoom_123 (by decide) ?_
          refine g_goto (tgt := 128) hk dX5_hasRoom_124 (by decide) ?_
          exact g_iret hk hR rfl (Or.inr (⟨hF, rfl, rfl⟩)) dX5_hasRoom_128
    replace hF := FE.neg hF c921
    refine g_tabOut (tgt := 129) (a := (I 6).toInt) hk dX5_hasRoom_19 rfl (by omega) (by decide) ?_
    refine g_iconst (v := 1) hk dX5_hasRoom_129 (by decide) ?_
    exact g_iret hk hR rfl (Or.inr (⟨hF, rfl, rfl⟩)) dX5_hasRoom_130
  · skip
    replace hF := FE.neg hF c907
    refine g_iconst (v := 0) hk dX5_hasRoom_13 (by decide) ?_
    exact g_iret hk hR rfl (Or.inl ⟨hF, rfl, rfl⟩) dX5_hasRoom_14
noncomputable def fX5_beginTell (I : Nat → Int32) (A : Nat → Nat → Int32) : Int32 × (Nat → Int32) × (Nat → Nat → Int32) := f_lt (fX5_tellAtHand I A) fun y932 => if y932.toInt = 0 then (0, (upd (upd I 7 y932) 6 4), A) else if y932.toInt = 1 then (0, (upd (upd I 7 y932) 6 5), A) else if y932.toInt = 2 then (0, (upd (upd I 7 y932) 6 5), A) else if y932.toInt = 3 then (0, (upd (upd I 7 y932) 6 4), A) else if y932.toInt = 4 then (0, (upd (upd (upd I 7 y932) 6 1) 9 0), A) else if y932.toInt = 5 then (0, (upd (upd (upd I 7 y932) 6 2) 9 0), A) else (0, (upd (upd I 7 y932) 6 5), A)
def wo_k151_X5_beginTell : List Cond := [Cond.methodLink RX5 99 yX5_tellAtHand, Cond.instanceMethod yX5_tellAtHand, Cond.selects RX5 yX5_tellAtHand yX5_tellAtHand, Cond.initialized RX5, Cond.fieldLink RX5 141 "WarpDesk$Reader" "tell" "I", Cond.fieldLink RX5 75 "WarpDesk$Reader" "state" "I", Cond.fieldLink RX5 32 "WarpDesk$Reader" "told" "I"]
def wz_k151_X5_beginTell : List Cond := .code yX5_beginTell cX5_beginTell 1 none :: (wo_k151_X5_beginTell ++ (wsX50 ++ (wz_k133_X5_tellAtHand ++ ([] : List Cond))))
theorem zg_k151_X5_beginTell : ∀ w ∈ wz_k151_X5_beginTell, goodWord w = true := zg_cons rfl (zg_app (by decide +kernel) (zg_app zgU_wsX50 (zg_app zg_k133_X5_tellAtHand zg_nil)))
theorem zi_k151_X5_beginTell : ∀ w ∈ wz_k151_X5_beginTell, w ∈ lw_tbl := zi_cons zw_700 (zi_app (zi_cons zw_588 (zi_cons zw_590 (zi_cons zw_6 (zi_cons zw_105 (zi_cons zw_238 (zi_cons zw_237 (zi_cons zw_240 zi_nil))))))) (zi_app inX5 (zi_app zi_k133_X5_tellAtHand zi_nil)))
set_option maxHeartbeats 4000000 in
set_option maxRecDepth 100000 in
theorem k151_X5_beginTell (l : Launch) (D : va_G) (zt : Nat × Nat × Nat × (Nat → Nat) × (Nat → Nat)) (q : Nat → Nat) (d : Nat → ClassId) (I : Nat → Int32) (A : Nat → Nat → Int32) (hIv : IvX I A) : GM l D zt (tyX d) yX5_beginTell wz_k151_X5_beginTell ({ frames := 6, cells := 0, slots := 0, locals := 127 } : Room) [.ref (q 3)] (wX q d I A) (fun v _ w' => ∃ (I' : Nat → Int32) (A' : Nat → Nat → Int32), Md [6, 7, 9] I I' ∧ Md [] A A' ∧ IvX I' A' ∧ FE (fX5_beginTell I A) (0, I', A') ∧ v = none ∧ w' = wX q d I' A') 0 0 := by
  refine GM.of (cc := cX5_beginTell) (maxL := 1) (ret := none) (own := RX5) (lv := [(0, .ref (q 3))]) (by decide) rfl rfl (Nat.le_of_ble_eq_true rfl) rfl (fun κ sz hk hR hN => ?_)
  have hin5 : ∀ w ∈ u_ws RX5 TX5 13, w ∈ wz_k151_X5_beginTell := fun w h => (List.mem_cons_of_mem _ (List.mem_append_right _ (List.mem_append_left _ h)))
  have hF : FE (fX5_beginTell I A) (fX5_beginTell I A) := FE.rf
  refine g_aload_n hk dX5_beginTell_0 rfl ?_
  refine g_aload_n hk dX5_beginTell_1 rfl ?_
  refine g_callV (n := 0) hk (k133_X5_tellAtHand l D zt q d I A  hIv) (SP.same _) (fun _ h => h) (gi_V (List.mem_cons_of_mem _ (List.mem_append_left _ (List.mem_of_getElem? (i := 0) rfl))) (List.mem_cons_of_mem _ (List.mem_append_left _ (List.mem_of_getElem? (i := 1) rfl))) (List.mem_cons_of_mem _ (List.mem_append_left _ (List.mem_of_getElem? (i := 2) rfl))) (List.mem_cons_of_mem _ (List.mem_append_left _ (List.mem_of_getElem? (i := 3) rfl))) (gi_sub (fun w h => (List.mem_cons_of_mem _ (List.mem_append_right _ (List.mem_append_right _ (List.mem_append_left _ h))))) zg_k133_X5_tellAtHand)) rfl rfl rfl (by decide +kernel) ⟨Nat.le_of_ble_eq_true rfl, Nat.le_of_ble_eq_true rfl⟩ 3 rfl rfl rfl rfl (Nat.le_of_ble_eq_true rfl) ⟨Nat.le_of_ble_eq_true rfl, Nat.le_of_ble_eq_true rfl⟩ dX5_beginTell_2 (fun v ty' w' hp hk' => ?_)
  obtain ⟨y932, c933, c934, hC, rfl, rfl⟩ := hp
  replace hF := FE.lt hF (fe_s hC)
  show GW κ 1 0 0 (wX q d I A) 5 [(0, .ref (q 3))] [.int y932, .ref (q 3)]
  refine pX_i7 hk hin5 (List.mem_cons_of_mem _ (List.mem_append_left _ (List.mem_of_getElem? (i := 4) rfl))) dX5_beginTell_5 ?_
  refine g_aload_n hk dX5_beginTell_8 rfl ?_
  refine gX_i7 (v := y932) hk hin5 (List.mem_cons_of_mem _ (List.mem_append_left _ (List.mem_of_getElem? (i := 4) rfl))) dX5_beginTell_9 rfl ?_
  by_cases c935 : y932.toInt = 0
  · refine g_tabIn (tgt := 78) (a := 0) hk dX5_beginTell_12 c935 (by decide) (by decide) rfl (by decide) ?_
    replace hF := FE.pos hF c935
    refine g_aload_n hk dX5_beginTell_78 rfl ?_
    refine g_iconst (v := 4) hk dX5_beginTell_79 (by decide) ?_
    refine pX_i6 hk hin5 (List.mem_cons_of_mem _ (List.mem_append_left _ (List.mem_of_getElem? (i := 5) rfl))) dX5_beginTell_80 ?_
    refine g_goto (tgt := 91) hk dX5_beginTell_83 (by decide) ?_
    exact g_vret hk hR ⟨(upd (upd I 7 y932) 6 4), A, (show Md [6, 7, 9] I (upd (upd I 7 y932) 6 4) from (Md.up (Md.up Md.rf rfl) rfl)), (show Md [] A A from Md.rf), ⟨(IvX_f0 (I := I) (A := A) hIv), (IvX_f18 (I := I) (A := A) hIv), (IvX_f30 (I := I) (A := A) hIv), (IvX_f31 (I := I) (A := A) hIv), (IvX_a4 (I := I) (A := A) hIv), (IvX_a9 (I := I) (A := A) hIv), trivial⟩, hF, rfl, rfl⟩ dX5_beginTell_91
  replace hF := FE.neg hF c935
  by_cases c936 : y932.toInt = 1
  · refine g_tabIn (tgt := 86) (a := 1) hk dX5_beginTell_12 c936 (by decide) (by decide) rfl (by decide) ?_
    replace hF := FE.pos hF c936
    refine g_aload_n hk dX5_beginTell_86 rfl ?_
    refine g_iconst (v := 5) hk dX5_beginTell_87 (by decide) ?_
    refine pX_i6 hk hin5 (List.mem_cons_of_mem _ (List.mem_append_left _ (List.mem_of_getElem? (i := 5) rfl))) dX5_beginTell_88 ?_
    exact g_vret hk hR ⟨(upd (upd I 7 y932) 6 5), A, (show Md [6, 7, 9] I (upd (upd I 7 y932) 6 5) from (Md.up (Md.up Md.rf rfl) rfl)), (show Md [] A A from Md.rf), ⟨(IvX_f0 (I := I) (A := A) hIv), (IvX_f18 (I := I) (A := A) hIv), (IvX_f30 (I := I) (A := A) hIv), (IvX_f31 (I := I) (A := A) hIv), (IvX_a4 (I := I) (A := A) hIv), (IvX_a9 (I := I) (A := A) hIv), trivial⟩, hF, rfl, rfl⟩ dX5_beginTell_91
  replace hF := FE.neg hF c936
  by_cases c937 : y932.toInt = 2
  · refine g_tabIn (tgt := 86) (a := 2) hk dX5_beginTell_12 c937 (by decide) (by decide) rfl (by decide) ?_
    replace hF := FE.pos hF c937
    refine g_aload_n hk dX5_beginTell_86 rfl ?_
    refine g_iconst (v := 5) hk dX5_beginTell_87 (by decide) ?_
    refine pX_i6 hk hin5 (List.mem_cons_of_mem _ (List.mem_append_left _ (List.mem_of_getElem? (i := 5) rfl))) dX5_beginTell_88 ?_
    exact g_vret hk hR ⟨(upd (upd I 7 y932) 6 5), A, (show Md [6, 7, 9] I (upd (upd I 7 y932) 6 5) from (Md.up (Md.up Md.rf rfl) rfl)), (show Md [] A A from Md.rf), ⟨(IvX_f0 (I := I) (A := A) hIv), (IvX_f18 (I := I) (A := A) hIv), (IvX_f30 (I := I) (A := A) hIv), (IvX_f31 (I := I) (A := A) hIv), (IvX_a4 (I := I) (A := A) hIv), (IvX_a9 (I := I) (A := A) hIv), trivial⟩, hF, rfl, rfl⟩ dX5_beginTell_91
  replace hF := FE.neg hF c937
  by_cases c938 : y932.toInt = 3
  · refine g_tabIn (tgt := 78) (a := 3) hk dX5_beginTell_12 c938 (by decide) (by decide) rfl (by decide) ?_
    replace hF := FE.pos hF c938
    refine g_aload_n hk dX5_beginTell_78 rfl ?_
    refine g_iconst (v := 4) hk dX5_beginTell_79 (by decide) ?_
    refine pX_i6 hk hin5 (List.mem_cons_of_mem _ (List.mem_append_left _ (List.mem_of_getElem? (i := 5) rfl))) dX5_beginTell_80 ?_
    refine g_goto (tgt := 91) hk dX5_beginTell_83 (by decide) ?_
    exact g_vret hk hR ⟨(upd (upd I 7 y932) 6 4), A, (show Md [6, 7, 9] I (upd (upd I 7 y932) 6 4) from (Md.up (Md.up Md.rf rfl) rfl)), (show Md [] A A from Md.rf), ⟨(IvX_f0 (I := I) (A := A) hIv), (IvX_f18 (I := I) (A := A) hIv), (IvX_f30 (I := I) (A := A) hIv), (IvX_f31 (I := I) (A := A) hIv), (IvX_a4 (I := I) (A := A) hIv), (IvX_a9 (I := I) (A := A) hIv), trivial⟩, hF, rfl, rfl⟩ dX5_beginTell_91
  replace hF := FE.neg hF c938
  by_cases c939 : y932.toInt = 4
  · refine g_tabIn (tgt := 52) (a := 4) hk dX5_beginTell_12 c939 (by decide) (by decide) rfl (by decide) ?_
    replace hF := FE.pos hF c939
    refine g_aload_n hk dX5_beginTell_52 rfl ?_
    refine g_iconst (v := 1) hk dX5_beginTell_53 (by decide) ?_
    refine pX_i6 hk hin5 (List.mem_cons_of_mem _ (List.mem_append_left _ (List.mem_of_getElem? (i := 5) rfl))) dX5_beginTell_54 ?_
    refine g_aload_n hk dX5_beginTell_57 rfl ?_
    refine g_iconst (v := 0) hk dX5_beginTell_58 (by decide) ?_
    refine pX_i9 hk hin5 (List.mem_cons_of_mem _ (List.mem_append_left _ (List.mem_of_getElem? (i := 6) rfl))) dX5_beginTell_59 ?_
    refine g_goto (tgt := 91) hk dX5_beginTell_62 (by decide) ?_
    exact g_vret hk hR ⟨(upd (upd (upd I 7 y932) 6 1) 9 0), A, (show Md [6, 7, 9] I (upd (upd (upd I 7 y932) 6 1) 9 0) from (Md.up (Md.up (Md.up Md.rf rfl) rfl) rfl)), (show Md [] A A from Md.rf), ⟨(IvX_f0 (I := I) (A := A) hIv), (IvX_f18 (I := I) (A := A) hIv), (IvX_f30 (I := I) (A := A) hIv), (IvX_f31 (I := I) (A := A) hIv), (IvX_a4 (I := I) (A := A) hIv), (IvX_a9 (I := I) (A := A) hIv), trivial⟩, hF, rfl, rfl⟩ dX5_beginTell_91
  replace hF := FE.neg hF c939
  by_cases c940 : y932.toInt = 5
  · refine g_tabIn (tgt := 65) (a := 5) hk dX5_beginTell_12 c940 (by decide) (by decide) rfl (by decide) ?_
    replace hF := FE.pos hF c940
    refine g_aload_n hk dX5_beginTell_65 rfl ?_
    refine g_iconst (v := 2) hk dX5_beginTell_66 (by decide) ?_
    refine pX_i6 hk hin5 (List.mem_cons_of_mem _ (List.mem_append_left _ (List.mem_of_getElem? (i := 5) rfl))) dX5_beginTell_67 ?_
    refine g_aload_n hk dX5_beginTell_70 rfl ?_
    refine g_iconst (v := 0) hk dX5_beginTell_71 (by decide) ?_
    refine pX_i9 hk hin5 (List.mem_cons_of_mem _ (List.mem_append_left _ (List.mem_of_getElem? (i := 6) rfl))) dX5_beginTell_72 ?_
    refine g_goto (tgt := 91) hk dX5_beginTell_75 (by decide) ?_
    exact g_vret hk hR ⟨(upd (upd (upd I 7 y932) 6 2) 9 0), A, (show Md [6, 7, 9] I (upd (upd (upd I 7 y932) 6 2) 9 0) from (Md.up (Md.up (Md.up Md.rf rfl) rfl) rfl)), (show Md [] A A from Md.rf), ⟨(IvX_f0 (I := I) (A := A) hIv), (IvX_f18 (I := I) (A := A) hIv), (IvX_f30 (I := I) (A := A) hIv), (IvX_f31 (I := I) (A := A) hIv), (IvX_a4 (I := I) (A := A) hIv), (IvX_a9 (I := I) (A := A) hIv), trivial⟩, hF, rfl, rfl⟩ dX5_beginTell_91
  replace hF := FE.neg hF c940
  refine g_tabOut (tgt := 86) (a := y932.toInt) hk dX5_beginTell_12 rfl (by omega) (by decide) ?_
  refine g_aload_n hk dX5_beginTell_86 rfl ?_
  refine g_iconst (v := 5) hk dX5_beginTell_87 (by decide) ?_
  refine pX_i6 hk hin5 (List.mem_cons_of_mem _ (List.mem_append_left _ (List.mem_of_getElem? (i := 5) rfl))) dX5_beginTell_88 ?_
  exact g_vret hk hR ⟨(upd (upd I 7 y932) 6 5), A, (show Md [6, 7, 9] I (upd (upd I 7 y932) 6 5) from (Md.up (Md.up Md.rf rfl) rfl)), (show Md [] A A from Md.rf), ⟨(IvX_f0 (I := I) (A := A) hIv), (IvX_f18 (I := I) (A := A) hIv), (IvX_f30 (I := I) (A := A) hIv), (IvX_f31 (I := I) (A := A) hIv), (IvX_a4 (I := I) (A := A) hIv), (IvX_a9 (I := I) (A := A) hIv), trivial⟩, hF, rfl, rfl⟩ dX5_beginTell_91
noncomputable def fX4_has (I : Nat → Int32) (A : Nat → Nat → Int32) (z1 : Int32) : Int32 := if z1.toInt < 0 then 0 else if (I 16).toInt ≤ z1.toInt then 0 else if 5 ≤ z1.toInt then 0 else 1
def wo_k155_X4_has : List Cond := [Cond.fieldLink RX4 18 "WarpDesk$Queries" "size" "I"]
def wz_k155_X4_has : List Cond := .code yX4_has cX4_has 2 (some .boolean) :: (wo_k155_X4_has ++ (wsX40 ++ ([] : List Cond)))
theorem zg_k155_X4_has : ∀ w ∈ wz_k155_X4_has, goodWord w = true := zg_cons rfl (zg_app (by decide +kernel) (zg_app zgU_wsX40 zg_nil))
theorem zi_k155_X4_has : ∀ w ∈ wz_k155_X4_has, w ∈ lw_tbl := zi_cons zw_749 (zi_app (zi_cons zw_219 zi_nil) (zi_app inX4 zi_nil))
set_option maxHeartbeats 4000000 in
set_option maxRecDepth 100000 in
theorem k155_X4_has (l : Launch) (D : va_G) (zt : Nat × Nat × Nat × (Nat → Nat) × (Nat → Nat)) (q : Nat → Nat) (d : Nat → ClassId) (I : Nat → Int32) (A : Nat → Nat → Int32) (z1 : Int32) (hIv : IvX I A) : GM l D zt (tyX d) yX4_has wz_k155_X4_has ({ frames := 0, cells := 0, slots := 0, locals := 0 } : Room) [.ref (q 8), .int z1] (wX q d I A) (fun v _ w' => (FE (fX4_has I A z1) (0) ∧ v = some (.int 0) ∧ w' = wX q d I A) ∨ ((¬ (z1.toInt < 0)) ∧ (¬ (5 ≤ z1.toInt)) ∧ (0 ≤ z1.toInt) ∧ (z1.toInt ≤ 4) ∧ FE (fX4_has I A z1) (1) ∧ v = some (.int 1) ∧ w' = wX q d I A)) 0 0 := by
  refine GM.of (cc := cX4_has) (maxL := 2) (ret := (some .boolean)) (own := RX4) (lv := [(0, .ref (q 8)), (1, .int z1)]) (by decide) rfl rfl (Nat.le_of_ble_eq_true rfl) rfl (fun κ sz hk hR hN => ?_)
  have hin4 : ∀ w ∈ u_ws RX4 TX4 3, w ∈ wz_k155_X4_has := fun w h => (List.mem_cons_of_mem _ (List.mem_append_right _ (List.mem_append_left _ h)))
  have hF : FE (fX4_has I A z1) (fX4_has I A z1) := FE.rf
  refine g_iload_n hk dX4_has_0 rfl ?_
  have b952l := Int32.le_toInt z1
  have b952h := Int32.toInt_lt z1
  refine g_if_lt (tgt := 21) (a := z1.toInt) hk dX4_has_1 (by decide) rfl (fun c953 => ?_) (fun c953 => ?_)
  · skip
    replace hF := FE.pos hF c953
    refine g_iconst (v := 0) hk dX4_has_21 (by decide) ?_
    exact g_iret hk hR rfl (Or.inl ⟨hF, rfl, rfl⟩) dX4_has_22
  · skip
    replace hF := FE.neg hF c953
    refine g_iload_n hk dX4_has_4 rfl ?_
    refine g_aload_n hk dX4_has_5 rfl ?_
    refine gX_i16 (v := (I 16)) hk hin4 (List.mem_cons_of_mem _ (List.mem_append_left _ (List.mem_of_getElem? (i := 0) rfl))) dX4_has_6 rfl ?_
    have b954l := Int32.le_toInt (I 16)
    have b954h := Int32.toInt_lt (I 16)
    refine g_icmp_ge (tgt := 21) (a := z1.toInt) (b := (I 16).toInt) hk dX4_has_9 (by decide) rfl rfl (fun c955 => ?_) (fun c955 => ?_)
    · skip
      replace hF := FE.pos hF c955
      refine g_iconst (v := 0) hk dX4_has_21 (by decide) ?_
      exact g_iret hk hR rfl (Or.inl ⟨hF, rfl, rfl⟩) dX4_has_22
    · skip
      replace hF := FE.neg hF c955
      refine g_iload_n hk dX4_has_12 rfl ?_
      refine g_iconst (v := 5) hk dX4_has_13 (by decide) ?_
      refine g_icmp_ge (tgt := 21) (a := z1.toInt) (b := 5) hk dX4_has_14 (by decide) rfl rfl (fun c956 => ?_) (fun c956 => ?_)
      · skip
        replace hF := FE.pos hF c956
        refine g_iconst (v := 0) hk dX4_has_21 (by decide) ?_
        exact g_iret hk hR rfl (Or.inl ⟨hF, rfl, rfl⟩) dX4_has_22
      · skip
        replace hF := FE.neg hF c956
        refine g_iconst (v := 1) hk dX4_has_17 (by decide) ?_
        refine g_goto (tgt := 22) hk dX4_has_18 (by decide) ?_
        exact g_iret hk hR rfl (Or.inr (⟨c953, c956, (by omega), (by omega), hF, rfl, rfl⟩)) dX4_has_22
noncomputable def fX4_append (I : Nat → Int32) (A : Nat → Nat → Int32) (z1 : Int32) : Int32 × (Nat → Int32) × (Nat → Nat → Int32) := f_lt ((I 16) - (1 : Int32)) fun y951 => if fX4_has I A y951 = 0 then (0, I, A) else if 16 ≤ (A 4 y951.toNatClampNeg).toInt then (0, I, A) else f_lt (y951 * (16 : Int32)) fun y965 => f_lt (y965 + (A 4 y951.toNatClampNeg)) fun y966 => f_lt ((A 4 y951.toNatClampNeg) + (1 : Int32)) fun y967 => (0, I, (up3 (up3 A 3 (y966.toNatClampNeg) z1) 4 (y951.toNatClampNeg) y967))
def wo_k154_X4_append : List Cond := [Cond.fieldLink RX4 18 "WarpDesk$Queries" "size" "I", Cond.methodLink RX4 22 yX4_has, Cond.instanceMethod yX4_has, Cond.selects RX4 yX4_has yX4_has, Cond.initialized RX4, Cond.fieldLink RX4 15 "WarpDesk$Queries" "lengths" "[I", Cond.fieldLink RX4 9 "WarpDesk$Queries" "readings" "[I"]
def wz_k154_X4_append : List Cond := .code yX4_append cX4_append 3 none :: (wo_k154_X4_append ++ (wsX40 ++ (wz_k155_X4_has ++ ([] : List Cond))))
theorem zg_k154_X4_append : ∀ w ∈ wz_k154_X4_append, goodWord w = true := zg_cons rfl (zg_app (by decide +kernel) (zg_app zgU_wsX40 (zg_app zg_k155_X4_has zg_nil)))
theorem zi_k154_X4_append : ∀ w ∈ wz_k154_X4_append, w ∈ lw_tbl := zi_cons zw_745 (zi_app (zi_cons zw_219 (zi_cons zw_746 (zi_cons zw_747 (zi_cons zw_748 (zi_cons zw_108 (zi_cons zw_218 (zi_cons zw_217 zi_nil))))))) (zi_app inX4 (zi_app zi_k155_X4_has zi_nil)))
set_option maxHeartbeats 4000000 in
set_option maxRecDepth 100000 in
theorem k154_X4_append (l : Launch) (D : va_G) (zt : Nat × Nat × Nat × (Nat → Nat) × (Nat → Nat)) (q : Nat → Nat) (d : Nat → ClassId) (I : Nat → Int32) (A : Nat → Nat → Int32) (z1 : Int32) (hIv : IvX I A) : GM l D zt (tyX d) yX4_append wz_k154_X4_append ({ frames := 1, cells := 0, slots := 0, locals := 21 } : Room) [.ref (q 8), .int z1] (wX q d I A) (fun v _ w' => ∃ (I' : Nat → Int32) (A' : Nat → Nat → Int32), Md [] I I' ∧ Md [3, 4] A A' ∧ IvX I' A' ∧ FE (fX4_append I A z1) (0, I', A') ∧ v = none ∧ w' = wX q d I' A') 0 0 := by
  refine GM.of (cc := cX4_append) (maxL := 3) (ret := none) (own := RX4) (lv := [(0, .ref (q 8)), (1, .int z1)]) (by decide) rfl rfl (Nat.le_of_ble_eq_true rfl) rfl (fun κ sz hk hR hN => ?_)
  have hin4 : ∀ w ∈ u_ws RX4 TX4 3, w ∈ wz_k154_X4_append := fun w h => (List.mem_cons_of_mem _ (List.mem_append_right _ (List.mem_append_left _ h)))
  have hF : FE (fX4_append I A z1) (fX4_append I A z1) := FE.rf
  refine g_aload_n hk dX4_append_0 rfl ?_
  refine gX_i16 (v := (I 16)) hk hin4 (List.mem_cons_of_mem _ (List.mem_append_left _ (List.mem_of_getElem? (i := 0) rfl))) dX4_append_1 rfl ?_
  refine g_iconst (v := 1) hk dX4_append_4 (by decide) ?_
  have b950l := Int32.le_toInt (I 16)
  have b950h := Int32.toInt_lt (I 16)
  refine g_isub hk dX4_append_5 ?_
  refine g_topi (fun y951 ey951 => ?_)
  replace hF := FE.lt hF ey951
  have hy951 := i32_sub0 ey951
  refine g_istore_n (lv' := [(2, .int y951), (0, .ref (q 8)), (1, .int z1)]) hk dX4_append_6 (by decide) rfl ?_
  refine g_aload_n hk dX4_append_7 rfl ?_
  refine g_iload_n hk dX4_append_8 rfl ?_
  refine g_callV (n := 1) hk (k155_X4_has l D zt q d I A y951 hIv) (SP.same _) (fun _ h => h) (gi_V (List.mem_cons_of_mem _ (List.mem_append_left _ (List.mem_of_getElem? (i := 1) rfl))) (List.mem_cons_of_mem _ (List.mem_append_left _ (List.mem_of_getElem? (i := 2) rfl))) (List.mem_cons_of_mem _ (List.mem_append_left _ (List.mem_of_getElem? (i := 3) rfl))) (List.mem_cons_of_mem _ (List.mem_append_left _ (List.mem_of_getElem? (i := 4) rfl))) (gi_sub (fun w h => (List.mem_cons_of_mem _ (List.mem_append_right _ (List.mem_append_right _ (List.mem_append_left _ h))))) zg_k155_X4_has)) rfl rfl rfl (by decide +kernel) ⟨Nat.le_of_ble_eq_true rfl, Nat.le_of_ble_eq_true rfl⟩ 8 rfl rfl rfl rfl (Nat.le_of_ble_eq_true rfl) ⟨Nat.le_of_ble_eq_true rfl, Nat.le_of_ble_eq_true rfl⟩ dX4_append_9 (fun v ty' w' hp hk' => ?_)
  rcases hp with ⟨hC, rfl, rfl⟩ | ⟨c958, c959, c960, c961, hC, rfl, rfl⟩
  · skip
    replace hF := FE.pos hF hC
    show GW κ 3 0 0 (wX q d I A) 12 [(2, .int y951), (0, .ref (q 8)), (1, .int z1)] [.int 0]
    refine g_if_eq (tgt := 53) (a := 0) hk dX4_append_12 (by decide) rfl (fun _ => ?_) (fun z9 => absurd (show (0 : Int) = (0 : Int) from by decide) z9)
    exact g_vret hk hR ⟨I, A, (show Md [] I I from Md.rf), (show Md [3, 4] A A from Md.rf), hIv, hF, rfl, rfl⟩ dX4_append_53
  · skip
    replace hF := FE.neg hF (fe_ne hC (by decide))
    show GW κ 3 0 0 (wX q d I A) 12 [(2, .int y951), (0, .ref (q 8)), (1, .int z1)] [.int 1]
    refine g_if_eq (tgt := 53) (a := 1) hk dX4_append_12 (by decide) rfl (fun z9 => absurd z9 (show ¬ ((1 : Int) = (0 : Int)) from by decide)) (fun _ => ?_)
    refine g_aload_n hk dX4_append_15 rfl ?_
    refine gX_r8_1 hk hin4 (List.mem_cons_of_mem _ (List.mem_append_left _ (List.mem_of_getElem? (i := 5) rfl))) dX4_append_16 ?_
    refine g_iload_n hk dX4_append_19 rfl ?_
    refine lX_4 (v := (A 4 y951.toNatClampNeg)) hk (vp_in_iff.mpr ⟨by omega, by omega⟩) rfl dX4_append_20 ?_
    have f963 := IvX_a4 hIv (y951.toNatClampNeg)
    refine g_bipush (v := 16) hk dX4_append_21 (by decide) ?_
    refine g_icmp_ge (tgt := 53) (a := (A 4 y951.toNatClampNeg).toInt) (b := 16) hk dX4_append_23 (by decide) rfl rfl (fun c964 => ?_) (fun c964 => ?_)
    · skip
      replace hF := FE.pos hF c964
      exact g_vret hk hR ⟨I, A, (show Md [] I I from Md.rf), (show Md [3, 4] A A from Md.rf), hIv, hF, rfl, rfl⟩ dX4_append_53
    · skip
      replace hF := FE.neg hF c964
      refine g_aload_n hk dX4_append_26 rfl ?_
      refine gX_r8_0 hk hin4 (List.mem_cons_of_mem _ (List.mem_append_left _ (List.mem_of_getElem? (i := 6) rfl))) dX4_append_27 ?_
      refine g_iload_n hk dX4_append_30 rfl ?_
      refine g_bipush (v := 16) hk dX4_append_31 (by decide) ?_
      refine g_imul hk dX4_append_33 ?_
      refine g_topi (fun y965 ey965 => ?_)
      replace hF := FE.lt hF ey965
      have hy965 : y965.toInt = y951.toInt * 16 := i32_mul ey965 rfl rfl (by omega) (by omega)
      refine g_aload_n hk dX4_append_34 rfl ?_
      refine gX_r8_1 hk hin4 (List.mem_cons_of_mem _ (List.mem_append_left _ (List.mem_of_getElem? (i := 5) rfl))) dX4_append_35 ?_
      refine g_iload_n hk dX4_append_38 rfl ?_
      refine lX_4 (v := (A 4 y951.toNatClampNeg)) hk (vp_in_iff.mpr ⟨by omega, by omega⟩) rfl dX4_append_39 ?_
      refine g_iadd hk dX4_append_40 ?_
      refine g_topi (fun y966 ey966 => ?_)
      replace hF := FE.lt hF ey966
      have hy966 : y966.toInt = y965.toInt + (A 4 y951.toNatClampNeg).toInt := i32_add ey966 rfl rfl (by omega) (by omega)
      refine g_iload_n hk dX4_append_41 rfl ?_
      refine sX_3 (j := y966.toNatClampNeg) hk (vp_in_iff.mpr ⟨by omega, by omega⟩) rfl dX4_append_42 ?_
      refine g_aload_n hk dX4_append_43 rfl ?_
      refine gX_r8_1 hk hin4 (List.mem_cons_of_mem _ (List.mem_append_left _ (List.mem_of_getElem? (i := 5) rfl))) dX4_append_44 ?_
      refine g_iload_n hk dX4_append_47 rfl ?_
      refine g_dup2 hk dX4_append_48 rfl rfl ?_
      refine lX_4 (v := (A 4 y951.toNatClampNeg)) hk (vp_in_iff.mpr ⟨by omega, by omega⟩) rfl dX4_append_49 ?_
      refine g_iconst (v := 1) hk dX4_append_50 (by decide) ?_
      refine g_iadd hk dX4_append_51 ?_
      refine g_topi (fun y967 ey967 => ?_)
      replace hF := FE.lt hF ey967
      have hy967 : y967.toInt = (A 4 y951.toNatClampNeg).toInt + 1 := i32_add ey967 rfl rfl (by omega) (by omega)
      refine sX_4 (j := y951.toNatClampNeg) hk (vp_in_iff.mpr ⟨by omega, by omega⟩) rfl dX4_append_52 ?_
      have hA968 : ∀ j, 0 ≤ ((up3 (up3 A 3 (y966.toNatClampNeg) z1) 4 (y951.toNatClampNeg) y967) 4 j).toInt ∧ ((up3 (up3 A 3 (y966.toNatClampNeg) z1) 4 (y951.toNatClampNeg) y967) 4 j).toInt ≤ 16 := ai_st ((IvX_a4 hIv)) ⟨by omega, by omega⟩
      exact g_vret hk hR ⟨I, (up3 (up3 A 3 (y966.toNatClampNeg) z1) 4 (y951.toNatClampNeg) y967), (show Md [] I I from Md.rf), (show Md [3, 4] A (up3 (up3 A 3 (y966.toNatClampNeg) z1) 4 (y951.toNatClampNeg) y967) from (Md.up3 (Md.up3 Md.rf rfl) rfl)), ⟨(IvX_f0 (I := I) (A := A) hIv), (IvX_f18 (I := I) (A := A) hIv), (IvX_f30 (I := I) (A := A) hIv), (IvX_f31 (I := I) (A := A) hIv), hA968, (IvX_a9 (I := I) (A := A) hIv), trivial⟩, hF, rfl, rfl⟩ dX4_append_53
noncomputable def fX8_append (I : Nat → Int32) (A : Nat → Nat → Int32) (z1 : Int32) : Int32 × (Nat → Int32) × (Nat → Nat → Int32) := if (I 14).toInt < 0 then (0, I, A) else if 160 ≤ (I 14).toInt then (0, I, A) else f_lt ((I 14) + (1 : Int32)) fun y976 => (0, (upd I 14 y976), (up3 A 1 ((I 14).toNatClampNeg) z1))
def wo_k156_X8_append : List Cond := [Cond.fieldLink RX8 22 "WarpDesk$Stand" "size" "I", Cond.fieldLink RX8 9 "WarpDesk$Stand" "places" "[I"]
def wz_k156_X8_append : List Cond := .code yX8_append cX8_append 2 none :: (wo_k156_X8_append ++ (wsX80 ++ ([] : List Cond)))
theorem zg_k156_X8_append : ∀ w ∈ wz_k156_X8_append, goodWord w = true := zg_cons rfl (zg_app (by decide +kernel) (zg_app zgU_wsX80 zg_nil))
theorem zi_k156_X8_append : ∀ w ∈ wz_k156_X8_append, w ∈ lw_tbl := zi_cons zw_741 (zi_app (zi_cons zw_195 (zi_cons zw_194 zi_nil)) (zi_app inX8 zi_nil))
set_option maxHeartbeats 4000000 in
set_option maxRecDepth 100000 in
theorem k156_X8_append (l : Launch) (D : va_G) (zt : Nat × Nat × Nat × (Nat → Nat) × (Nat → Nat)) (q : Nat → Nat) (d : Nat → ClassId) (I : Nat → Int32) (A : Nat → Nat → Int32) (z1 : Int32) (hIv : IvX I A) : GM l D zt (tyX d) yX8_append wz_k156_X8_append ({ frames := 0, cells := 0, slots := 0, locals := 0 } : Room) [.ref (q 4), .int z1] (wX q d I A) (fun v _ w' => ∃ (I' : Nat → Int32) (A' : Nat → Nat → Int32), Md [14] I I' ∧ Md [1] A A' ∧ IvX I' A' ∧ FE (fX8_append I A z1) (0, I', A') ∧ v = none ∧ w' = wX q d I' A') 0 0 := by
  refine GM.of (cc := cX8_append) (maxL := 2) (ret := none) (own := RX8) (lv := [(0, .ref (q 4)), (1, .int z1)]) (by decide) rfl rfl (Nat.le_of_ble_eq_true rfl) rfl (fun κ sz hk hR hN => ?_)
  have hin8 : ∀ w ∈ u_ws RX8 TX8 4, w ∈ wz_k156_X8_append := fun w h => (List.mem_cons_of_mem _ (List.mem_append_right _ (List.mem_append_left _ h)))
  have hF : FE (fX8_append I A z1) (fX8_append I A z1) := FE.rf
  refine g_aload_n hk dX8_append_0 rfl ?_
  refine gX_i14 (v := (I 14)) hk hin8 (List.mem_cons_of_mem _ (List.mem_append_left _ (List.mem_of_getElem? (i := 0) rfl))) dX8_append_1 rfl ?_
  have b973l := Int32.le_toInt (I 14)
  have b973h := Int32.toInt_lt (I 14)
  refine g_if_lt (tgt := 39) (a := (I 14).toInt) hk dX8_append_4 (by decide) rfl (fun c974 => ?_) (fun c974 => ?_)
  · skip
    replace hF := FE.pos hF c974
    exact g_vret hk hR ⟨I, A, (show Md [14] I I from Md.rf), (show Md [1] A A from Md.rf), hIv, hF, rfl, rfl⟩ dX8_append_39
  · skip
    replace hF := FE.neg hF c974
    refine g_aload_n hk dX8_append_7 rfl ?_
    refine gX_i14 (v := (I 14)) hk hin8 (List.mem_cons_of_mem _ (List.mem_append_left _ (List.mem_of_getElem? (i := 0) rfl))) dX8_append_8 rfl ?_
    refine g_aload_n hk dX8_append_11 rfl ?_
    refine gX_r4_0 hk hin8 (List.mem_cons_of_mem _ (List.mem_append_left _ (List.mem_of_getElem? (i := 1) rfl))) dX8_append_12 ?_
    refine nX_1 hk dX8_append_15 ?_
    refine g_icmp_ge (tgt := 39) (a := (I 14).toInt) (b := 160) hk dX8_append_16 (by decide) rfl rfl (fun c975 => ?_) (fun c975 => ?_)
    · skip
      replace hF := FE.pos hF c975
      exact g_vret hk hR ⟨I, A, (show Md [14] I I from Md.rf), (show Md [1] A A from Md.rf), hIv, hF, rfl, rfl⟩ dX8_append_39
    · skip
      replace hF := FE.neg hF c975
      refine g_aload_n hk dX8_append_19 rfl ?_
      refine gX_r4_0 hk hin8 (List.mem_cons_of_mem _ (List.mem_append_left _ (List.mem_of_getElem? (i := 1) rfl))) dX8_append_20 ?_
      refine g_aload_n hk dX8_append_23 rfl ?_
      refine gX_i14 (v := (I 14)) hk hin8 (List.mem_cons_of_mem _ (List.mem_append_left _ (List.mem_of_getElem? (i := 0) rfl))) dX8_append_24 rfl ?_
      refine g_iload_n hk dX8_append_27 rfl ?_
      refine sX_1 (j := (I 14).toNatClampNeg) hk (vp_in_iff.mpr ⟨by omega, by omega⟩) rfl dX8_append_28 ?_
      refine g_aload_n hk dX8_append_29 rfl ?_
      refine g_dup hk dX8_append_30 rfl ?_
      refine gX_i14 (v := (I 14)) hk hin8 (List.mem_cons_of_mem _ (List.mem_append_left _ (List.mem_of_getElem? (i := 0) rfl))) dX8_append_31 rfl ?_
      refine g_iconst (v := 1) hk dX8_append_34 (by decide) ?_
      refine g_iadd hk dX8_append_35 ?_
      refine g_topi (fun y976 ey976 => ?_)
      replace hF := FE.lt hF ey976
      have hy976 : y976.toInt = (I 14).toInt + 1 := i32_add ey976 rfl rfl (by omega) (by omega)
      refine pX_i14 hk hin8 (List.mem_cons_of_mem _ (List.mem_append_left _ (List.mem_of_getElem? (i := 0) rfl))) dX8_append_36 ?_
      exact g_vret hk hR ⟨(upd I 14 y976), (up3 A 1 ((I 14).toNatClampNeg) z1), (show Md [14] I (upd I 14 y976) from (Md.up Md.rf rfl)), (show Md [1] A (up3 A 1 ((I 14).toNatClampNeg) z1) from (Md.up3 Md.rf rfl)), ⟨(IvX_f0 (I := I) (A := A) hIv), (IvX_f18 (I := I) (A := A) hIv), (IvX_f30 (I := I) (A := A) hIv), (IvX_f31 (I := I) (A := A) hIv), (IvX_a4 (I := I) (A := A) hIv), (IvX_a9 (I := I) (A := A) hIv), trivial⟩, hF, rfl, rfl⟩ dX8_append_39
noncomputable def fX5_keepInRow (I : Nat → Int32) (A : Nat → Nat → Int32) (z1 : Int32) : Int32 × (Nat → Int32) × (Nat → Nat → Int32) := if (I 6).toInt ≠ 1 then f_bdX (fX4_append I A z1) fun _ I970 A970 => f_lt ((I 9) + (1 : Int32)) fun y972 => (0, (upd (upd I970 9 y972) 8 0), A970) else f_bdX (fX8_append I A z1) fun _ I978 A978 => f_lt ((I 9) + (1 : Int32)) fun y980 => (0, (upd (upd I978 9 y980) 8 0), A978)
def wo_k153_X5_keepInRow : List Cond := [Cond.fieldLink RX5 75 "WarpDesk$Reader" "state" "I", Cond.fieldLink RX5 21 "WarpDesk$Reader" "queries" "LWarpDesk$Queries;", Cond.methodLink RX5 202 yX4_append, Cond.instanceMethod yX4_append, Cond.selects RX4 yX4_append yX4_append, Cond.initialized RX4, Cond.fieldLink RX5 32 "WarpDesk$Reader" "told" "I", Cond.fieldLink RX5 87 "WarpDesk$Reader" "isNegative" "Z", Cond.fieldLink RX5 12 "WarpDesk$Reader" "draft" "LWarpDesk$Stand;", Cond.methodLink RX5 199 yX8_append, Cond.instanceMethod yX8_append, Cond.selects RX8 yX8_append yX8_append, Cond.initialized RX8]
def wz_k153_X5_keepInRow : List Cond := .code yX5_keepInRow cX5_keepInRow 2 none :: (wo_k153_X5_keepInRow ++ (wsX50 ++ (wz_k154_X4_append ++ (wz_k156_X8_append ++ ([] : List Cond)))))
theorem zg_k153_X5_keepInRow : ∀ w ∈ wz_k153_X5_keepInRow, goodWord w = true := zg_cons rfl (zg_app (by decide +kernel) (zg_app zgU_wsX50 (zg_app zg_k154_X4_append (zg_app zg_k156_X8_append zg_nil))))
theorem zi_k153_X5_keepInRow : ∀ w ∈ wz_k153_X5_keepInRow, w ∈ lw_tbl := zi_cons zw_737 (zi_app (zi_cons zw_237 (zi_cons zw_233 (zi_cons zw_742 (zi_cons zw_743 (zi_cons zw_744 (zi_cons zw_108 (zi_cons zw_240 (zi_cons zw_239 (zi_cons zw_231 (zi_cons zw_738 (zi_cons zw_739 (zi_cons zw_740 (zi_cons zw_106 zi_nil))))))))))))) (zi_app inX5 (zi_app zi_k154_X4_append (zi_app zi_k156_X8_append zi_nil))))
set_option maxHeartbeats 4000000 in
set_option maxRecDepth 100000 in
theorem k153_X5_keepInRow (l : Launch) (D : va_G) (zt : Nat × Nat × Nat × (Nat → Nat) × (Nat → Nat)) (q : Nat → Nat) (d : Nat → ClassId) (I : Nat → Int32) (A : Nat → Nat → Int32) (z1 : Int32) (hIv : IvX I A) : GM l D zt (tyX d) yX5_keepInRow wz_k153_X5_keepInRow ({ frames := 2, cells := 0, slots := 0, locals := 43 } : Room) [.ref (q 3), .int z1] (wX q d I A) (fun v _ w' => ∃ (I' : Nat → Int32) (A' : Nat → Nat → Int32), Md [8, 9, 14] I I' ∧ Md [1, 3, 4] A A' ∧ IvX I' A' ∧ FE (fX5_keepInRow I A z1) (0, I', A') ∧ v = none ∧ w' = wX q d I' A') 0 0 := by
  refine GM.of (cc := cX5_keepInRow) (maxL := 2) (ret := none) (own := RX5) (lv := [(0, .ref (q 3)), (1, .int z1)]) (by decide) rfl rfl (Nat.le_of_ble_eq_true rfl) rfl (fun κ sz hk hR hN => ?_)
  have hin5 : ∀ w ∈ u_ws RX5 TX5 13, w ∈ wz_k153_X5_keepInRow := fun w h => (List.mem_cons_of_mem _ (List.mem_append_right _ (List.mem_append_left _ h)))
  have hF : FE (fX5_keepInRow I A z1) (fX5_keepInRow I A z1) := FE.rf
  refine g_aload_n hk dX5_keepInRow_0 rfl ?_
  refine gX_i6 (v := (I 6)) hk hin5 (List.mem_cons_of_mem _ (List.mem_append_left _ (List.mem_of_getElem? (i := 0) rfl))) dX5_keepInRow_1 rfl ?_
  refine g_iconst (v := 1) hk dX5_keepInRow_4 (by decide) ?_
  have b948l := Int32.le_toInt (I 6)
  have b948h := Int32.toInt_lt (I 6)
  refine g_icmp_ne (tgt := 19) (a := (I 6).toInt) (b := 1) hk dX5_keepInRow_5 (by decide) rfl rfl (fun c949 => ?_) (fun c949 => ?_)
  · skip
    replace hF := FE.pos hF c949
    refine g_aload_n hk dX5_keepInRow_19 rfl ?_
    refine gX_r3_2 hk hin5 (List.mem_cons_of_mem _ (List.mem_append_left _ (List.mem_of_getElem? (i := 1) rfl))) dX5_keepInRow_20 ?_
    refine g_iload_n hk dX5_keepInRow_23 rfl ?_
    refine g_callV (n := 1) hk (k154_X4_append l D zt q d I A z1 hIv) (SP.same _) (fun _ h => h) (gi_V (List.mem_cons_of_mem _ (List.mem_append_left _ (List.mem_of_getElem? (i := 2) rfl))) (List.mem_cons_of_mem _ (List.mem_append_left _ (List.mem_of_getElem? (i := 3) rfl))) (List.mem_cons_of_mem _ (List.mem_append_left _ (List.mem_of_getElem? (i := 4) rfl))) (List.mem_cons_of_mem _ (List.mem_append_left _ (List.mem_of_getElem? (i := 5) rfl))) (gi_sub (fun w h => (List.mem_cons_of_mem _ (List.mem_append_right _ (List.mem_append_right _ (List.mem_append_left _ h))))) zg_k154_X4_append)) rfl rfl rfl (by decide +kernel) ⟨Nat.le_of_ble_eq_true rfl, Nat.le_of_ble_eq_true rfl⟩ 8 rfl rfl rfl rfl (Nat.le_of_ble_eq_true rfl) ⟨Nat.le_of_ble_eq_true rfl, Nat.le_of_ble_eq_true rfl⟩ dX5_keepInRow_24 (fun v ty' w' hp hk' => ?_)
    obtain ⟨I970, A970, hI970, hA970, hV970, hC, rfl, rfl⟩ := hp
    replace hF := FE.bdX hF hC
    show GW κ 2 0 0 (wX q d I970 A970) 27 [(0, .ref (q 3)), (1, .int z1)] []
    refine g_aload_n hk dX5_keepInRow_27 rfl ?_
    refine g_dup hk dX5_keepInRow_28 rfl ?_
    refine gX_i9 (v := (I 9)) hk hin5 (List.mem_cons_of_mem _ (List.mem_append_left _ (List.mem_of_getElem? (i := 6) rfl))) dX5_keepInRow_29 (hI970 9 rfl) ?_
    refine g_iconst (v := 1) hk dX5_keepInRow_32 (by decide) ?_
    have b971l := Int32.le_toInt (I 9)
    have b971h := Int32.toInt_lt (I 9)
    refine g_iadd hk dX5_keepInRow_33 ?_
    refine g_topi (fun y972 ey972 => ?_)
    replace hF := FE.lt hF ey972
    refine pX_i9 hk hin5 (List.mem_cons_of_mem _ (List.mem_append_left _ (List.mem_of_getElem? (i := 6) rfl))) dX5_keepInRow_34 ?_
    refine g_aload_n hk dX5_keepInRow_37 rfl ?_
    refine g_iconst (v := 0) hk dX5_keepInRow_38 (by decide) ?_
    refine pX_i8 hk hin5 (List.mem_cons_of_mem _ (List.mem_append_left _ (List.mem_of_getElem? (i := 7) rfl))) ⟨rfl, rfl⟩ dX5_keepInRow_39 ?_
    exact g_vret hk hR ⟨(upd (upd I970 9 y972) 8 0), A970, (show Md [8, 9, 14] I (upd (upd I970 9 y972) 8 0) from (Md.up (Md.up (Md.tr Md.rf hI970 rfl) rfl) rfl)), (show Md [1, 3, 4] A A970 from (Md.tr Md.rf hA970 rfl)), ⟨(IvX_f0 (I := I970) (A := A970) hV970), (IvX_f18 (I := I970) (A := A970) hV970), (IvX_f30 (I := I970) (A := A970) hV970), (IvX_f31 (I := I970) (A := A970) hV970), (IvX_a4 (I := I970) (A := A970) hV970), (IvX_a9 (I := I970) (A := A970) hV970), trivial⟩, hF, rfl, rfl⟩ dX5_keepInRow_42
  · skip
    replace hF := FE.neg hF c949
    refine g_aload_n hk dX5_keepInRow_8 rfl ?_
    refine gX_r3_1 hk hin5 (List.mem_cons_of_mem _ (List.mem_append_left _ (List.mem_of_getElem? (i := 8) rfl))) dX5_keepInRow_9 ?_
    refine g_iload_n hk dX5_keepInRow_12 rfl ?_
    refine g_callV (n := 1) hk (k156_X8_append l D zt q d I A z1 hIv) (SP.same _) (fun _ h => h) (gi_V (List.mem_cons_of_mem _ (List.mem_append_left _ (List.mem_of_getElem? (i := 9) rfl))) (List.mem_cons_of_mem _ (List.mem_append_left _ (List.mem_of_getElem? (i := 10) rfl))) (List.mem_cons_of_mem _ (List.mem_append_left _ (List.mem_of_getElem? (i := 11) rfl))) (List.mem_cons_of_mem _ (List.mem_append_left _ (List.mem_of_getElem? (i := 12) rfl))) (gi_sub (fun w h => (List.mem_cons_of_mem _ (List.mem_append_right _ (List.mem_append_right _ (List.mem_append_right _ (List.mem_append_left _ h)))))) zg_k156_X8_append)) rfl rfl rfl (by decide +kernel) ⟨Nat.le_of_ble_eq_true rfl, Nat.le_of_ble_eq_true rfl⟩ 4 rfl rfl rfl rfl (Nat.le_of_ble_eq_true rfl) ⟨Nat.le_of_ble_eq_true rfl, Nat.le_of_ble_eq_true rfl⟩ dX5_keepInRow_13 (fun v ty' w' hp hk' => ?_)
    obtain ⟨I978, A978, hI978, hA978, hV978, hC, rfl, rfl⟩ := hp
    replace hF := FE.bdX hF hC
    show GW κ 2 0 0 (wX q d I978 A978) 16 [(0, .ref (q 3)), (1, .int z1)] []
    refine g_goto (tgt := 27) hk dX5_keepInRow_16 (by decide) ?_
    refine g_aload_n hk dX5_keepInRow_27 rfl ?_
    refine g_dup hk dX5_keepInRow_28 rfl ?_
    refine gX_i9 (v := (I 9)) hk hin5 (List.mem_cons_of_mem _ (List.mem_append_left _ (List.mem_of_getElem? (i := 6) rfl))) dX5_keepInRow_29 (hI978 9 rfl) ?_
    refine g_iconst (v := 1) hk dX5_keepInRow_32 (by decide) ?_
    have b979l := Int32.le_toInt (I 9)
    have b979h := Int32.toInt_lt (I 9)
    refine g_iadd hk dX5_keepInRow_33 ?_
    refine g_topi (fun y980 ey980 => ?_)
    replace hF := FE.lt hF ey980
    refine pX_i9 hk hin5 (List.mem_cons_of_mem _ (List.mem_append_left _ (List.mem_of_getElem? (i := 6) rfl))) dX5_keepInRow_34 ?_
    refine g_aload_n hk dX5_keepInRow_37 rfl ?_
    refine g_iconst (v := 0) hk dX5_keepInRow_38 (by decide) ?_
    refine pX_i8 hk hin5 (List.mem_cons_of_mem _ (List.mem_append_left _ (List.mem_of_getElem? (i := 7) rfl))) ⟨rfl, rfl⟩ dX5_keepInRow_39 ?_
    exact g_vret hk hR ⟨(upd (upd I978 9 y980) 8 0), A978, (show Md [8, 9, 14] I (upd (upd I978 9 y980) 8 0) from (Md.up (Md.up (Md.tr Md.rf hI978 rfl) rfl) rfl)), (show Md [1, 3, 4] A A978 from (Md.tr Md.rf hA978 rfl)), ⟨(IvX_f0 (I := I978) (A := A978) hV978), (IvX_f18 (I := I978) (A := A978) hV978), (IvX_f30 (I := I978) (A := A978) hV978), (IvX_f31 (I := I978) (A := A978) hV978), (IvX_a4 (I := I978) (A := A978) hV978), (IvX_a9 (I := I978) (A := A978) hV978), trivial⟩, hF, rfl, rfl⟩ dX5_keepInRow_42
noncomputable def fX5_mark (I : Nat → Int32) (A : Nat → Nat → Int32) (z1 : Int32) : Int32 × (Nat → Int32) × (Nat → Nat → Int32) := if (I 11).toInt ≠ 0 then (0, I, A) else f_bdX (fX5_keepFault I A z1) fun _ I996 A996 => (0, I996, A996)
def wo_k157_X5_mark : List Cond := [Cond.fieldLink RX5 78 "WarpDesk$Reader" "fault" "I", Cond.methodLink RX5 93 yX5_keepFault, Cond.instanceMethod yX5_keepFault, Cond.selects RX5 yX5_keepFault yX5_keepFault, Cond.initialized RX5]
def wz_k157_X5_mark : List Cond := .code yX5_mark cX5_mark 2 none :: (wo_k157_X5_mark ++ (wsX50 ++ (wz_k131_X5_keepFault ++ ([] : List Cond))))
theorem zg_k157_X5_mark : ∀ w ∈ wz_k157_X5_mark, goodWord w = true := zg_cons rfl (zg_app (by decide +kernel) (zg_app zgU_wsX50 (zg_app zg_k131_X5_keepFault zg_nil)))
theorem zi_k157_X5_mark : ∀ w ∈ wz_k157_X5_mark, w ∈ lw_tbl := zi_cons zw_712 (zi_app (zi_cons zw_242 (zi_cons zw_685 (zi_cons zw_687 (zi_cons zw_13 (zi_cons zw_105 zi_nil))))) (zi_app inX5 (zi_app zi_k131_X5_keepFault zi_nil)))
set_option maxHeartbeats 4000000 in
set_option maxRecDepth 100000 in
theorem k157_X5_mark (l : Launch) (D : va_G) (zt : Nat × Nat × Nat × (Nat → Nat) × (Nat → Nat)) (q : Nat → Nat) (d : Nat → ClassId) (I : Nat → Int32) (A : Nat → Nat → Int32) (z1 : Int32) (hIv : IvX I A) : GM l D zt (tyX d) yX5_mark wz_k157_X5_mark ({ frames := 1, cells := 0, slots := 0, locals := 21 } : Room) [.ref (q 3), .int z1] (wX q d I A) (fun v _ w' => ∃ (I' : Nat → Int32) (A' : Nat → Nat → Int32), Md [11, 12, 13] I I' ∧ Md [] A A' ∧ IvX I' A' ∧ FE (fX5_mark I A z1) (0, I', A') ∧ v = none ∧ w' = wX q d I' A') 0 0 := by
  refine GM.of (cc := cX5_mark) (maxL := 2) (ret := none) (own := RX5) (lv := [(0, .ref (q 3)), (1, .int z1)]) (by decide) rfl rfl (Nat.le_of_ble_eq_true rfl) rfl (fun κ sz hk hR hN => ?_)
  have hin5 : ∀ w ∈ u_ws RX5 TX5 13, w ∈ wz_k157_X5_mark := fun w h => (List.mem_cons_of_mem _ (List.mem_append_right _ (List.mem_append_left _ h)))
  have hF : FE (fX5_mark I A z1) (fX5_mark I A z1) := FE.rf
  refine g_aload_n hk dX5_mark_0 rfl ?_
  refine gX_i11 (v := (I 11)) hk hin5 (List.mem_cons_of_mem _ (List.mem_append_left _ (List.mem_of_getElem? (i := 0) rfl))) dX5_mark_1 rfl ?_
  have b993l := Int32.le_toInt (I 11)
  have b993h := Int32.toInt_lt (I 11)
  refine g_if_ne (tgt := 12) (a := (I 11).toInt) hk dX5_mark_4 (by decide) rfl (fun c994 => ?_) (fun c994 => ?_)
  · skip
    replace hF := FE.pos hF c994
    exact g_vret hk hR ⟨I, A, (show Md [11, 12, 13] I I from Md.rf), (show Md [] A A from Md.rf), hIv, hF, rfl, rfl⟩ dX5_mark_12
  · skip
    replace hF := FE.neg hF c994
    refine g_aload_n hk dX5_mark_7 rfl ?_
    refine g_iload_n hk dX5_mark_8 rfl ?_
    refine g_callV (n := 1) hk (k131_X5_keepFault l D zt q d I A z1 hIv) (SP.same _) (fun _ h => h) (gi_V (List.mem_cons_of_mem _ (List.mem_append_left _ (List.mem_of_getElem? (i := 1) rfl))) (List.mem_cons_of_mem _ (List.mem_append_left _ (List.mem_of_getElem? (i := 2) rfl))) (List.mem_cons_of_mem _ (List.mem_append_left _ (List.mem_of_getElem? (i := 3) rfl))) (List.mem_cons_of_mem _ (List.mem_append_left _ (List.mem_of_getElem? (i := 4) rfl))) (gi_sub (fun w h => (List.mem_cons_of_mem _ (List.mem_append_right _ (List.mem_append_right _ (List.mem_append_left _ h))))) zg_k131_X5_keepFault)) rfl rfl rfl (by decide +kernel) ⟨Nat.le_of_ble_eq_true rfl, Nat.le_of_ble_eq_true rfl⟩ 3 rfl rfl rfl rfl (Nat.le_of_ble_eq_true rfl) ⟨Nat.le_of_ble_eq_true rfl, Nat.le_of_ble_eq_true rfl⟩ dX5_mark_9 (fun v ty' w' hp hk' => ?_)
    obtain ⟨I996, A996, hI996, hA996, hV996, hC, rfl, rfl⟩ := hp
    replace hF := FE.bdX hF hC
    show GW κ 2 0 0 (wX q d I996 A996) 12 [(0, .ref (q 3)), (1, .int z1)] []
    exact g_vret hk hR ⟨I996, A996, (show Md [11, 12, 13] I I996 from (Md.tr Md.rf hI996 rfl)), (show Md [] A A996 from (Md.tr Md.rf hA996 rfl)), hV996, hF, rfl, rfl⟩ dX5_mark_12
noncomputable def fX5_acceptInRow (I : Nat → Int32) (A : Nat → Nat → Int32) : Int32 × (Nat → Int32) × (Nat → Nat → Int32) := if (I 1).toInt ≠ 3 then if (I 1).toInt ≠ 4 then if (I 1).toInt ≠ 2 then f_bdX (fX5_keepInRow I A (-1000)) fun _ I983 A983 => (0, I983, A983) else if (I 3).toInt ≤ 999 then if (I 8).toInt = 0 then f_bdX (fX5_keepInRow I A (I 3)) fun _ I989 A989 => (0, I989, A989) else f_lt (-(I 3)) fun y990 => f_bdX (fX5_keepInRow I A y990) fun _ I992 A992 => (0, I992, A992) else f_bdX (fX5_mark I A 5) fun _ I999 A999 => if (I 8).toInt = 0 then f_bdX (fX5_keepInRow I999 A999 (I 3)) fun _ I1003 A1003 => (0, I1003, A1003) else f_lt (-(I 3)) fun y1004 => f_bdX (fX5_keepInRow I999 A999 y1004) fun _ I1006 A1006 => (0, I1006, A1006) else (0, (upd I 8 1), A) else if (I 6).toInt ≠ 3 then (0, (upd (upd I 6 0) 9 (-2)), A) else if 2 ≤ (I 9).toInt then (0, (upd (upd I 6 0) 9 (-2)), A) else f_bdX (fX5_mark I A 6) fun _ I1013 A1013 => (0, (upd (upd I1013 6 0) 9 (-2)), A1013)
def wo_k152_X5_acceptInRow : List Cond := [Cond.fieldLink RX5 42 "WarpDesk$Reader" "tape" "LWarpDesk$Tape;", Cond.fieldLink RX5 53 "WarpDesk$Tape" "kind" "I", Cond.methodLink RX5 196 yX5_keepInRow, Cond.instanceMethod yX5_keepInRow, Cond.selects RX5 yX5_keepInRow yX5_keepInRow, Cond.initialized RX5, Cond.fieldLink RX5 190 "WarpDesk$Tape" "value" "I", Cond.fieldLink RX5 87 "WarpDesk$Reader" "isNegative" "Z", Cond.methodLink RX5 181 yX5_mark, Cond.instanceMethod yX5_mark, Cond.selects RX5 yX5_mark yX5_mark, Cond.fieldLink RX5 75 "WarpDesk$Reader" "state" "I", Cond.fieldLink RX5 32 "WarpDesk$Reader" "told" "I"]
def wz_k152_X5_acceptInRow : List Cond := .code yX5_acceptInRow cX5_acceptInRow 1 none :: (wo_k152_X5_acceptInRow ++ (wsX50 ++ (wsX100 ++ (wz_k153_X5_keepInRow ++ (wz_k157_X5_mark ++ ([] : List Cond))))))
theorem zg_k152_X5_acceptInRow : ∀ w ∈ wz_k152_X5_acceptInRow, goodWord w = true := zg_cons rfl (zg_app (by decide +kernel) (zg_app zgU_wsX50 (zg_app zgU_wsX100 (zg_app zg_k153_X5_keepInRow (zg_app zg_k157_X5_mark zg_nil)))))
theorem zi_k152_X5_acceptInRow : ∀ w ∈ wz_k152_X5_acceptInRow, w ∈ lw_tbl := zi_cons zw_733 (zi_app (zi_cons zw_230 (zi_cons zw_138 (zi_cons zw_734 (zi_cons zw_736 (zi_cons zw_21 (zi_cons zw_105 (zi_cons zw_143 (zi_cons zw_239 (zi_cons zw_709 (zi_cons zw_711 (zi_cons zw_18 (zi_cons zw_237 (zi_cons zw_240 zi_nil))))))))))))) (zi_app inX5 (zi_app inX10 (zi_app zi_k153_X5_keepInRow (zi_app zi_k157_X5_mark zi_nil)))))
set_option maxHeartbeats 4000000 in
set_option maxRecDepth 100000 in
theorem k152_X5_acceptInRow (l : Launch) (D : va_G) (zt : Nat × Nat × Nat × (Nat → Nat) × (Nat → Nat)) (q : Nat → Nat) (d : Nat → ClassId) (I : Nat → Int32) (A : Nat → Nat → Int32) (hIv : IvX I A) : GM l D zt (tyX d) yX5_acceptInRow wz_k152_X5_acceptInRow ({ frames := 3, cells := 0, slots := 0, locals := 64 } : Room) [.ref (q 3)] (wX q d I A) (fun v _ w' => ∃ (I' : Nat → Int32) (A' : Nat → Nat → Int32), Md [6, 8, 9, 11, 12, 13, 14] I I' ∧ Md [1, 3, 4] A A' ∧ IvX I' A' ∧ FE (fX5_acceptInRow I A) (0, I', A') ∧ v = none ∧ w' = wX q d I' A') 0 0 := by
  refine GM.of (cc := cX5_acceptInRow) (maxL := 1) (ret := none) (own := RX5) (lv := [(0, .ref (q 3))]) (by decide) rfl rfl (Nat.le_of_ble_eq_true rfl) rfl (fun κ sz hk hR hN => ?_)
  have hin5 : ∀ w ∈ u_ws RX5 TX5 13, w ∈ wz_k152_X5_acceptInRow := fun w h => (List.mem_cons_of_mem _ (List.mem_append_right _ (List.mem_append_left _ h)))
  have hin10 : ∀ w ∈ u_ws RX10 TX10 7, w ∈ wz_k152_X5_acceptInRow := fun w h => (List.mem_cons_of_mem _ (List.mem_append_right _ (List.mem_append_right _ (List.mem_append_left _ h))))
  have hF : FE (fX5_acceptInRow I A) (fX5_acceptInRow I A) := FE.rf
  refine g_aload_n hk dX5_acceptInRow_0 rfl ?_
  refine gX_r3_0 hk hin5 (List.mem_cons_of_mem _ (List.mem_append_left _ (List.mem_of_getElem? (i := 0) rfl))) dX5_acceptInRow_1 ?_
  refine gX_i1 (v := (I 1)) hk hin10 (List.mem_cons_of_mem _ (List.mem_append_left _ (List.mem_of_getElem? (i := 1) rfl))) dX5_acceptInRow_4 rfl ?_
  refine g_iconst (v := 3) hk dX5_acceptInRow_7 (by decide) ?_
  have b944l := Int32.le_toInt (I 1)
  have b944h := Int32.toInt_lt (I 1)
  refine g_icmp_ne (tgt := 47) (a := (I 1).toInt) (b := 3) hk dX5_acceptInRow_8 (by decide) rfl rfl (fun c945 => ?_) (fun c945 => ?_)
  · skip
    replace hF := FE.pos hF c945
    refine g_aload_n hk dX5_acceptInRow_47 rfl ?_
    refine gX_r3_0 hk hin5 (List.mem_cons_of_mem _ (List.mem_append_left _ (List.mem_of_getElem? (i := 0) rfl))) dX5_acceptInRow_48 ?_
    refine gX_i1 (v := (I 1)) hk hin10 (List.mem_cons_of_mem _ (List.mem_append_left _ (List.mem_of_getElem? (i := 1) rfl))) dX5_acceptInRow_51 rfl ?_
    refine g_iconst (v := 4) hk dX5_acceptInRow_54 (by decide) ?_
    refine g_icmp_ne (tgt := 66) (a := (I 1).toInt) (b := 4) hk dX5_acceptInRow_55 (by decide) rfl rfl (fun c946 => ?_) (fun c946 => ?_)
    · skip
      replace hF := FE.pos hF c946
      refine g_aload_n hk dX5_acceptInRow_66 rfl ?_
      refine gX_r3_0 hk hin5 (List.mem_cons_of_mem _ (List.mem_append_left _ (List.mem_of_getElem? (i := 0) rfl))) dX5_acceptInRow_67 ?_
      refine gX_i1 (v := (I 1)) hk hin10 (List.mem_cons_of_mem _ (List.mem_append_left _ (List.mem_of_getElem? (i := 1) rfl))) dX5_acceptInRow_70 rfl ?_
      refine g_iconst (v := 2) hk dX5_acceptInRow_73 (by decide) ?_
      refine g_icmp_ne (tgt := 127) (a := (I 1).toInt) (b := 2) hk dX5_acceptInRow_74 (by decide) rfl rfl (fun c947 => ?_) (fun c947 => ?_)
      · skip
        replace hF := FE.pos hF c947
        refine g_aload_n hk dX5_acceptInRow_127 rfl ?_
        refine g_sipush (v := (-1000)) hk dX5_acceptInRow_128 (by decide) ?_
        have k981 : ((-1000) : Int32).toInt = (-1000) := rfl
        refine g_callV (n := 1) hk (k153_X5_keepInRow l D zt q d I A (-1000) hIv) (SP.same _) (fun _ h => h) (gi_V (List.mem_cons_of_mem _ (List.mem_append_left _ (List.mem_of_getElem? (i := 2) rfl))) (List.mem_cons_of_mem _ (List.mem_append_left _ (List.mem_of_getElem? (i := 3) rfl))) (List.mem_cons_of_mem _ (List.mem_append_left _ (List.mem_of_getElem? (i := 4) rfl))) (List.mem_cons_of_mem _ (List.mem_append_left _ (List.mem_of_getElem? (i := 5) rfl))) (gi_sub (fun w h => (List.mem_cons_of_mem _ (List.mem_append_right _ (List.mem_append_right _ (List.mem_append_right _ (List.mem_append_left _ h)))))) zg_k153_X5_keepInRow)) rfl rfl rfl (by decide +kernel) ⟨Nat.le_of_ble_eq_true rfl, Nat.le_of_ble_eq_true rfl⟩ 3 rfl rfl rfl rfl (Nat.le_of_ble_eq_true rfl) ⟨Nat.le_of_ble_eq_true rfl, Nat.le_of_ble_eq_true rfl⟩ dX5_acceptInRow_131 (fun v ty' w' hp hk' => ?_)
        obtain ⟨I983, A983, hI983, hA983, hV983, hC, rfl, rfl⟩ := hp
        replace hF := FE.bdX hF hC
        show GW κ 1 0 0 (wX q d I983 A983) 134 [(0, .ref (q 3))] []
        exact g_vret hk hR ⟨I983, A983, (show Md [6, 8, 9, 11, 12, 13, 14] I I983 from (Md.tr Md.rf hI983 rfl)), (show Md [1, 3, 4] A A983 from (Md.tr Md.rf hA983 rfl)), hV983, hF, rfl, rfl⟩ dX5_acceptInRow_134
      · skip
        replace hF := FE.neg hF c947
        refine g_aload_n hk dX5_acceptInRow_77 rfl ?_
        refine gX_r3_0 hk hin5 (List.mem_cons_of_mem _ (List.mem_append_left _ (List.mem_of_getElem? (i := 0) rfl))) dX5_acceptInRow_78 ?_
        refine gX_i3 (v := (I 3)) hk hin10 (List.mem_cons_of_mem _ (List.mem_append_left _ (List.mem_of_getElem? (i := 6) rfl))) dX5_acceptInRow_81 rfl ?_
        refine g_sipush (v := 999) hk dX5_acceptInRow_84 (by decide) ?_
        have b984l := Int32.le_toInt (I 3)
        have b984h := Int32.toInt_lt (I 3)
        refine g_icmp_le (tgt := 95) (a := (I 3).toInt) (b := 999) hk dX5_acceptInRow_87 (by decide) rfl rfl (fun c985 => ?_) (fun c985 => ?_)
        · skip
          replace hF := FE.pos hF c985
          refine g_aload_n hk dX5_acceptInRow_95 rfl ?_
          refine g_aload_n hk dX5_acceptInRow_96 rfl ?_
          refine gX_i8 (v := (I 8)) hk hin5 (List.mem_cons_of_mem _ (List.mem_append_left _ (List.mem_of_getElem? (i := 7) rfl))) dX5_acceptInRow_97 rfl ?_
          have b986l := Int32.le_toInt (I 8)
          have b986h := Int32.toInt_lt (I 8)
          refine g_if_eq (tgt := 114) (a := (I 8).toInt) hk dX5_acceptInRow_100 (by decide) rfl (fun c987 => ?_) (fun c987 => ?_)
          · skip
            replace hF := FE.pos hF c987
            refine g_aload_n hk dX5_acceptInRow_114 rfl ?_
            refine gX_r3_0 hk hin5 (List.mem_cons_of_mem _ (List.mem_append_left _ (List.mem_of_getElem? (i := 0) rfl))) dX5_acceptInRow_115 ?_
            refine gX_i3 (v := (I 3)) hk hin10 (List.mem_cons_of_mem _ (List.mem_append_left _ (List.mem_of_getElem? (i := 6) rfl))) dX5_acceptInRow_118 rfl ?_
            refine g_callV (n := 1) hk (k153_X5_keepInRow l D zt q d I A (I 3) hIv) (SP.same _) (fun _ h => h) (gi_V (List.mem_cons_of_mem _ (List.mem_append_left _ (List.mem_of_getElem? (i := 2) rfl))) (List.mem_cons_of_mem _ (List.mem_append_left _ (List.mem_of_getElem? (i := 3) rfl))) (List.mem_cons_of_mem _ (List.mem_append_left _ (List.mem_of_getElem? (i := 4) rfl))) (List.mem_cons_of_mem _ (List.mem_append_left _ (List.mem_of_getElem? (i := 5) rfl))) (gi_sub (fun w h => (List.mem_cons_of_mem _ (List.mem_append_right _ (List.mem_append_right _ (List.mem_append_right _ (List.mem_append_left _ h)))))) zg_k153_X5_keepInRow)) rfl rfl rfl (by decide +kernel) ⟨Nat.le_of_ble_eq_true rfl, Nat.le_of_ble_eq_true rfl⟩ 3 rfl rfl rfl rfl (Nat.le_of_ble_eq_true rfl) ⟨Nat.le_of_ble_eq_true rfl, Nat.le_of_ble_eq_true rfl⟩ dX5_acceptInRow_121 (fun v ty' w' hp hk' => ?_)
            obtain ⟨I989, A989, hI989, hA989, hV989, hC, rfl, rfl⟩ := hp
            replace hF := FE.bdX hF hC
            show GW κ 1 0 0 (wX q d I989 A989) 124 [(0, .ref (q 3))] []
            refine g_goto (tgt := 134) hk dX5_acceptInRow_124 (by decide) ?_
            exact g_vret hk hR ⟨I989, A989, (show Md [6, 8, 9, 11, 12, 13, 14] I I989 from (Md.tr Md.rf hI989 rfl)), (show Md [1, 3, 4] A A989 from (Md.tr Md.rf hA989 rfl)), hV989, hF, rfl, rfl⟩ dX5_acceptInRow_134
          · skip
            replace hF := FE.neg hF c987
            refine g_aload_n hk dX5_acceptInRow_103 rfl ?_
            refine gX_r3_0 hk hin5 (List.mem_cons_of_mem _ (List.mem_append_left _ (List.mem_of_getElem? (i := 0) rfl))) dX5_acceptInRow_104 ?_
            refine gX_i3 (v := (I 3)) hk hin10 (List.mem_cons_of_mem _ (List.mem_append_left _ (List.mem_of_getElem? (i := 6) rfl))) dX5_acceptInRow_107 rfl ?_
            refine g_ineg hk dX5_acceptInRow_110 ?_
            refine g_topi (fun y990 ey990 => ?_)
            replace hF := FE.lt hF ey990
            refine g_goto (tgt := 121) hk dX5_acceptInRow_111 (by decide) ?_
            refine g_callV (n := 1) hk (k153_X5_keepInRow l D zt q d I A y990 hIv) (SP.same _) (fun _ h => h) (gi_V (List.mem_cons_of_mem _ (List.mem_append_left _ (List.mem_of_getElem? (i := 2) rfl))) (List.mem_cons_of_mem _ (List.mem_append_left _ (List.mem_of_getElem? (i := 3) rfl))) (List.mem_cons_of_mem _ (List.mem_append_left _ (List.mem_of_getElem? (i := 4) rfl))) (List.mem_cons_of_mem _ (List.mem_append_left _ (List.mem_of_getElem? (i := 5) rfl))) (gi_sub (fun w h => (List.mem_cons_of_mem _ (List.mem_append_right _ (List.mem_append_right _ (List.mem_append_right _ (List.mem_append_left _ h)))))) zg_k153_X5_keepInRow)) rfl rfl rfl (by decide +kernel) ⟨Nat.le_of_ble_eq_true rfl, Nat.le_of_ble_eq_true rfl⟩ 3 rfl rfl rfl rfl (Nat.le_of_ble_eq_true rfl) ⟨Nat.le_of_ble_eq_true rfl, Nat.le_of_ble_eq_true rfl⟩ dX5_acceptInRow_121 (fun v ty' w' hp hk' => ?_)
            obtain ⟨I992, A992, hI992, hA992, hV992, hC, rfl, rfl⟩ := hp
            replace hF := FE.bdX hF hC
            show GW κ 1 0 0 (wX q d I992 A992) 124 [(0, .ref (q 3))] []
            refine g_goto (tgt := 134) hk dX5_acceptInRow_124 (by decide) ?_
            exact g_vret hk hR ⟨I992, A992, (show Md [6, 8, 9, 11, 12, 13, 14] I I992 from (Md.tr Md.rf hI992 rfl)), (show Md [1, 3, 4] A A992 from (Md.tr Md.rf hA992 rfl)), hV992, hF, rfl, rfl⟩ dX5_acceptInRow_134
        · skip
          replace hF := FE.neg hF c985
          refine g_aload_n hk dX5_acceptInRow_90 rfl ?_
          refine g_iconst (v := 5) hk dX5_acceptInRow_91 (by decide) ?_
          have k997 : (5 : Int32).toInt = 5 := rfl
          refine g_callV (n := 1) hk (k157_X5_mark l D zt q d I A 5 hIv) (SP.same _) (fun _ h => h) (gi_V (List.mem_cons_of_mem _ (List.mem_append_left _ (List.mem_of_getElem? (i := 8) rfl))) (List.mem_cons_of_mem _ (List.mem_append_left _ (List.mem_of_getElem? (i := 9) rfl))) (List.mem_cons_of_mem _ (List.mem_append_left _ (List.mem_of_getElem? (i := 10) rfl))) (List.mem_cons_of_mem _ (List.mem_append_left _ (List.mem_of_getElem? (i := 5) rfl))) (gi_sub (fun w h => (List.mem_cons_of_mem _ (List.mem_append_right _ (List.mem_append_right _ (List.mem_append_right _ (List.mem_append_right _ (List.mem_append_left _ h))))))) zg_k157_X5_mark)) rfl rfl rfl (by decide +kernel) ⟨Nat.le_of_ble_eq_true rfl, Nat.le_of_ble_eq_true rfl⟩ 3 rfl rfl rfl rfl (Nat.le_of_ble_eq_true rfl) ⟨Nat.le_of_ble_eq_true rfl, Nat.le_of_ble_eq_true rfl⟩ dX5_acceptInRow_92 (fun v ty' w' hp hk' => ?_)
          obtain ⟨I999, A999, hI999, hA999, hV999, hC, rfl, rfl⟩ := hp
          replace hF := FE.bdX hF hC
          show GW κ 1 0 0 (wX q d I999 A999) 95 [(0, .ref (q 3))] []
          refine g_aload_n hk dX5_acceptInRow_95 rfl ?_
          refine g_aload_n hk dX5_acceptInRow_96 rfl ?_
          refine gX_i8 (v := (I 8)) hk hin5 (List.mem_cons_of_mem _ (List.mem_append_left _ (List.mem_of_getElem? (i := 7) rfl))) dX5_acceptInRow_97 (hI999 8 rfl) ?_
          have b1000l := Int32.le_toInt (I 8)
          have b1000h := Int32.toInt_lt (I 8)
          refine g_if_eq (tgt := 114) (a := (I 8).toInt) hk dX5_acceptInRow_100 (by decide) rfl (fun c1001 => ?_) (fun c1001 => ?_)
          · skip
            replace hF := FE.pos hF c1001
            refine g_aload_n hk dX5_acceptInRow_114 rfl ?_
            refine gX_r3_0 hk hin5 (List.mem_cons_of_mem _ (List.mem_append_left _ (List.mem_of_getElem? (i := 0) rfl))) dX5_acceptInRow_115 ?_
            refine gX_i3 (v := (I 3)) hk hin10 (List.mem_cons_of_mem _ (List.mem_append_left _ (List.mem_of_getElem? (i := 6) rfl))) dX5_acceptInRow_118 (hI999 3 rfl) ?_
            refine g_callV (n := 1) hk (k153_X5_keepInRow l D zt q d I999 A999 (I 3) hV999) (SP.same _) (fun _ h => h) (gi_V (List.mem_cons_of_mem _ (List.mem_append_left _ (List.mem_of_getElem? (i := 2) rfl))) (List.mem_cons_of_mem _ (List.mem_append_left _ (List.mem_of_getElem? (i := 3) rfl))) (List.mem_cons_of_mem _ (List.mem_append_left _ (List.mem_of_getElem? (i := 4) rfl))) (List.mem_cons_of_mem _ (List.mem_append_left _ (List.mem_of_getElem? (i := 5) rfl))) (gi_sub (fun w h => (List.mem_cons_of_mem _ (List.mem_append_right _ (List.mem_append_right _ (List.mem_append_right _ (List.mem_append_left _ h)))))) zg_k153_X5_keepInRow)) rfl rfl rfl (by decide +kernel) ⟨Nat.le_of_ble_eq_true rfl, Nat.le_of_ble_eq_true rfl⟩ 3 rfl rfl rfl rfl (Nat.le_of_ble_eq_true rfl) ⟨Nat.le_of_ble_eq_true rfl, Nat.le_of_ble_eq_true rfl⟩ dX5_acceptInRow_121 (fun v ty' w' hp hk' => ?_)
            obtain ⟨I1003, A1003, hI1003, hA1003, hV1003, hC, rfl, rfl⟩ := hp
            replace hF := FE.bdX hF hC
            show GW κ 1 0 0 (wX q d I1003 A1003) 124 [(0, .ref (q 3))] []
            refine g_goto (tgt := 134) hk dX5_acceptInRow_124 (by decide) ?_
            exact g_vret hk hR ⟨I1003, A1003, (show Md [6, 8, 9, 11, 12, 13, 14] I I1003 from (Md.tr (Md.tr Md.rf hI999 rfl) hI1003 rfl)), (show Md [1, 3, 4] A A1003 from (Md.tr (Md.tr Md.rf hA999 rfl) hA1003 rfl)), hV1003, hF, rfl, rfl⟩ dX5_acceptInRow_134
          · skip
            replace hF := FE.neg hF c1001
            refine g_aload_n hk dX5_acceptInRow_103 rfl ?_
            refine gX_r3_0 hk hin5 (List.mem_cons_of_mem _ (List.mem_append_left _ (List.mem_of_getElem? (i := 0) rfl))) dX5_acceptInRow_104 ?_
            refine gX_i3 (v := (I 3)) hk hin10 (List.mem_cons_of_mem _ (List.mem_append_left _ (List.mem_of_getElem? (i := 6) rfl))) dX5_acceptInRow_107 (hI999 3 rfl) ?_
            refine g_ineg hk dX5_acceptInRow_110 ?_
            refine g_topi (fun y1004 ey1004 => ?_)
            replace hF := FE.lt hF ey1004
            refine g_goto (tgt := 121) hk dX5_acceptInRow_111 (by decide) ?_
            refine g_callV (n := 1) hk (k153_X5_keepInRow l D zt q d I999 A999 y1004 hV999) (SP.same _) (fun _ h => h) (gi_V (List.mem_cons_of_mem _ (List.mem_append_left _ (List.mem_of_getElem? (i := 2) rfl))) (List.mem_cons_of_mem _ (List.mem_append_left _ (List.mem_of_getElem? (i := 3) rfl))) (List.mem_cons_of_mem _ (List.mem_append_left _ (List.mem_of_getElem? (i := 4) rfl))) (List.mem_cons_of_mem _ (List.mem_append_left _ (List.mem_of_getElem? (i := 5) rfl))) (gi_sub (fun w h => (List.mem_cons_of_mem _ (List.mem_append_right _ (List.mem_append_right _ (List.mem_append_right _ (List.mem_append_left _ h)))))) zg_k153_X5_keepInRow)) rfl rfl rfl (by decide +kernel) ⟨Nat.le_of_ble_eq_true rfl, Nat.le_of_ble_eq_true rfl⟩ 3 rfl rfl rfl rfl (Nat.le_of_ble_eq_true rfl) ⟨Nat.le_of_ble_eq_true rfl, Nat.le_of_ble_eq_true rfl⟩ dX5_acceptInRow_121 (fun v ty' w' hp hk' => ?_)
            obtain ⟨I1006, A1006, hI1006, hA1006, hV1006, hC, rfl, rfl⟩ := hp
            replace hF := FE.bdX hF hC
            show GW κ 1 0 0 (wX q d I1006 A1006) 124 [(0, .ref (q 3))] []
            refine g_goto (tgt := 134) hk dX5_acceptInRow_124 (by decide) ?_
            exact g_vret hk hR ⟨I1006, A1006, (show Md [6, 8, 9, 11, 12, 13, 14] I I1006 from (Md.tr (Md.tr Md.rf hI999 rfl) hI1006 rfl)), (show Md [1, 3, 4] A A1006 from (Md.tr (Md.tr Md.rf hA999 rfl) hA1006 rfl)), hV1006, hF, rfl, rfl⟩ dX5_acceptInRow_134
    · skip
      replace hF := FE.neg hF c946
      refine g_aload_n hk dX5_acceptInRow_58 rfl ?_
      refine g_iconst (v := 1) hk dX5_acceptInRow_59 (by decide) ?_
      refine pX_i8 hk hin5 (List.mem_cons_of_mem _ (List.mem_append_left _ (List.mem_of_getElem? (i := 7) rfl))) ⟨rfl, rfl⟩ dX5_acceptInRow_60 ?_
      refine g_goto (tgt := 134) hk dX5_acceptInRow_63 (by decide) ?_
      exact g_vret hk hR ⟨(upd I 8 1), A, (show Md [6, 8, 9, 11, 12, 13, 14] I (upd I 8 1) from (Md.up Md.rf rfl)), (show Md [1, 3, 4] A A from Md.rf), ⟨(IvX_f0 (I := I) (A := A) hIv), (IvX_f18 (I := I) (A := A) hIv), (IvX_f30 (I := I) (A := A) hIv), (IvX_f31 (I := I) (A := A) hIv), (IvX_a4 (I := I) (A := A) hIv), (IvX_a9 (I := I) (A := A) hIv), trivial⟩, hF, rfl, rfl⟩ dX5_acceptInRow_134
  · skip
    replace hF := FE.neg hF c945
    refine g_aload_n hk dX5_acceptInRow_11 rfl ?_
    refine gX_i6 (v := (I 6)) hk hin5 (List.mem_cons_of_mem _ (List.mem_append_left _ (List.mem_of_getElem? (i := 11) rfl))) dX5_acceptInRow_12 rfl ?_
    refine g_iconst (v := 3) hk dX5_acceptInRow_15 (by decide) ?_
    have b1007l := Int32.le_toInt (I 6)
    have b1007h := Int32.toInt_lt (I 6)
    refine g_icmp_ne (tgt := 33) (a := (I 6).toInt) (b := 3) hk dX5_acceptInRow_16 (by decide) rfl rfl (fun c1008 => ?_) (fun c1008 => ?_)
    · skip
      replace hF := FE.pos hF c1008
      refine g_aload_n hk dX5_acceptInRow_33 rfl ?_
      refine g_iconst (v := 0) hk dX5_acceptInRow_34 (by decide) ?_
      refine pX_i6 hk hin5 (List.mem_cons_of_mem _ (List.mem_append_left _ (List.mem_of_getElem? (i := 11) rfl))) dX5_acceptInRow_35 ?_
      refine g_aload_n hk dX5_acceptInRow_38 rfl ?_
      refine g_bipush (v := (-2)) hk dX5_acceptInRow_39 (by decide) ?_
      refine pX_i9 hk hin5 (List.mem_cons_of_mem _ (List.mem_append_left _ (List.mem_of_getElem? (i := 12) rfl))) dX5_acceptInRow_41 ?_
      refine g_goto (tgt := 134) hk dX5_acceptInRow_44 (by decide) ?_
      exact g_vret hk hR ⟨(upd (upd I 6 0) 9 (-2)), A, (show Md [6, 8, 9, 11, 12, 13, 14] I (upd (upd I 6 0) 9 (-2)) from (Md.up (Md.up Md.rf rfl) rfl)), (show Md [1, 3, 4] A A from Md.rf), ⟨(IvX_f0 (I := I) (A := A) hIv), (IvX_f18 (I := I) (A := A) hIv), (IvX_f30 (I := I) (A := A) hIv), (IvX_f31 (I := I) (A := A) hIv), (IvX_a4 (I := I) (A := A) hIv), (IvX_a9 (I := I) (A := A) hIv), trivial⟩, hF, rfl, rfl⟩ dX5_acceptInRow_134
    · skip
      replace hF := FE.neg hF c1008
      refine g_aload_n hk dX5_acceptInRow_19 rfl ?_
      refine gX_i9 (v := (I 9)) hk hin5 (List.mem_cons_of_mem _ (List.mem_append_left _ (List.mem_of_getElem? (i := 12) rfl))) dX5_acceptInRow_20 rfl ?_
      refine g_iconst (v := 2) hk dX5_acceptInRow_23 (by decide) ?_
      have b1009l := Int32.le_toInt (I 9)
      have b1009h := Int32.toInt_lt (I 9)
      refine g_icmp_ge (tgt := 33) (a := (I 9).toInt) (b := 2) hk dX5_acceptInRow_24 (by decide) rfl rfl (fun c1010 => ?_) (fun c1010 => ?_)
      · skip
        replace hF := FE.pos hF c1010
        refine g_aload_n hk dX5_acceptInRow_33 rfl ?_
        refine g_iconst (v := 0) hk dX5_acceptInRow_34 (by decide) ?_
        refine pX_i6 hk hin5 (List.mem_cons_of_mem _ (List.mem_append_left _ (List.mem_of_getElem? (i := 11) rfl))) dX5_acceptInRow_35 ?_
        refine g_aload_n hk dX5_acceptInRow_38 rfl ?_
        refine g_bipush (v := (-2)) hk dX5_acceptInRow_39 (by decide) ?_
        refine pX_i9 hk hin5 (List.mem_cons_of_mem _ (List.mem_append_left _ (List.mem_of_getElem? (i := 12) rfl))) dX5_acceptInRow_41 ?_
        refine g_goto (tgt := 134) hk dX5_acceptInRow_44 (by decide) ?_
        exact g_vret hk hR ⟨(upd (upd I 6 0) 9 (-2)), A, (show Md [6, 8, 9, 11, 12, 13, 14] I (upd (upd I 6 0) 9 (-2)) from (Md.up (Md.up Md.rf rfl) rfl)), (show Md [1, 3, 4] A A from Md.rf), ⟨(IvX_f0 (I := I) (A := A) hIv), (IvX_f18 (I := I) (A := A) hIv), (IvX_f30 (I := I) (A := A) hIv), (IvX_f31 (I := I) (A := A) hIv), (IvX_a4 (I := I) (A := A) hIv), (IvX_a9 (I := I) (A := A) hIv), trivial⟩, hF, rfl, rfl⟩ dX5_acceptInRow_134
      · skip
        replace hF := FE.neg hF c1010
        refine g_aload_n hk dX5_acceptInRow_27 rfl ?_
        refine g_bipush (v := 6) hk dX5_acceptInRow_28 (by decide) ?_
        have k1011 : (6 : Int32).toInt = 6 := rfl
        refine g_callV (n := 1) hk (k157_X5_mark l D zt q d I A 6 hIv) (SP.same _) (fun _ h => h) (gi_V (List.mem_cons_of_mem _ (List.mem_append_left _ (List.mem_of_getElem? (i := 8) rfl))) (List.mem_cons_of_mem _ (List.mem_append_left _ (List.mem_of_getElem? (i := 9) rfl))) (List.mem_cons_of_mem _ (List.mem_append_left _ (List.mem_of_getElem? (i := 10) rfl))) (List.mem_cons_of_mem _ (List.mem_append_left _ (List.mem_of_getElem? (i := 5) rfl))) (gi_sub (fun w h => (List.mem_cons_of_mem _ (List.mem_append_right _ (List.mem_append_right _ (List.mem_append_right _ (List.mem_append_right _ (List.mem_append_left _ h))))))) zg_k157_X5_mark)) rfl rfl rfl (by decide +kernel) ⟨Nat.le_of_ble_eq_true rfl, Nat.le_of_ble_eq_true rfl⟩ 3 rfl rfl rfl rfl (Nat.le_of_ble_eq_true rfl) ⟨Nat.le_of_ble_eq_true rfl, Nat.le_of_ble_eq_true rfl⟩ dX5_acceptInRow_30 (fun v ty' w' hp hk' => ?_)
        obtain ⟨I1013, A1013, hI1013, hA1013, hV1013, hC, rfl, rfl⟩ := hp
        replace hF := FE.bdX hF hC
        show GW κ 1 0 0 (wX q d I1013 A1013) 33 [(0, .ref (q 3))] []
        refine g_aload_n hk dX5_acceptInRow_33 rfl ?_
        refine g_iconst (v := 0) hk dX5_acceptInRow_34 (by decide) ?_
        refine pX_i6 hk hin5 (List.mem_cons_of_mem _ (List.mem_append_left _ (List.mem_of_getElem? (i := 11) rfl))) dX5_acceptInRow_35 ?_
        refine g_aload_n hk dX5_acceptInRow_38 rfl ?_
        refine g_bipush (v := (-2)) hk dX5_acceptInRow_39 (by decide) ?_
        refine pX_i9 hk hin5 (List.mem_cons_of_mem _ (List.mem_append_left _ (List.mem_of_getElem? (i := 12) rfl))) dX5_acceptInRow_41 ?_
        refine g_goto (tgt := 134) hk dX5_acceptInRow_44 (by decide) ?_
        exact g_vret hk hR ⟨(upd (upd I1013 6 0) 9 (-2)), A1013, (show Md [6, 8, 9, 11, 12, 13, 14] I (upd (upd I1013 6 0) 9 (-2)) from (Md.up (Md.up (Md.tr Md.rf hI1013 rfl) rfl) rfl)), (show Md [1, 3, 4] A A1013 from (Md.tr Md.rf hA1013 rfl)), ⟨(IvX_f0 (I := I1013) (A := A1013) hV1013), (IvX_f18 (I := I1013) (A := A1013) hV1013), (IvX_f30 (I := I1013) (A := A1013) hV1013), (IvX_f31 (I := I1013) (A := A1013) hV1013), (IvX_a4 (I := I1013) (A := A1013) hV1013), (IvX_a9 (I := I1013) (A := A1013) hV1013), trivial⟩, hF, rfl, rfl⟩ dX5_acceptInRow_134
noncomputable def fX4_open (I : Nat → Int32) (A : Nat → Nat → Int32) : Int32 × (Nat → Int32) × (Nat → Nat → Int32) := if (I 16).toInt < 0 then (0, I, A) else if 5 ≤ (I 16).toInt then (0, I, A) else f_lt ((I 16) + (1 : Int32)) fun y1030 => (0, (upd I 16 y1030), (up3 A 4 ((I 16).toNatClampNeg) 0))
def wo_k159_X4_open : List Cond := [Cond.fieldLink RX4 18 "WarpDesk$Queries" "size" "I", Cond.fieldLink RX4 15 "WarpDesk$Queries" "lengths" "[I"]
def wz_k159_X4_open : List Cond := .code yX4_open cX4_open 1 none :: (wo_k159_X4_open ++ (wsX40 ++ ([] : List Cond)))
theorem zg_k159_X4_open : ∀ w ∈ wz_k159_X4_open, goodWord w = true := zg_cons rfl (zg_app (by decide +kernel) (zg_app zgU_wsX40 zg_nil))
theorem zi_k159_X4_open : ∀ w ∈ wz_k159_X4_open, w ∈ lw_tbl := zi_cons zw_717 (zi_app (zi_cons zw_219 (zi_cons zw_218 zi_nil)) (zi_app inX4 zi_nil))
set_option maxHeartbeats 4000000 in
set_option maxRecDepth 100000 in
theorem k159_X4_open (l : Launch) (D : va_G) (zt : Nat × Nat × Nat × (Nat → Nat) × (Nat → Nat)) (q : Nat → Nat) (d : Nat → ClassId) (I : Nat → Int32) (A : Nat → Nat → Int32) (hIv : IvX I A) : GM l D zt (tyX d) yX4_open wz_k159_X4_open ({ frames := 0, cells := 0, slots := 0, locals := 0 } : Room) [.ref (q 8)] (wX q d I A) (fun v _ w' => ∃ (I' : Nat → Int32) (A' : Nat → Nat → Int32), Md [16] I I' ∧ Md [4] A A' ∧ IvX I' A' ∧ FE (fX4_open I A) (0, I', A') ∧ v = none ∧ w' = wX q d I' A') 0 0 := by
  refine GM.of (cc := cX4_open) (maxL := 1) (ret := none) (own := RX4) (lv := [(0, .ref (q 8))]) (by decide) rfl rfl (Nat.le_of_ble_eq_true rfl) rfl (fun κ sz hk hR hN => ?_)
  have hin4 : ∀ w ∈ u_ws RX4 TX4 3, w ∈ wz_k159_X4_open := fun w h => (List.mem_cons_of_mem _ (List.mem_append_right _ (List.mem_append_left _ h)))
  have hF : FE (fX4_open I A) (fX4_open I A) := FE.rf
  refine g_aload_n hk dX4_open_0 rfl ?_
  refine gX_i16 (v := (I 16)) hk hin4 (List.mem_cons_of_mem _ (List.mem_append_left _ (List.mem_of_getElem? (i := 0) rfl))) dX4_open_1 rfl ?_
  have b1025l := Int32.le_toInt (I 16)
  have b1025h := Int32.toInt_lt (I 16)
  refine g_if_lt (tgt := 35) (a := (I 16).toInt) hk dX4_open_4 (by decide) rfl (fun c1026 => ?_) (fun c1026 => ?_)
  · skip
    replace hF := FE.pos hF c1026
    exact g_vret hk hR ⟨I, A, (show Md [16] I I from Md.rf), (show Md [4] A A from Md.rf), hIv, hF, rfl, rfl⟩ dX4_open_35
  · skip
    replace hF := FE.neg hF c1026
    refine g_aload_n hk dX4_open_7 rfl ?_
    refine gX_i16 (v := (I 16)) hk hin4 (List.mem_cons_of_mem _ (List.mem_append_left _ (List.mem_of_getElem? (i := 0) rfl))) dX4_open_8 rfl ?_
    refine g_iconst (v := 5) hk dX4_open_11 (by decide) ?_
    refine g_icmp_ge (tgt := 35) (a := (I 16).toInt) (b := 5) hk dX4_open_12 (by decide) rfl rfl (fun c1027 => ?_) (fun c1027 => ?_)
    · skip
      replace hF := FE.pos hF c1027
      exact g_vret hk hR ⟨I, A, (show Md [16] I I from Md.rf), (show Md [4] A A from Md.rf), hIv, hF, rfl, rfl⟩ dX4_open_35
    · skip
      replace hF := FE.neg hF c1027
      refine g_aload_n hk dX4_open_15 rfl ?_
      refine gX_r8_1 hk hin4 (List.mem_cons_of_mem _ (List.mem_append_left _ (List.mem_of_getElem? (i := 1) rfl))) dX4_open_16 ?_
      refine g_aload_n hk dX4_open_19 rfl ?_
      refine gX_i16 (v := (I 16)) hk hin4 (List.mem_cons_of_mem _ (List.mem_append_left _ (List.mem_of_getElem? (i := 0) rfl))) dX4_open_20 rfl ?_
      refine g_iconst (v := 0) hk dX4_open_23 (by decide) ?_
      have k1028 : (0 : Int32).toInt = 0 := rfl
      refine sX_4 (j := (I 16).toNatClampNeg) hk (vp_in_iff.mpr ⟨by omega, by omega⟩) rfl dX4_open_24 ?_
      have hA1029 : ∀ j, 0 ≤ ((up3 A 4 ((I 16).toNatClampNeg) 0) 4 j).toInt ∧ ((up3 A 4 ((I 16).toNatClampNeg) 0) 4 j).toInt ≤ 16 := ai_st ((IvX_a4 hIv)) ⟨by omega, by omega⟩
      refine g_aload_n hk dX4_open_25 rfl ?_
      refine g_dup hk dX4_open_26 rfl ?_
      refine gX_i16 (v := (I 16)) hk hin4 (List.mem_cons_of_mem _ (List.mem_append_left _ (List.mem_of_getElem? (i := 0) rfl))) dX4_open_27 rfl ?_
      refine g_iconst (v := 1) hk dX4_open_30 (by decide) ?_
      refine g_iadd hk dX4_open_31 ?_
      refine g_topi (fun y1030 ey1030 => ?_)
      replace hF := FE.lt hF ey1030
      have hy1030 : y1030.toInt = (I 16).toInt + 1 := i32_add ey1030 rfl rfl (by omega) (by omega)
      refine pX_i16 hk hin4 (List.mem_cons_of_mem _ (List.mem_append_left _ (List.mem_of_getElem? (i := 0) rfl))) dX4_open_32 ?_
      exact g_vret hk hR ⟨(upd I 16 y1030), (up3 A 4 ((I 16).toNatClampNeg) 0), (show Md [16] I (upd I 16 y1030) from (Md.up Md.rf rfl)), (show Md [4] A (up3 A 4 ((I 16).toNatClampNeg) 0) from (Md.up3 Md.rf rfl)), ⟨(IvX_f0 (I := I) (A := A) hIv), (IvX_f18 (I := I) (A := A) hIv), (IvX_f30 (I := I) (A := A) hIv), (IvX_f31 (I := I) (A := A) hIv), hA1029, (IvX_a9 (I := I) (A := A) hIv), trivial⟩, hF, rfl, rfl⟩ dX4_open_35
noncomputable def bX10_isSameAsAt_12 (z2 : Int32) (I : Nat → Int32) (A : Nat → Nat → Int32) (z1 : Int32) : (Int32 → (Int32)) → Int32 → (Int32) := fun kk1079 x1037 => if z2.toInt ≤ x1037.toInt then 1 else f_lt ((I 2) + x1037) fun y1084 => f_lt (fX10_byteAt I A y1084) fun y1085 => f_lt (z1 + x1037) fun y1087 => f_lt (fX10_byteAt I A y1087) fun y1088 => if y1085.toInt = y1088.toInt then f_lt (x1037 + Int32.ofInt 1) fun y1092 => kk1079 y1092 else 0
noncomputable def fX10_isSameAsAt (I : Nat → Int32) (A : Nat → Nat → Int32) (z1 : Int32) (z2 : Int32) : Int32 := f_lt (fX10_lengthAtHand I A) fun y1033 => if z2.toInt = y1033.toInt then itr_i (0 : Int32) (bX10_isSameAsAt_12 z2 I A z1) FU 0 else 0
def wo_k160_X10_isSameAsAt : List Cond := [Cond.methodLink RX10 57 yX10_lengthAtHand, Cond.instanceMethod yX10_lengthAtHand, Cond.selects RX10 yX10_lengthAtHand yX10_lengthAtHand, Cond.initialized RX10, Cond.fieldLink RX10 32 "WarpDesk$Tape" "start" "I", Cond.methodLink RX10 38 yX10_byteAt, Cond.instanceMethod yX10_byteAt, Cond.selects RX10 yX10_byteAt yX10_byteAt]
def wz_k160_X10_isSameAsAt : List Cond := .code yX10_isSameAsAt cX10_isSameAsAt 4 (some .boolean) :: (wo_k160_X10_isSameAsAt ++ (wsX100 ++ (wz_k135_X10_lengthAtHand ++ (wz_k125_X10_byteAt ++ ([] : List Cond)))))
theorem zg_k160_X10_isSameAsAt : ∀ w ∈ wz_k160_X10_isSameAsAt, goodWord w = true := zg_cons rfl (zg_app (by decide +kernel) (zg_app zgU_wsX100 (zg_app zg_k135_X10_lengthAtHand (zg_app zg_k125_X10_byteAt zg_nil))))
theorem zi_k160_X10_isSameAsAt : ∀ w ∈ wz_k160_X10_isSameAsAt, w ∈ lw_tbl := zi_cons zw_708 (zi_app (zi_cons zw_597 (zi_cons zw_598 (zi_cons zw_599 (zi_cons zw_104 (zi_cons zw_140 (zi_cons zw_566 (zi_cons zw_568 (zi_cons zw_2 zi_nil)))))))) (zi_app inX10 (zi_app zi_k135_X10_lengthAtHand (zi_app zi_k125_X10_byteAt zi_nil))))
set_option maxHeartbeats 4000000 in
set_option maxRecDepth 100000 in
theorem k160_X10_isSameAsAt (l : Launch) (D : va_G) (zt : Nat × Nat × Nat × (Nat → Nat) × (Nat → Nat)) (q : Nat → Nat) (d : Nat → ClassId) (I : Nat → Int32) (A : Nat → Nat → Int32) (z1 : Int32) (z2 : Int32) (hIv : IvX I A) : GM l D zt (tyX d) yX10_isSameAsAt wz_k160_X10_isSameAsAt ({ frames := 1, cells := 0, slots := 0, locals := 21 } : Room) [.ref (q 1), .int z1, .int z2] (wX q d I A) (fun v _ w' => (FE (fX10_isSameAsAt I A z1 z2) (0) ∧ v = some (.int 0) ∧ w' = wX q d I A) ∨ (FE (fX10_isSameAsAt I A z1 z2) (1) ∧ v = some (.int 1) ∧ w' = wX q d I A)) 0 0 := by
  refine GM.of (cc := cX10_isSameAsAt) (maxL := 4) (ret := (some .boolean)) (own := RX10) (lv := [(0, .ref (q 1)), (1, .int z1), (2, .int z2)]) (by decide) rfl rfl (Nat.le_of_ble_eq_true rfl) rfl (fun κ sz hk hR hN => ?_)
  have hin10 : ∀ w ∈ u_ws RX10 TX10 7, w ∈ wz_k160_X10_isSameAsAt := fun w h => (List.mem_cons_of_mem _ (List.mem_append_right _ (List.mem_append_left _ h)))
  have hF : FE (fX10_isSameAsAt I A z1 z2) (fX10_isSameAsAt I A z1 z2) := FE.rf
  refine g_iload_n hk dX10_isSameAsAt_0 rfl ?_
  refine g_aload_n hk dX10_isSameAsAt_1 rfl ?_
  refine g_callV (n := 0) hk (k135_X10_lengthAtHand l D zt q d I A  hIv) (SP.same _) (fun _ h => h) (gi_V (List.mem_cons_of_mem _ (List.mem_append_left _ (List.mem_of_getElem? (i := 0) rfl))) (List.mem_cons_of_mem _ (List.mem_append_left _ (List.mem_of_getElem? (i := 1) rfl))) (List.mem_cons_of_mem _ (List.mem_append_left _ (List.mem_of_getElem? (i := 2) rfl))) (List.mem_cons_of_mem _ (List.mem_append_left _ (List.mem_of_getElem? (i := 3) rfl))) (gi_sub (fun w h => (List.mem_cons_of_mem _ (List.mem_append_right _ (List.mem_append_right _ (List.mem_append_left _ h))))) zg_k135_X10_lengthAtHand)) rfl rfl rfl (by decide +kernel) ⟨Nat.le_of_ble_eq_true rfl, Nat.le_of_ble_eq_true rfl⟩ 1 rfl rfl rfl rfl (Nat.le_of_ble_eq_true rfl) ⟨Nat.le_of_ble_eq_true rfl, Nat.le_of_ble_eq_true rfl⟩ dX10_isSameAsAt_2 (fun v ty' w' hp hk' => ?_)
  obtain ⟨y1033, hC, rfl, rfl⟩ := hp
  replace hF := FE.lt hF (fe_s hC)
  show GW κ 4 0 0 (wX q d I A) 5 [(0, .ref (q 1)), (1, .int z1), (2, .int z2)] [.int y1033, .int z2]
  have b1034l := Int32.le_toInt z2
  have b1034h := Int32.toInt_lt z2
  have b1035l := Int32.le_toInt y1033
  have b1035h := Int32.toInt_lt y1033
  refine g_icmp_eq (tgt := 10) (a := z2.toInt) (b := y1033.toInt) hk dX10_isSameAsAt_5 (by decide) rfl rfl (fun c1036 => ?_) (fun c1036 => ?_)
  · skip
    replace hF := FE.pos hF c1036
    refine g_iconst (v := 0) hk dX10_isSameAsAt_10 (by decide) ?_
    refine g_istore_n (lv' := [(3, .int 0), (0, .ref (q 1)), (1, .int z1), (2, .int z2)]) hk dX10_isSameAsAt_11 (by decide) rfl ?_
    have lp1076 : ∀ (n1077 : Nat) (x1037 : Int32), (0 ≤ x1037.toInt) → (z2.toInt + 1 - x1037.toInt < (n1077 : Int)) → (0 < n1077) → (FE (fX10_isSameAsAt I A z1 z2) (itr_i (0 : Int32) (bX10_isSameAsAt_12 z2 I A z1) n1077 x1037)) → GW κ 4 0 0 (wX q d I A) 12 [(3, .int x1037), (0, .ref (q 1)), (1, .int z1), (2, .int z2)] [] := by
      intro n1077
      induction n1077 with
      | zero =>
        intro x1037 h1075 m1078 m1078z hF
        exact absurd m1078z (Nat.lt_irrefl 0)
      | succ n1077 ih1080 =>
        intro x1037 h1075 m1078 m1078z hF
        replace hF := FE.itr_i hF
        refine g_iload_n hk dX10_isSameAsAt_12 rfl ?_
        refine g_iload_n hk dX10_isSameAsAt_13 rfl ?_
        have b1081l := Int32.le_toInt x1037
        have b1081h := Int32.toInt_lt x1037
        refine g_icmp_ge (tgt := 45) (a := x1037.toInt) (b := z2.toInt) hk dX10_isSameAsAt_14 (by decide) rfl rfl (fun c1082 => ?_) (fun c1082 => ?_)
        · skip
          replace hF := FE.pos hF c1082
          refine g_iconst (v := 1) hk dX10_isSameAsAt_45 (by decide) ?_
          exact g_iret hk hR rfl (Or.inr (⟨hF, rfl, rfl⟩)) dX10_isSameAsAt_46
        · skip
          replace hF := FE.neg hF c1082
          refine g_aload_n hk dX10_isSameAsAt_17 rfl ?_
          refine g_aload_n hk dX10_isSameAsAt_18 rfl ?_
          refine gX_i2 (v := (I 2)) hk hin10 (List.mem_cons_of_mem _ (List.mem_append_left _ (List.mem_of_getElem? (i := 4) rfl))) dX10_isSameAsAt_19 rfl ?_
          refine g_iload_n hk dX10_isSameAsAt_22 rfl ?_
          have b1083l := Int32.le_toInt (I 2)
          have b1083h := Int32.toInt_lt (I 2)
          refine g_iadd hk dX10_isSameAsAt_23 ?_
          refine g_topi (fun y1084 ey1084 => ?_)
          replace hF := FE.lt hF ey1084
          refine g_callV (n := 1) hk (k125_X10_byteAt l D zt q d I A y1084 hIv) (SP.same _) (fun _ h => h) (gi_V (List.mem_cons_of_mem _ (List.mem_append_left _ (List.mem_of_getElem? (i := 5) rfl))) (List.mem_cons_of_mem _ (List.mem_append_left _ (List.mem_of_getElem? (i := 6) rfl))) (List.mem_cons_of_mem _ (List.mem_append_left _ (List.mem_of_getElem? (i := 7) rfl))) (List.mem_cons_of_mem _ (List.mem_append_left _ (List.mem_of_getElem? (i := 3) rfl))) (gi_sub (fun w h => (List.mem_cons_of_mem _ (List.mem_append_right _ (List.mem_append_right _ (List.mem_append_right _ (List.mem_append_left _ h)))))) zg_k125_X10_byteAt)) rfl rfl rfl (by decide +kernel) ⟨Nat.le_of_ble_eq_true rfl, Nat.le_of_ble_eq_true rfl⟩ 1 rfl rfl rfl rfl (Nat.le_of_ble_eq_true rfl) ⟨Nat.le_of_ble_eq_true rfl, Nat.le_of_ble_eq_true rfl⟩ dX10_isSameAsAt_24 (fun v ty' w' hp hk' => ?_)
          obtain ⟨y1085, hC, rfl, rfl⟩ := hp
          replace hF := FE.lt hF (fe_s hC)
          show GW κ 4 0 0 (wX q d I A) 27 [(3, .int x1037), (0, .ref (q 1)), (1, .int z1), (2, .int z2)] [.int y1085]
          refine g_aload_n hk dX10_isSameAsAt_27 rfl ?_
          refine g_iload_n hk dX10_isSameAsAt_28 rfl ?_
          refine g_iload_n hk dX10_isSameAsAt_29 rfl ?_
          have b1086l := Int32.le_toInt z1
          have b1086h := Int32.toInt_lt z1
          refine g_iadd hk dX10_isSameAsAt_30 ?_
          refine g_topi (fun y1087 ey1087 => ?_)
          replace hF := FE.lt hF ey1087
          refine g_callV (n := 1) hk (k125_X10_byteAt l D zt q d I A y1087 hIv) (SP.same _) (fun _ h => h) (gi_V (List.mem_cons_of_mem _ (List.mem_append_left _ (List.mem_of_getElem? (i := 5) rfl))) (List.mem_cons_of_mem _ (List.mem_append_left _ (List.mem_of_getElem? (i := 6) rfl))) (List.mem_cons_of_mem _ (List.mem_append_left _ (List.mem_of_getElem? (i := 7) rfl))) (List.mem_cons_of_mem _ (List.mem_append_left _ (List.mem_of_getElem? (i := 3) rfl))) (gi_sub (fun w h => (List.mem_cons_of_mem _ (List.mem_append_right _ (List.mem_append_right _ (List.mem_append_right _ (List.mem_append_left _ h)))))) zg_k125_X10_byteAt)) rfl rfl rfl (by decide +kernel) ⟨Nat.le_of_ble_eq_true rfl, Nat.le_of_ble_eq_true rfl⟩ 1 rfl rfl rfl rfl (Nat.le_of_ble_eq_true rfl) ⟨Nat.le_of_ble_eq_true rfl, Nat.le_of_ble_eq_true rfl⟩ dX10_isSameAsAt_31 (fun v ty' w' hp hk' => ?_)
          obtain ⟨y1088, hC, rfl, rfl⟩ := hp
          replace hF := FE.lt hF (fe_s hC)
          show GW κ 4 0 0 (wX q d I A) 34 [(3, .int x1037), (0, .ref (q 1)), (1, .int z1), (2, .int z2)] [.int y1088, .int y1085]
          have b1089l := Int32.le_toInt y1085
          have b1089h := Int32.toInt_lt y1085
          have b1090l := Int32.le_toInt y1088
          have b1090h := Int32.toInt_lt y1088
          refine g_icmp_eq (tgt := 39) (a := y1085.toInt) (b := y1088.toInt) hk dX10_isSameAsAt_34 (by decide) rfl rfl (fun c1091 => ?_) (fun c1091 => ?_)
          · skip
            replace hF := FE.pos hF c1091
            obtain ⟨y1092, ey1092⟩ : ∃ y : Int32, y = x1037 + Int32.ofInt 1 := ⟨_, rfl⟩
            replace hF := FE.lt hF ey1092
            have hy1092 : y1092.toInt = x1037.toInt + 1 := i32_add ey1092 rfl (by decide) (by omega) (by omega)
            refine g_iinc (v := y1092) (lv' := [(3, .int y1092), (0, .ref (q 1)), (1, .int z1), (2, .int z2)]) hk 0 dX10_isSameAsAt_39 rfl ey1092.symm (by decide) rfl ?_
            refine g_goto (tgt := 12) hk dX10_isSameAsAt_42 (by decide) ?_
            exact g_lv (List.forall_mem_cons.mpr ⟨List.mem_of_getElem? (i := 0) rfl, (List.forall_mem_cons.mpr ⟨List.mem_of_getElem? (i := 1) rfl, (List.forall_mem_cons.mpr ⟨List.mem_of_getElem? (i := 2) rfl, (List.forall_mem_cons.mpr ⟨List.mem_of_getElem? (i := 3) rfl, (fun _ h => absurd h List.not_mem_nil)⟩)⟩)⟩)⟩) (ih1080 y1092 (by omega) (by omega) (by omega) hF)
          · skip
            replace hF := FE.neg hF c1091
            refine g_iconst (v := 0) hk dX10_isSameAsAt_37 (by decide) ?_
            exact g_iret hk hR rfl (Or.inl ⟨hF, rfl, rfl⟩) dX10_isSameAsAt_38
    have k1094 : (0 : Int32).toInt = 0 := rfl
    have b1095 := Int32.le_toInt z2
    have b1096 := Int32.toInt_lt z2
    have n1093a : z2.toInt + 1 - 0 < (FU : Int) := by have := FU_eq; omega
    have n1093b : 0 < FU := by have := FU_eq; omega
    exact lp1076 FU 0 (by omega) n1093a n1093b hF
  · skip
    replace hF := FE.neg hF c1036
    refine g_iconst (v := 0) hk dX10_isSameAsAt_8 (by decide) ?_
    exact g_iret hk hR rfl (Or.inl ⟨hF, rfl, rfl⟩) dX10_isSameAsAt_9
noncomputable def bX5_acceptName_10 (I : Nat → Int32) (A : Nat → Nat → Int32) : (Int32 → (Nat → Int32) → (Nat → Nat → Int32) → (Int32 × (Nat → Int32) × (Nat → Nat → Int32))) → Int32 → (Nat → Int32) → (Nat → Nat → Int32) → (Int32 × (Nat → Int32) × (Nat → Nat → Int32)) := fun kk1159 x1017 I1020 A1020 => if (I 16).toInt ≤ x1017.toInt then if (I 16).toInt < 0 then (0, (upd I1020 6 3), A1020) else if 5 ≤ (I 16).toInt then (0, (upd I1020 6 3), A1020) else f_lt (fX10_lengthAtHand I1020 (up3 A1020 5 ((I 16).toNatClampNeg) (I 2))) fun y1165 => f_bdX (fX4_open I1020 (up3 (up3 A1020 5 ((I 16).toNatClampNeg) (I 2)) 6 ((I 16).toNatClampNeg) y1165)) fun _ I1167 A1167 => (0, (upd I1167 6 3), A1167) else if 5 ≤ x1017.toInt then if 5 ≤ (I 16).toInt then (0, (upd I1020 6 3), A1020) else f_lt (fX10_lengthAtHand I1020 (up3 A1020 5 ((I 16).toNatClampNeg) (I 2))) fun y1170 => f_bdX (fX4_open I1020 (up3 (up3 A1020 5 ((I 16).toNatClampNeg) (I 2)) 6 ((I 16).toNatClampNeg) y1170)) fun _ I1172 A1172 => (0, (upd I1172 6 3), A1172) else if fX10_isSameAsAt I1020 A1020 (A 5 x1017.toNatClampNeg) (A 6 x1017.toNatClampNeg) = 0 then f_lt (x1017 + Int32.ofInt 1) fun y1175 => kk1159 y1175 I1020 A1020 else f_bdX (fX5_mark I1020 A1020 3) fun _ I1178 A1178 => f_lt (x1017 + Int32.ofInt 1) fun y1179 => kk1159 y1179 I1178 A1178
noncomputable def fX5_acceptName (I : Nat → Int32) (A : Nat → Nat → Int32) : Int32 × (Nat → Int32) × (Nat → Nat → Int32) := itr_iIA dfX (bX5_acceptName_10 I A) FU 0 I A
def wo_k158_X5_acceptName : List Cond := [Cond.fieldLink RX5 21 "WarpDesk$Reader" "queries" "LWarpDesk$Queries;", Cond.fieldLink RX5 84 "WarpDesk$Queries" "size" "I", Cond.fieldLink RX5 75 "WarpDesk$Reader" "state" "I", Cond.fieldLink RX5 25 "WarpDesk$Reader" "nameStarts" "[I", Cond.fieldLink RX5 42 "WarpDesk$Reader" "tape" "LWarpDesk$Tape;", Cond.fieldLink RX5 96 "WarpDesk$Tape" "start" "I", Cond.fieldLink RX5 29 "WarpDesk$Reader" "nameLengths" "[I", Cond.methodLink RX5 184 yX10_lengthAtHand, Cond.instanceMethod yX10_lengthAtHand, Cond.selects RX10 yX10_lengthAtHand yX10_lengthAtHand, Cond.initialized RX10, Cond.methodLink RX5 187 yX4_open, Cond.instanceMethod yX4_open, Cond.selects RX4 yX4_open yX4_open, Cond.initialized RX4, Cond.methodLink RX5 177 yX10_isSameAsAt, Cond.instanceMethod yX10_isSameAsAt, Cond.selects RX10 yX10_isSameAsAt yX10_isSameAsAt, Cond.methodLink RX5 181 yX5_mark, Cond.instanceMethod yX5_mark, Cond.selects RX5 yX5_mark yX5_mark, Cond.initialized RX5]
def wz_k158_X5_acceptName : List Cond := .code yX5_acceptName cX5_acceptName 3 none :: (wo_k158_X5_acceptName ++ (wsX40 ++ (wsX50 ++ (wsX100 ++ (wz_k135_X10_lengthAtHand ++ (wz_k159_X4_open ++ (wz_k160_X10_isSameAsAt ++ (wz_k157_X5_mark ++ ([] : List Cond)))))))))
theorem zg_k158_X5_acceptName : ∀ w ∈ wz_k158_X5_acceptName, goodWord w = true := zg_cons rfl (zg_app (by decide +kernel) (zg_app zgU_wsX40 (zg_app zgU_wsX50 (zg_app zgU_wsX100 (zg_app zg_k135_X10_lengthAtHand (zg_app zg_k159_X4_open (zg_app zg_k160_X10_isSameAsAt (zg_app zg_k157_X5_mark zg_nil))))))))
theorem zi_k158_X5_acceptName : ∀ w ∈ wz_k158_X5_acceptName, w ∈ lw_tbl := zi_cons zw_704 (zi_app (zi_cons zw_233 (zi_cons zw_220 (zi_cons zw_237 (zi_cons zw_235 (zi_cons zw_230 (zi_cons zw_141 (zi_cons zw_236 (zi_cons zw_713 (zi_cons zw_598 (zi_cons zw_599 (zi_cons zw_104 (zi_cons zw_714 (zi_cons zw_715 (zi_cons zw_716 (zi_cons zw_108 (zi_cons zw_705 (zi_cons zw_706 (zi_cons zw_707 (zi_cons zw_709 (zi_cons zw_711 (zi_cons zw_18 (zi_cons zw_105 zi_nil)))))))))))))))))))))) (zi_app inX4 (zi_app inX5 (zi_app inX10 (zi_app zi_k135_X10_lengthAtHand (zi_app zi_k159_X4_open (zi_app zi_k160_X10_isSameAsAt (zi_app zi_k157_X5_mark zi_nil))))))))
set_option maxHeartbeats 4000000 in
set_option maxRecDepth 100000 in
theorem k158_X5_acceptName (l : Launch) (D : va_G) (zt : Nat × Nat × Nat × (Nat → Nat) × (Nat → Nat)) (q : Nat → Nat) (d : Nat → ClassId) (I : Nat → Int32) (A : Nat → Nat → Int32) (hIv : IvX I A) : GM l D zt (tyX d) yX5_acceptName wz_k158_X5_acceptName ({ frames := 2, cells := 0, slots := 0, locals := 44 } : Room) [.ref (q 3)] (wX q d I A) (fun v _ w' => ∃ (I' : Nat → Int32) (A' : Nat → Nat → Int32), Md [6, 11, 12, 13, 16] I I' ∧ Md [4, 5, 6] A A' ∧ IvX I' A' ∧ FE (fX5_acceptName I A) (0, I', A') ∧ v = none ∧ w' = wX q d I' A') 0 0 := by
  refine GM.of (cc := cX5_acceptName) (maxL := 3) (ret := none) (own := RX5) (lv := [(0, .ref (q 3))]) (by decide) rfl rfl (Nat.le_of_ble_eq_true rfl) rfl (fun κ sz hk hR hN => ?_)
  have hin4 : ∀ w ∈ u_ws RX4 TX4 3, w ∈ wz_k158_X5_acceptName := fun w h => (List.mem_cons_of_mem _ (List.mem_append_right _ (List.mem_append_left _ h)))
  have hin5 : ∀ w ∈ u_ws RX5 TX5 13, w ∈ wz_k158_X5_acceptName := fun w h => (List.mem_cons_of_mem _ (List.mem_append_right _ (List.mem_append_right _ (List.mem_append_left _ h))))
  have hin10 : ∀ w ∈ u_ws RX10 TX10 7, w ∈ wz_k158_X5_acceptName := fun w h => (List.mem_cons_of_mem _ (List.mem_append_right _ (List.mem_append_right _ (List.mem_append_right _ (List.mem_append_left _ h)))))
  have hF : FE (fX5_acceptName I A) (fX5_acceptName I A) := FE.rf
  refine g_aload_n hk dX5_acceptName_0 rfl ?_
  refine gX_r3_2 hk hin5 (List.mem_cons_of_mem _ (List.mem_append_left _ (List.mem_of_getElem? (i := 0) rfl))) dX5_acceptName_1 ?_
  refine gX_i16 (v := (I 16)) hk hin4 (List.mem_cons_of_mem _ (List.mem_append_left _ (List.mem_of_getElem? (i := 1) rfl))) dX5_acceptName_4 rfl ?_
  refine g_istore_n (lv' := [(1, .int (I 16)), (0, .ref (q 3))]) hk dX5_acceptName_7 (by decide) rfl ?_
  refine g_iconst (v := 0) hk dX5_acceptName_8 (by decide) ?_
  refine g_istore_n (lv' := [(2, .int 0), (1, .int (I 16)), (0, .ref (q 3))]) hk dX5_acceptName_9 (by decide) rfl ?_
  have lp1156 : ∀ (n1157 : Nat) (x1017 : Int32) (I1020 : Nat → Int32) (A1020 : Nat → Nat → Int32), (Md [11, 12, 13] I I1020) → (Md [] A A1020) → (IvX I1020 A1020) → (0 ≤ x1017.toInt) → (x1017.toInt ≤ 5) → ((I 16).toInt + 1 - x1017.toInt < (n1157 : Int)) → (0 < n1157) → (FE (fX5_acceptName I A) (itr_iIA dfX (bX5_acceptName_10 I A) n1157 x1017 I1020 A1020)) → GW κ 3 0 0 (wX q d I1020 A1020) 10 [(2, .int x1017), (1, .int (I 16)), (0, .ref (q 3))] [] := by
    intro n1157
    induction n1157 with
    | zero =>
      intro x1017 I1020 A1020 hI1020 hA1020 hV1020 h1154 h1155 m1158 m1158z hF
      exact absurd m1158z (Nat.lt_irrefl 0)
    | succ n1157 ih1160 =>
      intro x1017 I1020 A1020 hI1020 hA1020 hV1020 h1154 h1155 m1158 m1158z hF
      replace hF := FE.itr_iIA hF
      refine g_iload_n hk dX5_acceptName_10 rfl ?_
      refine g_iload_n hk dX5_acceptName_11 rfl ?_
      have b1161l := Int32.le_toInt (I 16)
      have b1161h := Int32.toInt_lt (I 16)
      refine g_icmp_ge (tgt := 53) (a := x1017.toInt) (b := (I 16).toInt) hk dX5_acceptName_12 (by decide) rfl rfl (fun c1162 => ?_) (fun c1162 => ?_)
      · skip
        replace hF := FE.pos hF c1162
        refine g_iload_n hk dX5_acceptName_53 rfl ?_
        refine g_if_lt (tgt := 95) (a := (I 16).toInt) hk dX5_acceptName_54 (by decide) rfl (fun c1163 => ?_) (fun c1163 => ?_)
        · skip
          replace hF := FE.pos hF c1163
          refine g_aload_n hk dX5_acceptName_95 rfl ?_
          refine g_iconst (v := 3) hk dX5_acceptName_96 (by decide) ?_
          refine pX_i6 hk hin5 (List.mem_cons_of_mem _ (List.mem_append_left _ (List.mem_of_getElem? (i := 2) rfl))) dX5_acceptName_97 ?_
          exact g_vret hk hR ⟨(upd I1020 6 3), A1020, (show Md [6, 11, 12, 13, 16] I (upd I1020 6 3) from (Md.up (Md.tr Md.rf hI1020 rfl) rfl)), (show Md [4, 5, 6] A A1020 from (Md.tr Md.rf hA1020 rfl)), ⟨(IvX_f0 (I := I1020) (A := A1020) hV1020), (IvX_f18 (I := I1020) (A := A1020) hV1020), (IvX_f30 (I := I1020) (A := A1020) hV1020), (IvX_f31 (I := I1020) (A := A1020) hV1020), (IvX_a4 (I := I1020) (A := A1020) hV1020), (IvX_a9 (I := I1020) (A := A1020) hV1020), trivial⟩, hF, rfl, rfl⟩ dX5_acceptName_100
        · skip
          replace hF := FE.neg hF c1163
          refine g_iload_n hk dX5_acceptName_57 rfl ?_
          refine g_iconst (v := 5) hk dX5_acceptName_58 (by decide) ?_
          refine g_icmp_ge (tgt := 95) (a := (I 16).toInt) (b := 5) hk dX5_acceptName_59 (by decide) rfl rfl (fun c1164 => ?_) (fun c1164 => ?_)
          · skip
            replace hF := FE.pos hF c1164
            refine g_aload_n hk dX5_acceptName_95 rfl ?_
            refine g_iconst (v := 3) hk dX5_acceptName_96 (by decide) ?_
            refine pX_i6 hk hin5 (List.mem_cons_of_mem _ (List.mem_append_left _ (List.mem_of_getElem? (i := 2) rfl))) dX5_acceptName_97 ?_
            exact g_vret hk hR ⟨(upd I1020 6 3), A1020, (show Md [6, 11, 12, 13, 16] I (upd I1020 6 3) from (Md.up (Md.tr Md.rf hI1020 rfl) rfl)), (show Md [4, 5, 6] A A1020 from (Md.tr Md.rf hA1020 rfl)), ⟨(IvX_f0 (I := I1020) (A := A1020) hV1020), (IvX_f18 (I := I1020) (A := A1020) hV1020), (IvX_f30 (I := I1020) (A := A1020) hV1020), (IvX_f31 (I := I1020) (A := A1020) hV1020), (IvX_a4 (I := I1020) (A := A1020) hV1020), (IvX_a9 (I := I1020) (A := A1020) hV1020), trivial⟩, hF, rfl, rfl⟩ dX5_acceptName_100
          · skip
            replace hF := FE.neg hF c1164
            refine g_aload_n hk dX5_acceptName_62 rfl ?_
            refine gX_r3_3 hk hin5 (List.mem_cons_of_mem _ (List.mem_append_left _ (List.mem_of_getElem? (i := 3) rfl))) dX5_acceptName_63 ?_
            refine g_iload_n hk dX5_acceptName_66 rfl ?_
            refine g_aload_n hk dX5_acceptName_67 rfl ?_
            refine gX_r3_0 hk hin5 (List.mem_cons_of_mem _ (List.mem_append_left _ (List.mem_of_getElem? (i := 4) rfl))) dX5_acceptName_68 ?_
            refine gX_i2 (v := (I 2)) hk hin10 (List.mem_cons_of_mem _ (List.mem_append_left _ (List.mem_of_getElem? (i := 5) rfl))) dX5_acceptName_71 (hI1020 2 rfl) ?_
            refine sX_5 (j := (I 16).toNatClampNeg) hk (vp_in_iff.mpr ⟨by omega, by omega⟩) rfl dX5_acceptName_74 ?_
            refine g_aload_n hk dX5_acceptName_75 rfl ?_
            refine gX_r3_4 hk hin5 (List.mem_cons_of_mem _ (List.mem_append_left _ (List.mem_of_getElem? (i := 6) rfl))) dX5_acceptName_76 ?_
            refine g_iload_n hk dX5_acceptName_79 rfl ?_
            refine g_aload_n hk dX5_acceptName_80 rfl ?_
            refine gX_r3_0 hk hin5 (List.mem_cons_of_mem _ (List.mem_append_left _ (List.mem_of_getElem? (i := 4) rfl))) dX5_acceptName_81 ?_
            refine g_callV (n := 0) hk (k135_X10_lengthAtHand l D zt q d I1020 (up3 A1020 5 ((I 16).toNatClampNeg) (I 2))  ⟨(IvX_f0 (I := I1020) (A := A1020) hV1020), (IvX_f18 (I := I1020) (A := A1020) hV1020), (IvX_f30 (I := I1020) (A := A1020) hV1020), (IvX_f31 (I := I1020) (A := A1020) hV1020), (IvX_a4 (I := I1020) (A := A1020) hV1020), (IvX_a9 (I := I1020) (A := A1020) hV1020), trivial⟩) (SP.same _) (fun _ h => h) (gi_V (List.mem_cons_of_mem _ (List.mem_append_left _ (List.mem_of_getElem? (i := 7) rfl))) (List.mem_cons_of_mem _ (List.mem_append_left _ (List.mem_of_getElem? (i := 8) rfl))) (List.mem_cons_of_mem _ (List.mem_append_left _ (List.mem_of_getElem? (i := 9) rfl))) (List.mem_cons_of_mem _ (List.mem_append_left _ (List.mem_of_getElem? (i := 10) rfl))) (gi_sub (fun w h => (List.mem_cons_of_mem _ (List.mem_append_right _ (List.mem_append_right _ (List.mem_append_right _ (List.mem_append_right _ (List.mem_append_left _ h))))))) zg_k135_X10_lengthAtHand)) rfl rfl rfl (by decide +kernel) ⟨Nat.le_of_ble_eq_true rfl, Nat.le_of_ble_eq_true rfl⟩ 1 rfl rfl rfl rfl (Nat.le_of_ble_eq_true rfl) ⟨Nat.le_of_ble_eq_true rfl, Nat.le_of_ble_eq_true rfl⟩ dX5_acceptName_84 (fun v ty' w' hp hk' => ?_)
            obtain ⟨y1165, hC, rfl, rfl⟩ := hp
            replace hF := FE.lt hF (fe_s hC)
            show GW κ 3 0 0 (wX q d I1020 (up3 A1020 5 ((I 16).toNatClampNeg) (I 2))) 87 [(2, .int x1017), (1, .int (I 16)), (0, .ref (q 3))] [.int y1165, .int (I 16), .ref (q 12)]
            refine sX_6 (j := (I 16).toNatClampNeg) hk (vp_in_iff.mpr ⟨by omega, by omega⟩) rfl dX5_acceptName_87 ?_
            refine g_aload_n hk dX5_acceptName_88 rfl ?_
            refine gX_r3_2 hk hin5 (List.mem_cons_of_mem _ (List.mem_append_left _ (List.mem_of_getElem? (i := 0) rfl))) dX5_acceptName_89 ?_
            refine g_callV (n := 0) hk (k159_X4_open l D zt q d I1020 (up3 (up3 A1020 5 ((I 16).toNatClampNeg) (I 2)) 6 ((I 16).toNatClampNeg) y1165)  ⟨(IvX_f0 (I := I1020) (A := A1020) hV1020), (IvX_f18 (I := I1020) (A := A1020) hV1020), (IvX_f30 (I := I1020) (A := A1020) hV1020), (IvX_f31 (I := I1020) (A := A1020) hV1020), (IvX_a4 (I := I1020) (A := A1020) hV1020), (IvX_a9 (I := I1020) (A := A1020) hV1020), trivial⟩) (SP.same _) (fun _ h => h) (gi_V (List.mem_cons_of_mem _ (List.mem_append_left _ (List.mem_of_getElem? (i := 11) rfl))) (List.mem_cons_of_mem _ (List.mem_append_left _ (List.mem_of_getElem? (i := 12) rfl))) (List.mem_cons_of_mem _ (List.mem_append_left _ (List.mem_of_getElem? (i := 13) rfl))) (List.mem_cons_of_mem _ (List.mem_append_left _ (List.mem_of_getElem? (i := 14) rfl))) (gi_sub (fun w h => (List.mem_cons_of_mem _ (List.mem_append_right _ (List.mem_append_right _ (List.mem_append_right _ (List.mem_append_right _ (List.mem_append_right _ (List.mem_append_left _ h)))))))) zg_k159_X4_open)) rfl rfl rfl (by decide +kernel) ⟨Nat.le_of_ble_eq_true rfl, Nat.le_of_ble_eq_true rfl⟩ 8 rfl rfl rfl rfl (Nat.le_of_ble_eq_true rfl) ⟨Nat.le_of_ble_eq_true rfl, Nat.le_of_ble_eq_true rfl⟩ dX5_acceptName_92 (fun v ty' w' hp hk' => ?_)
            obtain ⟨I1167, A1167, hI1167, hA1167, hV1167, hC, rfl, rfl⟩ := hp
            replace hF := FE.bdX hF hC
            show GW κ 3 0 0 (wX q d I1167 A1167) 95 [(2, .int x1017), (1, .int (I 16)), (0, .ref (q 3))] []
            refine g_aload_n hk dX5_acceptName_95 rfl ?_
            refine g_iconst (v := 3) hk dX5_acceptName_96 (by decide) ?_
            refine pX_i6 hk hin5 (List.mem_cons_of_mem _ (List.mem_append_left _ (List.mem_of_getElem? (i := 2) rfl))) dX5_acceptName_97 ?_
            exact g_vret hk hR ⟨(upd I1167 6 3), A1167, (show Md [6, 11, 12, 13, 16] I (upd I1167 6 3) from (Md.up (Md.tr (Md.tr Md.rf hI1020 rfl) hI1167 rfl) rfl)), (show Md [4, 5, 6] A A1167 from (Md.tr (Md.up3 (Md.up3 (Md.tr Md.rf hA1020 rfl) rfl) rfl) hA1167 rfl)), ⟨(IvX_f0 (I := I1167) (A := A1167) hV1167), (IvX_f18 (I := I1167) (A := A1167) hV1167), (IvX_f30 (I := I1167) (A := A1167) hV1167), (IvX_f31 (I := I1167) (A := A1167) hV1167), (IvX_a4 (I := I1167) (A := A1167) hV1167), (IvX_a9 (I := I1167) (A := A1167) hV1167), trivial⟩, hF, rfl, rfl⟩ dX5_acceptName_100
      · skip
        replace hF := FE.neg hF c1162
        refine g_iload_n hk dX5_acceptName_15 rfl ?_
        refine g_iconst (v := 5) hk dX5_acceptName_16 (by decide) ?_
        refine g_icmp_ge (tgt := 53) (a := x1017.toInt) (b := 5) hk dX5_acceptName_17 (by decide) rfl rfl (fun c1168 => ?_) (fun c1168 => ?_)
        · skip
          replace hF := FE.pos hF c1168
          refine g_iload_n hk dX5_acceptName_53 rfl ?_
          refine g_if_lt (tgt := 95) (a := (I 16).toInt) hk dX5_acceptName_54 (by decide) rfl (fun z9 => absurd z9 (show ¬ ((I 16).toInt < 0) from by omega)) (fun _ => ?_)
          refine g_iload_n hk dX5_acceptName_57 rfl ?_
          refine g_iconst (v := 5) hk dX5_acceptName_58 (by decide) ?_
          refine g_icmp_ge (tgt := 95) (a := (I 16).toInt) (b := 5) hk dX5_acceptName_59 (by decide) rfl rfl (fun c1169 => ?_) (fun c1169 => ?_)
          · skip
            replace hF := FE.pos hF c1169
            refine g_aload_n hk dX5_acceptName_95 rfl ?_
            refine g_iconst (v := 3) hk dX5_acceptName_96 (by decide) ?_
            refine pX_i6 hk hin5 (List.mem_cons_of_mem _ (List.mem_append_left _ (List.mem_of_getElem? (i := 2) rfl))) dX5_acceptName_97 ?_
            exact g_vret hk hR ⟨(upd I1020 6 3), A1020, (show Md [6, 11, 12, 13, 16] I (upd I1020 6 3) from (Md.up (Md.tr Md.rf hI1020 rfl) rfl)), (show Md [4, 5, 6] A A1020 from (Md.tr Md.rf hA1020 rfl)), ⟨(IvX_f0 (I := I1020) (A := A1020) hV1020), (IvX_f18 (I := I1020) (A := A1020) hV1020), (IvX_f30 (I := I1020) (A := A1020) hV1020), (IvX_f31 (I := I1020) (A := A1020) hV1020), (IvX_a4 (I := I1020) (A := A1020) hV1020), (IvX_a9 (I := I1020) (A := A1020) hV1020), trivial⟩, hF, rfl, rfl⟩ dX5_acceptName_100
          · skip
            replace hF := FE.neg hF c1169
            refine g_aload_n hk dX5_acceptName_62 rfl ?_
            refine gX_r3_3 hk hin5 (List.mem_cons_of_mem _ (List.mem_append_left _ (List.mem_of_getElem? (i := 3) rfl))) dX5_acceptName_63 ?_
            refine g_iload_n hk dX5_acceptName_66 rfl ?_
            refine g_aload_n hk dX5_acceptName_67 rfl ?_
            refine gX_r3_0 hk hin5 (List.mem_cons_of_mem _ (List.mem_append_left _ (List.mem_of_getElem? (i := 4) rfl))) dX5_acceptName_68 ?_
            refine gX_i2 (v := (I 2)) hk hin10 (List.mem_cons_of_mem _ (List.mem_append_left _ (List.mem_of_getElem? (i := 5) rfl))) dX5_acceptName_71 (hI1020 2 rfl) ?_
            refine sX_5 (j := (I 16).toNatClampNeg) hk (vp_in_iff.mpr ⟨by omega, by omega⟩) rfl dX5_acceptName_74 ?_
            refine g_aload_n hk dX5_acceptName_75 rfl ?_
            refine gX_r3_4 hk hin5 (List.mem_cons_of_mem _ (List.mem_append_left _ (List.mem_of_getElem? (i := 6) rfl))) dX5_acceptName_76 ?_
            refine g_iload_n hk dX5_acceptName_79 rfl ?_
            refine g_aload_n hk dX5_acceptName_80 rfl ?_
            refine gX_r3_0 hk hin5 (List.mem_cons_of_mem _ (List.mem_append_left _ (List.mem_of_getElem? (i := 4) rfl))) dX5_acceptName_81 ?_
            refine g_callV (n := 0) hk (k135_X10_lengthAtHand l D zt q d I1020 (up3 A1020 5 ((I 16).toNatClampNeg) (I 2))  ⟨(IvX_f0 (I := I1020) (A := A1020) hV1020), (IvX_f18 (I := I1020) (A := A1020) hV1020), (IvX_f30 (I := I1020) (A := A1020) hV1020), (IvX_f31 (I := I1020) (A := A1020) hV1020), (IvX_a4 (I := I1020) (A := A1020) hV1020), (IvX_a9 (I := I1020) (A := A1020) hV1020), trivial⟩) (SP.same _) (fun _ h => h) (gi_V (List.mem_cons_of_mem _ (List.mem_append_left _ (List.mem_of_getElem? (i := 7) rfl))) (List.mem_cons_of_mem _ (List.mem_append_left _ (List.mem_of_getElem? (i := 8) rfl))) (List.mem_cons_of_mem _ (List.mem_append_left _ (List.mem_of_getElem? (i := 9) rfl))) (List.mem_cons_of_mem _ (List.mem_append_left _ (List.mem_of_getElem? (i := 10) rfl))) (gi_sub (fun w h => (List.mem_cons_of_mem _ (List.mem_append_right _ (List.mem_append_right _ (List.mem_append_right _ (List.mem_append_right _ (List.mem_append_left _ h))))))) zg_k135_X10_lengthAtHand)) rfl rfl rfl (by decide +kernel) ⟨Nat.le_of_ble_eq_true rfl, Nat.le_of_ble_eq_true rfl⟩ 1 rfl rfl rfl rfl (Nat.le_of_ble_eq_true rfl) ⟨Nat.le_of_ble_eq_true rfl, Nat.le_of_ble_eq_true rfl⟩ dX5_acceptName_84 (fun v ty' w' hp hk' => ?_)
            obtain ⟨y1170, hC, rfl, rfl⟩ := hp
            replace hF := FE.lt hF (fe_s hC)
            show GW κ 3 0 0 (wX q d I1020 (up3 A1020 5 ((I 16).toNatClampNeg) (I 2))) 87 [(2, .int x1017), (1, .int (I 16)), (0, .ref (q 3))] [.int y1170, .int (I 16), .ref (q 12)]
            refine sX_6 (j := (I 16).toNatClampNeg) hk (vp_in_iff.mpr ⟨by omega, by omega⟩) rfl dX5_acceptName_87 ?_
            refine g_aload_n hk dX5_acceptName_88 rfl ?_
            refine gX_r3_2 hk hin5 (List.mem_cons_of_mem _ (List.mem_append_left _ (List.mem_of_getElem? (i := 0) rfl))) dX5_acceptName_89 ?_
            refine g_callV (n := 0) hk (k159_X4_open l D zt q d I1020 (up3 (up3 A1020 5 ((I 16).toNatClampNeg) (I 2)) 6 ((I 16).toNatClampNeg) y1170)  ⟨(IvX_f0 (I := I1020) (A := A1020) hV1020), (IvX_f18 (I := I1020) (A := A1020) hV1020), (IvX_f30 (I := I1020) (A := A1020) hV1020), (IvX_f31 (I := I1020) (A := A1020) hV1020), (IvX_a4 (I := I1020) (A := A1020) hV1020), (IvX_a9 (I := I1020) (A := A1020) hV1020), trivial⟩) (SP.same _) (fun _ h => h) (gi_V (List.mem_cons_of_mem _ (List.mem_append_left _ (List.mem_of_getElem? (i := 11) rfl))) (List.mem_cons_of_mem _ (List.mem_append_left _ (List.mem_of_getElem? (i := 12) rfl))) (List.mem_cons_of_mem _ (List.mem_append_left _ (List.mem_of_getElem? (i := 13) rfl))) (List.mem_cons_of_mem _ (List.mem_append_left _ (List.mem_of_getElem? (i := 14) rfl))) (gi_sub (fun w h => (List.mem_cons_of_mem _ (List.mem_append_right _ (List.mem_append_right _ (List.mem_append_right _ (List.mem_append_right _ (List.mem_append_right _ (List.mem_append_left _ h)))))))) zg_k159_X4_open)) rfl rfl rfl (by decide +kernel) ⟨Nat.le_of_ble_eq_true rfl, Nat.le_of_ble_eq_true rfl⟩ 8 rfl rfl rfl rfl (Nat.le_of_ble_eq_true rfl) ⟨Nat.le_of_ble_eq_true rfl, Nat.le_of_ble_eq_true rfl⟩ dX5_acceptName_92 (fun v ty' w' hp hk' => ?_)
            obtain ⟨I1172, A1172, hI1172, hA1172, hV1172, hC, rfl, rfl⟩ := hp
            replace hF := FE.bdX hF hC
            show GW κ 3 0 0 (wX q d I1172 A1172) 95 [(2, .int x1017), (1, .int (I 16)), (0, .ref (q 3))] []
            refine g_aload_n hk dX5_acceptName_95 rfl ?_
            refine g_iconst (v := 3) hk dX5_acceptName_96 (by decide) ?_
            refine pX_i6 hk hin5 (List.mem_cons_of_mem _ (List.mem_append_left _ (List.mem_of_getElem? (i := 2) rfl))) dX5_acceptName_97 ?_
            exact g_vret hk hR ⟨(upd I1172 6 3), A1172, (show Md [6, 11, 12, 13, 16] I (upd I1172 6 3) from (Md.up (Md.tr (Md.tr Md.rf hI1020 rfl) hI1172 rfl) rfl)), (show Md [4, 5, 6] A A1172 from (Md.tr (Md.up3 (Md.up3 (Md.tr Md.rf hA1020 rfl) rfl) rfl) hA1172 rfl)), ⟨(IvX_f0 (I := I1172) (A := A1172) hV1172), (IvX_f18 (I := I1172) (A := A1172) hV1172), (IvX_f30 (I := I1172) (A := A1172) hV1172), (IvX_f31 (I := I1172) (A := A1172) hV1172), (IvX_a4 (I := I1172) (A := A1172) hV1172), (IvX_a9 (I := I1172) (A := A1172) hV1172), trivial⟩, hF, rfl, rfl⟩ dX5_acceptName_100
        · skip
          replace hF := FE.neg hF c1168
          refine g_aload_n hk dX5_acceptName_20 rfl ?_
          refine gX_r3_0 hk hin5 (List.mem_cons_of_mem _ (List.mem_append_left _ (List.mem_of_getElem? (i := 4) rfl))) dX5_acceptName_21 ?_
          refine g_aload_n hk dX5_acceptName_24 rfl ?_
          refine gX_r3_3 hk hin5 (List.mem_cons_of_mem _ (List.mem_append_left _ (List.mem_of_getElem? (i := 3) rfl))) dX5_acceptName_25 ?_
          refine g_iload_n hk dX5_acceptName_28 rfl ?_
          refine lX_5 (v := (A 5 x1017.toNatClampNeg)) hk (vp_in_iff.mpr ⟨by omega, by omega⟩) (congrFun (hA1020 5 rfl) _) dX5_acceptName_29 ?_
          refine g_aload_n hk dX5_acceptName_30 rfl ?_
          refine gX_r3_4 hk hin5 (List.mem_cons_of_mem _ (List.mem_append_left _ (List.mem_of_getElem? (i := 6) rfl))) dX5_acceptName_31 ?_
          refine g_iload_n hk dX5_acceptName_34 rfl ?_
          refine lX_6 (v := (A 6 x1017.toNatClampNeg)) hk (vp_in_iff.mpr ⟨by omega, by omega⟩) (congrFun (hA1020 6 rfl) _) dX5_acceptName_35 ?_
          refine g_callV (n := 2) hk (k160_X10_isSameAsAt l D zt q d I1020 A1020 (A 5 x1017.toNatClampNeg) (A 6 x1017.toNatClampNeg) hV1020) (SP.same _) (fun _ h => h) (gi_V (List.mem_cons_of_mem _ (List.mem_append_left _ (List.mem_of_getElem? (i := 15) rfl))) (List.mem_cons_of_mem _ (List.mem_append_left _ (List.mem_of_getElem? (i := 16) rfl))) (List.mem_cons_of_mem _ (List.mem_append_left _ (List.mem_of_getElem? (i := 17) rfl))) (List.mem_cons_of_mem _ (List.mem_append_left _ (List.mem_of_getElem? (i := 10) rfl))) (gi_sub (fun w h => (List.mem_cons_of_mem _ (List.mem_append_right _ (List.mem_append_right _ (List.mem_append_right _ (List.mem_append_right _ (List.mem_append_right _ (List.mem_append_right _ (List.mem_append_left _ h))))))))) zg_k160_X10_isSameAsAt)) rfl rfl rfl (by decide +kernel) ⟨Nat.le_of_ble_eq_true rfl, Nat.le_of_ble_eq_true rfl⟩ 1 rfl rfl rfl rfl (Nat.le_of_ble_eq_true rfl) ⟨Nat.le_of_ble_eq_true rfl, Nat.le_of_ble_eq_true rfl⟩ dX5_acceptName_36 (fun v ty' w' hp hk' => ?_)
          rcases hp with ⟨hC, rfl, rfl⟩ | ⟨hC, rfl, rfl⟩
          · skip
            replace hF := FE.pos hF hC
            show GW κ 3 0 0 (wX q d I1020 A1020) 39 [(2, .int x1017), (1, .int (I 16)), (0, .ref (q 3))] [.int 0]
            refine g_if_eq (tgt := 47) (a := 0) hk dX5_acceptName_39 (by decide) rfl (fun _ => ?_) (fun z9 => absurd (show (0 : Int) = (0 : Int) from by decide) z9)
            obtain ⟨y1175, ey1175⟩ : ∃ y : Int32, y = x1017 + Int32.ofInt 1 := ⟨_, rfl⟩
            replace hF := FE.lt hF ey1175
            have hy1175 : y1175.toInt = x1017.toInt + 1 := i32_add ey1175 rfl (by decide) (by omega) (by omega)
            refine g_iinc (v := y1175) (lv' := [(2, .int y1175), (1, .int (I 16)), (0, .ref (q 3))]) hk 0 dX5_acceptName_47 rfl ey1175.symm (by decide) rfl ?_
            refine g_goto (tgt := 10) hk dX5_acceptName_50 (by decide) ?_
            exact g_lv (List.forall_mem_cons.mpr ⟨List.mem_of_getElem? (i := 0) rfl, (List.forall_mem_cons.mpr ⟨List.mem_of_getElem? (i := 1) rfl, (List.forall_mem_cons.mpr ⟨List.mem_of_getElem? (i := 2) rfl, (fun _ h => absurd h List.not_mem_nil)⟩)⟩)⟩) (ih1160 y1175 I1020 A1020 (show Md [11, 12, 13] I I1020 from Md.tr hI1020 (show Md [11, 12, 13] I1020 I1020 from Md.rf) rfl) (show Md [] A A1020 from Md.tr hA1020 (show Md [] A1020 A1020 from Md.rf) rfl) hV1020 (by omega) (by omega) (by omega) (by omega) hF)
          · skip
            replace hF := FE.neg hF (fe_ne hC (by decide))
            show GW κ 3 0 0 (wX q d I1020 A1020) 39 [(2, .int x1017), (1, .int (I 16)), (0, .ref (q 3))] [.int 1]
            refine g_if_eq (tgt := 47) (a := 1) hk dX5_acceptName_39 (by decide) rfl (fun z9 => absurd z9 (show ¬ ((1 : Int) = (0 : Int)) from by decide)) (fun _ => ?_)
            refine g_aload_n hk dX5_acceptName_42 rfl ?_
            refine g_iconst (v := 3) hk dX5_acceptName_43 (by decide) ?_
            have k1176 : (3 : Int32).toInt = 3 := rfl
            refine g_callV (n := 1) hk (k157_X5_mark l D zt q d I1020 A1020 3 hV1020) (SP.same _) (fun _ h => h) (gi_V (List.mem_cons_of_mem _ (List.mem_append_left _ (List.mem_of_getElem? (i := 18) rfl))) (List.mem_cons_of_mem _ (List.mem_append_left _ (List.mem_of_getElem? (i := 19) rfl))) (List.mem_cons_of_mem _ (List.mem_append_left _ (List.mem_of_getElem? (i := 20) rfl))) (List.mem_cons_of_mem _ (List.mem_append_left _ (List.mem_of_getElem? (i := 21) rfl))) (gi_sub (fun w h => (List.mem_cons_of_mem _ (List.mem_append_right _ (List.mem_append_right _ (List.mem_append_right _ (List.mem_append_right _ (List.mem_append_right _ (List.mem_append_right _ (List.mem_append_right _ (List.mem_append_left _ h)))))))))) zg_k157_X5_mark)) rfl rfl rfl (by decide +kernel) ⟨Nat.le_of_ble_eq_true rfl, Nat.le_of_ble_eq_true rfl⟩ 3 rfl rfl rfl rfl (Nat.le_of_ble_eq_true rfl) ⟨Nat.le_of_ble_eq_true rfl, Nat.le_of_ble_eq_true rfl⟩ dX5_acceptName_44 (fun v ty' w' hp hk' => ?_)
            obtain ⟨I1178, A1178, hI1178, hA1178, hV1178, hC, rfl, rfl⟩ := hp
            replace hF := FE.bdX hF hC
            show GW κ 3 0 0 (wX q d I1178 A1178) 47 [(2, .int x1017), (1, .int (I 16)), (0, .ref (q 3))] []
            obtain ⟨y1179, ey1179⟩ : ∃ y : Int32, y = x1017 + Int32.ofInt 1 := ⟨_, rfl⟩
            replace hF := FE.lt hF ey1179
            have hy1179 : y1179.toInt = x1017.toInt + 1 := i32_add ey1179 rfl (by decide) (by omega) (by omega)
            refine g_iinc (v := y1179) (lv' := [(2, .int y1179), (1, .int (I 16)), (0, .ref (q 3))]) hk 0 dX5_acceptName_47 rfl ey1179.symm (by decide) rfl ?_
            refine g_goto (tgt := 10) hk dX5_acceptName_50 (by decide) ?_
            exact g_lv (List.forall_mem_cons.mpr ⟨List.mem_of_getElem? (i := 0) rfl, (List.forall_mem_cons.mpr ⟨List.mem_of_getElem? (i := 1) rfl, (List.forall_mem_cons.mpr ⟨List.mem_of_getElem? (i := 2) rfl, (fun _ h => absurd h List.not_mem_nil)⟩)⟩)⟩) (ih1160 y1179 I1178 A1178 (show Md [11, 12, 13] I I1178 from Md.tr hI1020 (show Md [11, 12, 13] I1020 I1178 from (Md.tr Md.rf hI1178 rfl)) rfl) (show Md [] A A1178 from Md.tr hA1020 (show Md [] A1020 A1178 from (Md.tr Md.rf hA1178 rfl)) rfl) hV1178 (by omega) (by omega) (by omega) (by omega) hF)
  have k1181 : (0 : Int32).toInt = 0 := rfl
  have b1182 := Int32.le_toInt (I 16)
  have b1183 := Int32.toInt_lt (I 16)
  have n1180a : (I 16).toInt + 1 - 0 < (FU : Int) := by have := FU_eq; omega
  have n1180b : 0 < FU := by have := FU_eq; omega
  exact lp1156 FU 0 I A Md.rf Md.rf hIv (by omega) (by omega) n1180a n1180b hF
noncomputable def fX7_allows (I : Nat → Int32) (A : Nat → Nat → Int32) (z0 : Int32) (z1 : Int32) : Int32 := if z0.toInt < 0 then 0 else if 4 ≤ z0.toInt then 0 else if z0.toInt = 0 then if z1.toInt < 0 then 0 else if 15 < z1.toInt then 0 else 1 else if z0.toInt = 1 then if z1.toInt < 0 then 0 else if 3 < z1.toInt then 0 else 1 else if z0.toInt = 2 then if z1.toInt < 0 then 0 else if 1 < z1.toInt then 0 else 1 else if z0.toInt = 3 then if z1.toInt < 1 then 0 else if 99 < z1.toInt then 0 else 1 else (0 : Int32)
def wo_k162_X7_allows : List Cond := [Cond.fieldLink RX7 23 "WarpDesk$Settings" "LOWEST" "[I", Cond.fieldLink RX7 26 "WarpDesk$Settings" "HIGHEST" "[I"]
def wz_k162_X7_allows : List Cond := .code yX7_allows cX7_allows 2 (some .boolean) :: (wo_k162_X7_allows ++ ([] : List Cond))
theorem zg_k162_X7_allows : ∀ w ∈ wz_k162_X7_allows, goodWord w = true := zg_cons rfl (zg_app (by decide +kernel) zg_nil)
theorem zi_k162_X7_allows : ∀ w ∈ wz_k162_X7_allows, w ∈ lw_tbl := zi_cons zw_724 (zi_app (zi_cons zw_725 (zi_cons zw_727 zi_nil)) zi_nil)
set_option maxHeartbeats 4000000 in
set_option maxRecDepth 100000 in
theorem k162_X7_allows (l : Launch) (D : va_G) (zt : Nat × Nat × Nat × (Nat → Nat) × (Nat → Nat)) (q : Nat → Nat) (d : Nat → ClassId) (I : Nat → Int32) (A : Nat → Nat → Int32) (z0 : Int32) (z1 : Int32) (hIv : IvX I A) : GM l D zt (tyX d) yX7_allows wz_k162_X7_allows ({ frames := 0, cells := 0, slots := 0, locals := 0 } : Room) [.int z0, .int z1] (wX q d I A) (fun v _ w' => (FE (fX7_allows I A z0 z1) (0) ∧ v = some (.int 0) ∧ w' = wX q d I A) ∨ ((¬ (z0.toInt < 0)) ∧ (¬ (4 ≤ z0.toInt)) ∧ (0 ≤ z0.toInt) ∧ (z0.toInt ≤ 3) ∧ (0 ≤ z1.toInt) ∧ (z1.toInt ≤ 99) ∧ FE (fX7_allows I A z0 z1) (1) ∧ v = some (.int 1) ∧ w' = wX q d I A)) 0 0 := by
  refine GM.of (cc := cX7_allows) (maxL := 2) (ret := (some .boolean)) (own := RX7) (lv := [(0, .int z0), (1, .int z1)]) (by decide) rfl rfl (Nat.le_of_ble_eq_true rfl) rfl (fun κ sz hk hR hN => ?_)
  have hF : FE (fX7_allows I A z0 z1) (fX7_allows I A z0 z1) := FE.rf
  refine g_iload_n hk dX7_allows_0 rfl ?_
  have b1190l := Int32.le_toInt z0
  have b1190h := Int32.toInt_lt z0
  refine g_if_lt (tgt := 42) (a := z0.toInt) hk dX7_allows_1 (by decide) rfl (fun c1191 => ?_) (fun c1191 => ?_)
  · skip
    replace hF := FE.pos hF c1191
    refine g_iconst (v := 0) hk dX7_allows_42 (by decide) ?_
    exact g_iret hk hR rfl (Or.inl ⟨hF, rfl, rfl⟩) dX7_allows_43
  · skip
    replace hF := FE.neg hF c1191
    refine g_iload_n hk dX7_allows_4 rfl ?_
    refine g_getsL hk (List.mem_cons_of_mem _ (List.mem_append_left _ (List.mem_of_getElem? (i := 0) rfl))) dX7_allows_5 ?_
    refine g_lenL hk dX7_allows_8 ?_
    refine g_icmp_ge (tgt := 42) (a := z0.toInt) (b := 4) hk dX7_allows_9 (by decide) rfl rfl (fun c1192 => ?_) (fun c1192 => ?_)
    · skip
      replace hF := FE.pos hF c1192
      refine g_iconst (v := 0) hk dX7_allows_42 (by decide) ?_
      exact g_iret hk hR rfl (Or.inl ⟨hF, rfl, rfl⟩) dX7_allows_43
    · skip
      replace hF := FE.neg hF c1192
      refine g_iload_n hk dX7_allows_12 rfl ?_
      refine g_getsH hk (List.mem_cons_of_mem _ (List.mem_append_left _ (List.mem_of_getElem? (i := 1) rfl))) dX7_allows_13 ?_
      refine g_lenH hk dX7_allows_16 ?_
      refine g_icmp_ge (tgt := 42) (a := z0.toInt) (b := 4) hk dX7_allows_17 (by decide) rfl rfl (fun z9 => absurd z9 (show ¬ (4 ≤ z0.toInt) from by omega)) (fun _ => ?_)
      refine g_iload_n hk dX7_allows_20 rfl ?_
      refine g_getsL hk (List.mem_cons_of_mem _ (List.mem_append_left _ (List.mem_of_getElem? (i := 0) rfl))) dX7_allows_21 ?_
      refine g_iload_n hk dX7_allows_24 rfl ?_
      by_cases c1193 : z0.toInt = 0
      · have ec1193 : z0 = 0 := Int32.toInt_inj.mp c1193
        replace hF := FE.pos hF c1193
        rw [ec1193]
        show GW κ 2 0 0 (wX q d I A) 25 [(0, .int 0), (1, .int z1)] [.int 0, .ref zt.1, .int z1]
        refine g_sL (v := .int 0) hk (vp_in_iff.mpr ⟨by decide, by decide⟩) rfl dX7_allows_25 ?_
        have b1194l := Int32.le_toInt z1
        have b1194h := Int32.toInt_lt z1
        refine g_icmp_lt (tgt := 42) (a := z1.toInt) (b := 0) hk dX7_allows_26 (by decide) rfl rfl (fun c1195 => ?_) (fun c1195 => ?_)
        · skip
          replace hF := FE.pos hF c1195
          refine g_iconst (v := 0) hk dX7_allows_42 (by decide) ?_
          exact g_iret hk hR rfl (Or.inl ⟨hF, rfl, rfl⟩) dX7_allows_43
        · skip
          replace hF := FE.neg hF c1195
          refine g_iload_n hk dX7_allows_29 rfl ?_
          refine g_getsH hk (List.mem_cons_of_mem _ (List.mem_append_left _ (List.mem_of_getElem? (i := 1) rfl))) dX7_allows_30 ?_
          refine g_iload_n hk dX7_allows_33 rfl ?_
          refine g_sH (v := .int 15) hk (vp_in_iff.mpr ⟨by decide, by decide⟩) rfl dX7_allows_34 ?_
          refine g_icmp_gt (tgt := 42) (a := z1.toInt) (b := 15) hk dX7_allows_35 (by decide) rfl rfl (fun c1196 => ?_) (fun c1196 => ?_)
          · skip
            replace hF := FE.pos hF c1196
            refine g_iconst (v := 0) hk dX7_allows_42 (by decide) ?_
            exact g_iret hk hR rfl (Or.inl ⟨hF, rfl, rfl⟩) dX7_allows_43
          · skip
            replace hF := FE.neg hF c1196
            refine g_iconst (v := 1) hk dX7_allows_38 (by decide) ?_
            refine g_goto (tgt := 43) hk dX7_allows_39 (by decide) ?_
            exact g_iret hk hR rfl (Or.inr (⟨c1191, c1192, (by omega), (by omega), (by omega), (by omega), hF, rfl, rfl⟩)) dX7_allows_43
      replace hF := FE.neg hF c1193
      by_cases c1197 : z0.toInt = 1
      · have ec1197 : z0 = 1 := Int32.toInt_inj.mp c1197
        replace hF := FE.pos hF c1197
        rw [ec1197]
        show GW κ 2 0 0 (wX q d I A) 25 [(0, .int 1), (1, .int z1)] [.int 1, .ref zt.1, .int z1]
        refine g_sL (v := .int 0) hk (vp_in_iff.mpr ⟨by decide, by decide⟩) rfl dX7_allows_25 ?_
        have b1198l := Int32.le_toInt z1
        have b1198h := Int32.toInt_lt z1
        refine g_icmp_lt (tgt := 42) (a := z1.toInt) (b := 0) hk dX7_allows_26 (by decide) rfl rfl (fun c1199 => ?_) (fun c1199 => ?_)
        · skip
          replace hF := FE.pos hF c1199
          refine g_iconst (v := 0) hk dX7_allows_42 (by decide) ?_
          exact g_iret hk hR rfl (Or.inl ⟨hF, rfl, rfl⟩) dX7_allows_43
        · skip
          replace hF := FE.neg hF c1199
          refine g_iload_n hk dX7_allows_29 rfl ?_
          refine g_getsH hk (List.mem_cons_of_mem _ (List.mem_append_left _ (List.mem_of_getElem? (i := 1) rfl))) dX7_allows_30 ?_
          refine g_iload_n hk dX7_allows_33 rfl ?_
          refine g_sH (v := .int 3) hk (vp_in_iff.mpr ⟨by decide, by decide⟩) rfl dX7_allows_34 ?_
          refine g_icmp_gt (tgt := 42) (a := z1.toInt) (b := 3) hk dX7_allows_35 (by decide) rfl rfl (fun c1200 => ?_) (fun c1200 => ?_)
          · skip
            replace hF := FE.pos hF c1200
            refine g_iconst (v := 0) hk dX7_allows_42 (by decide) ?_
            exact g_iret hk hR rfl (Or.inl ⟨hF, rfl, rfl⟩) dX7_allows_43
          · skip
            replace hF := FE.neg hF c1200
            refine g_iconst (v := 1) hk dX7_allows_38 (by decide) ?_
            refine g_goto (tgt := 43) hk dX7_allows_39 (by decide) ?_
            exact g_iret hk hR rfl (Or.inr (⟨c1191, c1192, (by omega), (by omega), (by omega), (by omega), hF, rfl, rfl⟩)) dX7_allows_43
      replace hF := FE.neg hF c1197
      by_cases c1201 : z0.toInt = 2
      · have ec1201 : z0 = 2 := Int32.toInt_inj.mp c1201
        replace hF := FE.pos hF c1201
        rw [ec1201]
        show GW κ 2 0 0 (wX q d I A) 25 [(0, .int 2), (1, .int z1)] [.int 2, .ref zt.1, .int z1]
        refine g_sL (v := .int 0) hk (vp_in_iff.mpr ⟨by decide, by decide⟩) rfl dX7_allows_25 ?_
        have b1202l := Int32.le_toInt z1
        have b1202h := Int32.toInt_lt z1
        refine g_icmp_lt (tgt := 42) (a := z1.toInt) (b := 0) hk dX7_allows_26 (by decide) rfl rfl (fun c1203 => ?_) (fun c1203 => ?_)
        · skip
          replace hF := FE.pos hF c1203
          refine g_iconst (v := 0) hk dX7_allows_42 (by decide) ?_
          exact g_iret hk hR rfl (Or.inl ⟨hF, rfl, rfl⟩) dX7_allows_43
        · skip
          replace hF := FE.neg hF c1203
          refine g_iload_n hk dX7_allows_29 rfl ?_
          refine g_getsH hk (List.mem_cons_of_mem _ (List.mem_append_left _ (List.mem_of_getElem? (i := 1) rfl))) dX7_allows_30 ?_
          refine g_iload_n hk dX7_allows_33 rfl ?_
          refine g_sH (v := .int 1) hk (vp_in_iff.mpr ⟨by decide, by decide⟩) rfl dX7_allows_34 ?_
          refine g_icmp_gt (tgt := 42) (a := z1.toInt) (b := 1) hk dX7_allows_35 (by decide) rfl rfl (fun c1204 => ?_) (fun c1204 => ?_)
          · skip
            replace hF := FE.pos hF c1204
            refine g_iconst (v := 0) hk dX7_allows_42 (by decide) ?_
            exact g_iret hk hR rfl (Or.inl ⟨hF, rfl, rfl⟩) dX7_allows_43
          · skip
            replace hF := FE.neg hF c1204
            refine g_iconst (v := 1) hk dX7_allows_38 (by decide) ?_
            refine g_goto (tgt := 43) hk dX7_allows_39 (by decide) ?_
            exact g_iret hk hR rfl (Or.inr (⟨c1191, c1192, (by omega), (by omega), (by omega), (by omega), hF, rfl, rfl⟩)) dX7_allows_43
      replace hF := FE.neg hF c1201
      by_cases c1205 : z0.toInt = 3
      · have ec1205 : z0 = 3 := Int32.toInt_inj.mp c1205
        replace hF := FE.pos hF c1205
        rw [ec1205]
        show GW κ 2 0 0 (wX q d I A) 25 [(0, .int 3), (1, .int z1)] [.int 3, .ref zt.1, .int z1]
        refine g_sL (v := .int 1) hk (vp_in_iff.mpr ⟨by decide, by decide⟩) rfl dX7_allows_25 ?_
        have b1206l := Int32.le_toInt z1
        have b1206h := Int32.toInt_lt z1
        refine g_icmp_lt (tgt := 42) (a := z1.toInt) (b := 1) hk dX7_allows_26 (by decide) rfl rfl (fun c1207 => ?_) (fun c1207 => ?_)
        · skip
          replace hF := FE.pos hF c1207
          refine g_iconst (v := 0) hk dX7_allows_42 (by decide) ?_
          exact g_iret hk hR rfl (Or.inl ⟨hF, rfl, rfl⟩) dX7_allows_43
        · skip
          replace hF := FE.neg hF c1207
          refine g_iload_n hk dX7_allows_29 rfl ?_
          refine g_getsH hk (List.mem_cons_of_mem _ (List.mem_append_left _ (List.mem_of_getElem? (i := 1) rfl))) dX7_allows_30 ?_
          refine g_iload_n hk dX7_allows_33 rfl ?_
          refine g_sH (v := .int 99) hk (vp_in_iff.mpr ⟨by decide, by decide⟩) rfl dX7_allows_34 ?_
          refine g_icmp_gt (tgt := 42) (a := z1.toInt) (b := 99) hk dX7_allows_35 (by decide) rfl rfl (fun c1208 => ?_) (fun c1208 => ?_)
          · skip
            replace hF := FE.pos hF c1208
            refine g_iconst (v := 0) hk dX7_allows_42 (by decide) ?_
            exact g_iret hk hR rfl (Or.inl ⟨hF, rfl, rfl⟩) dX7_allows_43
          · skip
            replace hF := FE.neg hF c1208
            refine g_iconst (v := 1) hk dX7_allows_38 (by decide) ?_
            refine g_goto (tgt := 43) hk dX7_allows_39 (by decide) ?_
            exact g_iret hk hR rfl (Or.inr (⟨c1191, c1192, (by omega), (by omega), (by omega), (by omega), hF, rfl, rfl⟩)) dX7_allows_43
      replace hF := FE.neg hF c1205
      exfalso; omega
noncomputable def fX5_acceptNumber (I : Nat → Int32) (A : Nat → Nat → Int32) : Int32 × (Nat → Int32) × (Nat → Nat → Int32) := if fX7_allows I A (I 7) (I 3) = 0 then f_bdX (fX5_mark I A 5) fun _ I1219 A1219 => f_bdX (fX7_put I1219 A1219 (I 7) (I 3)) fun _ I1221 A1221 => (0, (upd I1221 6 6), A1221) else f_bdX (fX7_put I A (I 7) (I 3)) fun _ I1223 A1223 => (0, (upd I1223 6 6), A1223)
def wo_k161_X5_acceptNumber : List Cond := [Cond.fieldLink RX5 141 "WarpDesk$Reader" "tell" "I", Cond.fieldLink RX5 42 "WarpDesk$Reader" "tape" "LWarpDesk$Tape;", Cond.fieldLink RX5 190 "WarpDesk$Tape" "value" "I", Cond.methodLink RX5 193 yX7_allows, Cond.static yX7_allows, Cond.initialized RX7, Cond.methodLink RX5 181 yX5_mark, Cond.instanceMethod yX5_mark, Cond.selects RX5 yX5_mark yX5_mark, Cond.initialized RX5, Cond.fieldLink RX5 12 "WarpDesk$Reader" "draft" "LWarpDesk$Stand;", Cond.fieldLink RX5 137 "WarpDesk$Stand" "settings" "LWarpDesk$Settings;", Cond.methodLink RX5 144 yX7_put, Cond.instanceMethod yX7_put, Cond.selects RX7 yX7_put yX7_put, Cond.fieldLink RX5 75 "WarpDesk$Reader" "state" "I"]
def wz_k161_X5_acceptNumber : List Cond := .code yX5_acceptNumber cX5_acceptNumber 1 none :: (wo_k161_X5_acceptNumber ++ (wsX50 ++ (wsX80 ++ (wsX100 ++ (wz_k162_X7_allows ++ (wz_k157_X5_mark ++ (wz_k121_X7_put ++ ([] : List Cond))))))))
theorem zg_k161_X5_acceptNumber : ∀ w ∈ wz_k161_X5_acceptNumber, goodWord w = true := zg_cons rfl (zg_app (by decide +kernel) (zg_app zgU_wsX50 (zg_app zgU_wsX80 (zg_app zgU_wsX100 (zg_app zg_k162_X7_allows (zg_app zg_k157_X5_mark (zg_app zg_k121_X7_put zg_nil)))))))
theorem zi_k161_X5_acceptNumber : ∀ w ∈ wz_k161_X5_acceptNumber, w ∈ lw_tbl := zi_cons zw_721 (zi_app (zi_cons zw_238 (zi_cons zw_230 (zi_cons zw_143 (zi_cons zw_722 (zi_cons zw_723 (zi_cons zw_107 (zi_cons zw_709 (zi_cons zw_711 (zi_cons zw_18 (zi_cons zw_105 (zi_cons zw_231 (zi_cons zw_199 (zi_cons zw_729 (zi_cons zw_551 (zi_cons zw_552 (zi_cons zw_237 zi_nil)))))))))))))))) (zi_app inX5 (zi_app inX8 (zi_app inX10 (zi_app zi_k162_X7_allows (zi_app zi_k157_X5_mark (zi_app zi_k121_X7_put zi_nil)))))))
set_option maxHeartbeats 4000000 in
set_option maxRecDepth 100000 in
theorem k161_X5_acceptNumber (l : Launch) (D : va_G) (zt : Nat × Nat × Nat × (Nat → Nat) × (Nat → Nat)) (q : Nat → Nat) (d : Nat → ClassId) (I : Nat → Int32) (A : Nat → Nat → Int32) (hIv : IvX I A) : GM l D zt (tyX d) yX5_acceptNumber wz_k161_X5_acceptNumber ({ frames := 2, cells := 0, slots := 0, locals := 42 } : Room) [.ref (q 3)] (wX q d I A) (fun v _ w' => ∃ (I' : Nat → Int32) (A' : Nat → Nat → Int32), Md [6, 11, 12, 13] I I' ∧ Md [2] A A' ∧ IvX I' A' ∧ FE (fX5_acceptNumber I A) (0, I', A') ∧ v = none ∧ w' = wX q d I' A') 0 0 := by
  refine GM.of (cc := cX5_acceptNumber) (maxL := 1) (ret := none) (own := RX5) (lv := [(0, .ref (q 3))]) (by decide) rfl rfl (Nat.le_of_ble_eq_true rfl) rfl (fun κ sz hk hR hN => ?_)
  have hin5 : ∀ w ∈ u_ws RX5 TX5 13, w ∈ wz_k161_X5_acceptNumber := fun w h => (List.mem_cons_of_mem _ (List.mem_append_right _ (List.mem_append_left _ h)))
  have hin8 : ∀ w ∈ u_ws RX8 TX8 4, w ∈ wz_k161_X5_acceptNumber := fun w h => (List.mem_cons_of_mem _ (List.mem_append_right _ (List.mem_append_right _ (List.mem_append_left _ h))))
  have hin10 : ∀ w ∈ u_ws RX10 TX10 7, w ∈ wz_k161_X5_acceptNumber := fun w h => (List.mem_cons_of_mem _ (List.mem_append_right _ (List.mem_append_right _ (List.mem_append_right _ (List.mem_append_left _ h)))))
  have hF : FE (fX5_acceptNumber I A) (fX5_acceptNumber I A) := FE.rf
  refine g_aload_n hk dX5_acceptNumber_0 rfl ?_
  refine gX_i7 (v := (I 7)) hk hin5 (List.mem_cons_of_mem _ (List.mem_append_left _ (List.mem_of_getElem? (i := 0) rfl))) dX5_acceptNumber_1 rfl ?_
  refine g_aload_n hk dX5_acceptNumber_4 rfl ?_
  refine gX_r3_0 hk hin5 (List.mem_cons_of_mem _ (List.mem_append_left _ (List.mem_of_getElem? (i := 1) rfl))) dX5_acceptNumber_5 ?_
  refine gX_i3 (v := (I 3)) hk hin10 (List.mem_cons_of_mem _ (List.mem_append_left _ (List.mem_of_getElem? (i := 2) rfl))) dX5_acceptNumber_8 rfl ?_
  refine g_callS (n := 2) hk (k162_X7_allows l D zt q d I A (I 7) (I 3) hIv) (SP.same _) (fun _ h => h) (gi_S (List.mem_cons_of_mem _ (List.mem_append_left _ (List.mem_of_getElem? (i := 3) rfl))) (List.mem_cons_of_mem _ (List.mem_append_left _ (List.mem_of_getElem? (i := 4) rfl))) (List.mem_cons_of_mem _ (List.mem_append_left _ (List.mem_of_getElem? (i := 5) rfl))) (gi_sub (fun w h => (List.mem_cons_of_mem _ (List.mem_append_right _ (List.mem_append_right _ (List.mem_append_right _ (List.mem_append_right _ (List.mem_append_left _ h))))))) zg_k162_X7_allows)) rfl rfl rfl (by decide +kernel) ⟨Nat.le_of_ble_eq_true rfl, Nat.le_of_ble_eq_true rfl⟩ rfl rfl (Nat.le_of_ble_eq_true rfl) ⟨Nat.le_of_ble_eq_true rfl, Nat.le_of_ble_eq_true rfl⟩ dX5_acceptNumber_11 (fun v ty' w' hp hk' => ?_)
  rcases hp with ⟨hC, rfl, rfl⟩ | ⟨c1210, c1211, c1212, c1213, c1214, c1215, hC, rfl, rfl⟩
  · skip
    replace hF := FE.pos hF hC
    show GW κ 1 0 0 (wX q d I A) 14 [(0, .ref (q 3))] [.int 0]
    refine g_if_ne (tgt := 22) (a := 0) hk dX5_acceptNumber_14 (by decide) rfl (fun z9 => absurd z9 (show ¬ ((0 : Int) ≠ (0 : Int)) from by decide)) (fun _ => ?_)
    refine g_aload_n hk dX5_acceptNumber_17 rfl ?_
    refine g_iconst (v := 5) hk dX5_acceptNumber_18 (by decide) ?_
    have k1217 : (5 : Int32).toInt = 5 := rfl
    refine g_callV (n := 1) hk (k157_X5_mark l D zt q d I A 5 hIv) (SP.same _) (fun _ h => h) (gi_V (List.mem_cons_of_mem _ (List.mem_append_left _ (List.mem_of_getElem? (i := 6) rfl))) (List.mem_cons_of_mem _ (List.mem_append_left _ (List.mem_of_getElem? (i := 7) rfl))) (List.mem_cons_of_mem _ (List.mem_append_left _ (List.mem_of_getElem? (i := 8) rfl))) (List.mem_cons_of_mem _ (List.mem_append_left _ (List.mem_of_getElem? (i := 9) rfl))) (gi_sub (fun w h => (List.mem_cons_of_mem _ (List.mem_append_right _ (List.mem_append_right _ (List.mem_append_right _ (List.mem_append_right _ (List.mem_append_right _ (List.mem_append_left _ h)))))))) zg_k157_X5_mark)) rfl rfl rfl (by decide +kernel) ⟨Nat.le_of_ble_eq_true rfl, Nat.le_of_ble_eq_true rfl⟩ 3 rfl rfl rfl rfl (Nat.le_of_ble_eq_true rfl) ⟨Nat.le_of_ble_eq_true rfl, Nat.le_of_ble_eq_true rfl⟩ dX5_acceptNumber_19 (fun v ty' w' hp hk' => ?_)
    obtain ⟨I1219, A1219, hI1219, hA1219, hV1219, hC, rfl, rfl⟩ := hp
    replace hF := FE.bdX hF hC
    show GW κ 1 0 0 (wX q d I1219 A1219) 22 [(0, .ref (q 3))] []
    refine g_aload_n hk dX5_acceptNumber_22 rfl ?_
    refine gX_r3_1 hk hin5 (List.mem_cons_of_mem _ (List.mem_append_left _ (List.mem_of_getElem? (i := 10) rfl))) dX5_acceptNumber_23 ?_
    refine gX_r4_2 hk hin8 (List.mem_cons_of_mem _ (List.mem_append_left _ (List.mem_of_getElem? (i := 11) rfl))) dX5_acceptNumber_26 ?_
    refine g_aload_n hk dX5_acceptNumber_29 rfl ?_
    refine gX_i7 (v := (I 7)) hk hin5 (List.mem_cons_of_mem _ (List.mem_append_left _ (List.mem_of_getElem? (i := 0) rfl))) dX5_acceptNumber_30 (hI1219 7 rfl) ?_
    refine g_aload_n hk dX5_acceptNumber_33 rfl ?_
    refine gX_r3_0 hk hin5 (List.mem_cons_of_mem _ (List.mem_append_left _ (List.mem_of_getElem? (i := 1) rfl))) dX5_acceptNumber_34 ?_
    refine gX_i3 (v := (I 3)) hk hin10 (List.mem_cons_of_mem _ (List.mem_append_left _ (List.mem_of_getElem? (i := 2) rfl))) dX5_acceptNumber_37 (hI1219 3 rfl) ?_
    refine g_callV (n := 2) hk (k121_X7_put l D zt q d I1219 A1219 (I 7) (I 3) hV1219) (SP.same _) (fun _ h => h) (gi_V (List.mem_cons_of_mem _ (List.mem_append_left _ (List.mem_of_getElem? (i := 12) rfl))) (List.mem_cons_of_mem _ (List.mem_append_left _ (List.mem_of_getElem? (i := 13) rfl))) (List.mem_cons_of_mem _ (List.mem_append_left _ (List.mem_of_getElem? (i := 14) rfl))) (List.mem_cons_of_mem _ (List.mem_append_left _ (List.mem_of_getElem? (i := 5) rfl))) (gi_sub (fun w h => (List.mem_cons_of_mem _ (List.mem_append_right _ (List.mem_append_right _ (List.mem_append_right _ (List.mem_append_right _ (List.mem_append_right _ (List.mem_append_right _ (List.mem_append_left _ h))))))))) zg_k121_X7_put)) rfl rfl rfl (by decide +kernel) ⟨Nat.le_of_ble_eq_true rfl, Nat.le_of_ble_eq_true rfl⟩ 6 rfl rfl rfl rfl (Nat.le_of_ble_eq_true rfl) ⟨Nat.le_of_ble_eq_true rfl, Nat.le_of_ble_eq_true rfl⟩ dX5_acceptNumber_40 (fun v ty' w' hp hk' => ?_)
    obtain ⟨I1221, A1221, hI1221, hA1221, hV1221, hC, rfl, rfl⟩ := hp
    replace hF := FE.bdX hF hC
    show GW κ 1 0 0 (wX q d I1221 A1221) 43 [(0, .ref (q 3))] []
    refine g_aload_n hk dX5_acceptNumber_43 rfl ?_
    refine g_bipush (v := 6) hk dX5_acceptNumber_44 (by decide) ?_
    refine pX_i6 hk hin5 (List.mem_cons_of_mem _ (List.mem_append_left _ (List.mem_of_getElem? (i := 15) rfl))) dX5_acceptNumber_46 ?_
    exact g_vret hk hR ⟨(upd I1221 6 6), A1221, (show Md [6, 11, 12, 13] I (upd I1221 6 6) from (Md.up (Md.tr (Md.tr Md.rf hI1219 rfl) hI1221 rfl) rfl)), (show Md [2] A A1221 from (Md.tr (Md.tr Md.rf hA1219 rfl) hA1221 rfl)), ⟨(IvX_f0 (I := I1221) (A := A1221) hV1221), (IvX_f18 (I := I1221) (A := A1221) hV1221), (IvX_f30 (I := I1221) (A := A1221) hV1221), (IvX_f31 (I := I1221) (A := A1221) hV1221), (IvX_a4 (I := I1221) (A := A1221) hV1221), (IvX_a9 (I := I1221) (A := A1221) hV1221), trivial⟩, hF, rfl, rfl⟩ dX5_acceptNumber_49
  · skip
    replace hF := FE.neg hF (fe_ne hC (by decide))
    show GW κ 1 0 0 (wX q d I A) 14 [(0, .ref (q 3))] [.int 1]
    refine g_if_ne (tgt := 22) (a := 1) hk dX5_acceptNumber_14 (by decide) rfl (fun _ => ?_) (fun z9 => absurd (show (1 : Int) ≠ (0 : Int) from by decide) z9)
    refine g_aload_n hk dX5_acceptNumber_22 rfl ?_
    refine gX_r3_1 hk hin5 (List.mem_cons_of_mem _ (List.mem_append_left _ (List.mem_of_getElem? (i := 10) rfl))) dX5_acceptNumber_23 ?_
    refine gX_r4_2 hk hin8 (List.mem_cons_of_mem _ (List.mem_append_left _ (List.mem_of_getElem? (i := 11) rfl))) dX5_acceptNumber_26 ?_
    refine g_aload_n hk dX5_acceptNumber_29 rfl ?_
    refine gX_i7 (v := (I 7)) hk hin5 (List.mem_cons_of_mem _ (List.mem_append_left _ (List.mem_of_getElem? (i := 0) rfl))) dX5_acceptNumber_30 rfl ?_
    refine g_aload_n hk dX5_acceptNumber_33 rfl ?_
    refine gX_r3_0 hk hin5 (List.mem_cons_of_mem _ (List.mem_append_left _ (List.mem_of_getElem? (i := 1) rfl))) dX5_acceptNumber_34 ?_
    refine gX_i3 (v := (I 3)) hk hin10 (List.mem_cons_of_mem _ (List.mem_append_left _ (List.mem_of_getElem? (i := 2) rfl))) dX5_acceptNumber_37 rfl ?_
    refine g_callV (n := 2) hk (k121_X7_put l D zt q d I A (I 7) (I 3) hIv) (SP.same _) (fun _ h => h) (gi_V (List.mem_cons_of_mem _ (List.mem_append_left _ (List.mem_of_getElem? (i := 12) rfl))) (List.mem_cons_of_mem _ (List.mem_append_left _ (List.mem_of_getElem? (i := 13) rfl))) (List.mem_cons_of_mem _ (List.mem_append_left _ (List.mem_of_getElem? (i := 14) rfl))) (List.mem_cons_of_mem _ (List.mem_append_left _ (List.mem_of_getElem? (i := 5) rfl))) (gi_sub (fun w h => (List.mem_cons_of_mem _ (List.mem_append_right _ (List.mem_append_right _ (List.mem_append_right _ (List.mem_append_right _ (List.mem_append_right _ (List.mem_append_right _ (List.mem_append_left _ h))))))))) zg_k121_X7_put)) rfl rfl rfl (by decide +kernel) ⟨Nat.le_of_ble_eq_true rfl, Nat.le_of_ble_eq_true rfl⟩ 6 rfl rfl rfl rfl (Nat.le_of_ble_eq_true rfl) ⟨Nat.le_of_ble_eq_true rfl, Nat.le_of_ble_eq_true rfl⟩ dX5_acceptNumber_40 (fun v ty' w' hp hk' => ?_)
    obtain ⟨I1223, A1223, hI1223, hA1223, hV1223, hC, rfl, rfl⟩ := hp
    replace hF := FE.bdX hF hC
    show GW κ 1 0 0 (wX q d I1223 A1223) 43 [(0, .ref (q 3))] []
    refine g_aload_n hk dX5_acceptNumber_43 rfl ?_
    refine g_bipush (v := 6) hk dX5_acceptNumber_44 (by decide) ?_
    refine pX_i6 hk hin5 (List.mem_cons_of_mem _ (List.mem_append_left _ (List.mem_of_getElem? (i := 15) rfl))) dX5_acceptNumber_46 ?_
    exact g_vret hk hR ⟨(upd I1223 6 6), A1223, (show Md [6, 11, 12, 13] I (upd I1223 6 6) from (Md.up (Md.tr Md.rf hI1223 rfl) rfl)), (show Md [2] A A1223 from (Md.tr Md.rf hA1223 rfl)), ⟨(IvX_f0 (I := I1223) (A := A1223) hV1223), (IvX_f18 (I := I1223) (A := A1223) hV1223), (IvX_f30 (I := I1223) (A := A1223) hV1223), (IvX_f31 (I := I1223) (A := A1223) hV1223), (IvX_a4 (I := I1223) (A := A1223) hV1223), (IvX_a9 (I := I1223) (A := A1223) hV1223), trivial⟩, hF, rfl, rfl⟩ dX5_acceptNumber_49
noncomputable def fX5_accept (I : Nat → Int32) (A : Nat → Nat → Int32) : Int32 × (Nat → Int32) × (Nat → Nat → Int32) := if (I 6).toInt = 0 then f_bdX (fX5_beginTell I A) fun _ I942 A942 => (0, I942, A942) else if (I 6).toInt = 1 then f_bdX (fX5_acceptInRow I A) fun _ I1015 A1015 => (0, I1015, A1015) else if (I 6).toInt = 2 then f_bdX (fX5_acceptName I A) fun _ I1185 A1185 => (0, I1185, A1185) else if (I 6).toInt = 3 then f_bdX (fX5_acceptInRow I A) fun _ I1188 A1188 => (0, I1188, A1188) else if (I 6).toInt = 4 then f_bdX (fX5_acceptNumber I A) fun _ I1225 A1225 => (0, I1225, A1225) else if (I 6).toInt = 5 then f_lt (fX5_choiceAtHand I A) fun y1227 => f_bdX (fX7_put I A (I 7) y1227) fun _ I1231 A1231 => (0, (upd I1231 6 6), A1231) else if (I 6).toInt = 6 then (0, (upd I 6 0), A) else f_bdX (fX5_acceptInRow I A) fun _ I1234 A1234 => (0, I1234, A1234)
def wo_k150_X5_accept : List Cond := [Cond.fieldLink RX5 75 "WarpDesk$Reader" "state" "I", Cond.methodLink RX5 128 yX5_beginTell, Cond.instanceMethod yX5_beginTell, Cond.selects RX5 yX5_beginTell yX5_beginTell, Cond.initialized RX5, Cond.methodLink RX5 150 yX5_acceptInRow, Cond.instanceMethod yX5_acceptInRow, Cond.selects RX5 yX5_acceptInRow yX5_acceptInRow, Cond.methodLink RX5 131 yX5_acceptName, Cond.instanceMethod yX5_acceptName, Cond.selects RX5 yX5_acceptName yX5_acceptName, Cond.methodLink RX5 134 yX5_acceptNumber, Cond.instanceMethod yX5_acceptNumber, Cond.selects RX5 yX5_acceptNumber yX5_acceptNumber, Cond.fieldLink RX5 12 "WarpDesk$Reader" "draft" "LWarpDesk$Stand;", Cond.fieldLink RX5 137 "WarpDesk$Stand" "settings" "LWarpDesk$Settings;", Cond.fieldLink RX5 141 "WarpDesk$Reader" "tell" "I", Cond.methodLink RX5 115 yX5_choiceAtHand, Cond.instanceMethod yX5_choiceAtHand, Cond.selects RX5 yX5_choiceAtHand yX5_choiceAtHand, Cond.methodLink RX5 144 yX7_put, Cond.instanceMethod yX7_put, Cond.selects RX7 yX7_put yX7_put, Cond.initialized RX7]
def wz_k150_X5_accept : List Cond := .code yX5_accept cX5_accept 1 none :: (wo_k150_X5_accept ++ (wsX50 ++ (wsX80 ++ (wz_k151_X5_beginTell ++ (wz_k152_X5_acceptInRow ++ (wz_k158_X5_acceptName ++ (wz_k161_X5_acceptNumber ++ (wz_k148_X5_choiceAtHand ++ (wz_k121_X7_put ++ ([] : List Cond))))))))))
theorem zg_k150_X5_accept : ∀ w ∈ wz_k150_X5_accept, goodWord w = true := zg_cons rfl (zg_app (by decide +kernel) (zg_app zgU_wsX50 (zg_app zgU_wsX80 (zg_app zg_k151_X5_beginTell (zg_app zg_k152_X5_acceptInRow (zg_app zg_k158_X5_acceptName (zg_app zg_k161_X5_acceptNumber (zg_app zg_k148_X5_choiceAtHand (zg_app zg_k121_X7_put zg_nil)))))))))
theorem zi_k150_X5_accept : ∀ w ∈ wz_k150_X5_accept, w ∈ lw_tbl := zi_cons zw_696 (zi_app (zi_cons zw_237 (zi_cons zw_697 (zi_cons zw_699 (zi_cons zw_16 (zi_cons zw_105 (zi_cons zw_730 (zi_cons zw_732 (zi_cons zw_20 (zi_cons zw_701 (zi_cons zw_703 (zi_cons zw_17 (zi_cons zw_718 (zi_cons zw_720 (zi_cons zw_19 (zi_cons zw_231 (zi_cons zw_199 (zi_cons zw_238 (zi_cons zw_677 (zi_cons zw_679 (zi_cons zw_11 (zi_cons zw_729 (zi_cons zw_551 (zi_cons zw_552 (zi_cons zw_107 zi_nil)))))))))))))))))))))))) (zi_app inX5 (zi_app inX8 (zi_app zi_k151_X5_beginTell (zi_app zi_k152_X5_acceptInRow (zi_app zi_k158_X5_acceptName (zi_app zi_k161_X5_acceptNumber (zi_app zi_k148_X5_choiceAtHand (zi_app zi_k121_X7_put zi_nil)))))))))
set_option maxHeartbeats 4000000 in
set_option maxRecDepth 100000 in
theorem k150_X5_accept (l : Launch) (D : va_G) (zt : Nat × Nat × Nat × (Nat → Nat) × (Nat → Nat)) (q : Nat → Nat) (d : Nat → ClassId) (I : Nat → Int32) (A : Nat → Nat → Int32) (hIv : IvX I A) : GM l D zt (tyX d) yX5_accept wz_k150_X5_accept ({ frames := 7, cells := 0, slots := 0, locals := 147 } : Room) [.ref (q 3)] (wX q d I A) (fun v _ w' => ∃ (I' : Nat → Int32) (A' : Nat → Nat → Int32), Md [6, 7, 8, 9, 11, 12, 13, 14, 16] I I' ∧ Md [1, 2, 3, 4, 5, 6] A A' ∧ IvX I' A' ∧ FE (fX5_accept I A) (0, I', A') ∧ v = none ∧ w' = wX q d I' A') 0 0 := by
  refine GM.of (cc := cX5_accept) (maxL := 1) (ret := none) (own := RX5) (lv := [(0, .ref (q 3))]) (by decide) rfl rfl (Nat.le_of_ble_eq_true rfl) rfl (fun κ sz hk hR hN => ?_)
  have hin5 : ∀ w ∈ u_ws RX5 TX5 13, w ∈ wz_k150_X5_accept := fun w h => (List.mem_cons_of_mem _ (List.mem_append_right _ (List.mem_append_left _ h)))
  have hin8 : ∀ w ∈ u_ws RX8 TX8 4, w ∈ wz_k150_X5_accept := fun w h => (List.mem_cons_of_mem _ (List.mem_append_right _ (List.mem_append_right _ (List.mem_append_left _ h))))
  have hF : FE (fX5_accept I A) (fX5_accept I A) := FE.rf
  refine g_aload_n hk dX5_accept_0 rfl ?_
  refine gX_i6 (v := (I 6)) hk hin5 (List.mem_cons_of_mem _ (List.mem_append_left _ (List.mem_of_getElem? (i := 0) rfl))) dX5_accept_1 rfl ?_
  by_cases c931 : (I 6).toInt = 0
  · refine g_tabIn (tgt := 48) (a := 0) hk dX5_accept_4 c931 (by decide) (by decide) rfl (by decide) ?_
    replace hF := FE.pos hF c931
    refine g_aload_n hk dX5_accept_48 rfl ?_
    refine g_callV (n := 0) hk (k151_X5_beginTell l D zt q d I A  hIv) (SP.same _) (fun _ h => h) (gi_V (List.mem_cons_of_mem _ (List.mem_append_left _ (List.mem_of_getElem? (i := 1) rfl))) (List.mem_cons_of_mem _ (List.mem_append_left _ (List.mem_of_getElem? (i := 2) rfl))) (List.mem_cons_of_mem _ (List.mem_append_left _ (List.mem_of_getElem? (i := 3) rfl))) (List.mem_cons_of_mem _ (List.mem_append_left _ (List.mem_of_getElem? (i := 4) rfl))) (gi_sub (fun w h => (List.mem_cons_of_mem _ (List.mem_append_right _ (List.mem_append_right _ (List.mem_append_right _ (List.mem_append_left _ h)))))) zg_k151_X5_beginTell)) rfl rfl rfl (by decide +kernel) ⟨Nat.le_of_ble_eq_true rfl, Nat.le_of_ble_eq_true rfl⟩ 3 rfl rfl rfl rfl (Nat.le_of_ble_eq_true rfl) ⟨Nat.le_of_ble_eq_true rfl, Nat.le_of_ble_eq_true rfl⟩ dX5_accept_49 (fun v ty' w' hp hk' => ?_)
    obtain ⟨I942, A942, hI942, hA942, hV942, hC, rfl, rfl⟩ := hp
    replace hF := FE.bdX hF hC
    show GW κ 1 0 0 (wX q d I942 A942) 52 [(0, .ref (q 3))] []
    refine g_goto (tgt := 108) hk dX5_accept_52 (by decide) ?_
    exact g_vret hk hR ⟨I942, A942, (show Md [6, 7, 8, 9, 11, 12, 13, 14, 16] I I942 from (Md.tr Md.rf hI942 rfl)), (show Md [1, 2, 3, 4, 5, 6] A A942 from (Md.tr Md.rf hA942 rfl)), hV942, hF, rfl, rfl⟩ dX5_accept_108
  replace hF := FE.neg hF c931
  by_cases c943 : (I 6).toInt = 1
  · refine g_tabIn (tgt := 104) (a := 1) hk dX5_accept_4 c943 (by decide) (by decide) rfl (by decide) ?_
    replace hF := FE.pos hF c943
    refine g_aload_n hk dX5_accept_104 rfl ?_
    refine g_callV (n := 0) hk (k152_X5_acceptInRow l D zt q d I A  hIv) (SP.same _) (fun _ h => h) (gi_V (List.mem_cons_of_mem _ (List.mem_append_left _ (List.mem_of_getElem? (i := 5) rfl))) (List.mem_cons_of_mem _ (List.mem_append_left _ (List.mem_of_getElem? (i := 6) rfl))) (List.mem_cons_of_mem _ (List.mem_append_left _ (List.mem_of_getElem? (i := 7) rfl))) (List.mem_cons_of_mem _ (List.mem_append_left _ (List.mem_of_getElem? (i := 4) rfl))) (gi_sub (fun w h => (List.mem_cons_of_mem _ (List.mem_append_right _ (List.mem_append_right _ (List.mem_append_right _ (List.mem_append_right _ (List.mem_append_left _ h))))))) zg_k152_X5_acceptInRow)) rfl rfl rfl (by decide +kernel) ⟨Nat.le_of_ble_eq_true rfl, Nat.le_of_ble_eq_true rfl⟩ 3 rfl rfl rfl rfl (Nat.le_of_ble_eq_true rfl) ⟨Nat.le_of_ble_eq_true rfl, Nat.le_of_ble_eq_true rfl⟩ dX5_accept_105 (fun v ty' w' hp hk' => ?_)
    obtain ⟨I1015, A1015, hI1015, hA1015, hV1015, hC, rfl, rfl⟩ := hp
    replace hF := FE.bdX hF hC
    show GW κ 1 0 0 (wX q d I1015 A1015) 108 [(0, .ref (q 3))] []
    exact g_vret hk hR ⟨I1015, A1015, (show Md [6, 7, 8, 9, 11, 12, 13, 14, 16] I I1015 from (Md.tr Md.rf hI1015 rfl)), (show Md [1, 2, 3, 4, 5, 6] A A1015 from (Md.tr Md.rf hA1015 rfl)), hV1015, hF, rfl, rfl⟩ dX5_accept_108
  replace hF := FE.neg hF c943
  by_cases c1016 : (I 6).toInt = 2
  · refine g_tabIn (tgt := 55) (a := 2) hk dX5_accept_4 c1016 (by decide) (by decide) rfl (by decide) ?_
    replace hF := FE.pos hF c1016
    refine g_aload_n hk dX5_accept_55 rfl ?_
    refine g_callV (n := 0) hk (k158_X5_acceptName l D zt q d I A  hIv) (SP.same _) (fun _ h => h) (gi_V (List.mem_cons_of_mem _ (List.mem_append_left _ (List.mem_of_getElem? (i := 8) rfl))) (List.mem_cons_of_mem _ (List.mem_append_left _ (List.mem_of_getElem? (i := 9) rfl))) (List.mem_cons_of_mem _ (List.mem_append_left _ (List.mem_of_getElem? (i := 10) rfl))) (List.mem_cons_of_mem _ (List.mem_append_left _ (List.mem_of_getElem? (i := 4) rfl))) (gi_sub (fun w h => (List.mem_cons_of_mem _ (List.mem_append_right _ (List.mem_append_right _ (List.mem_append_right _ (List.mem_append_right _ (List.mem_append_right _ (List.mem_append_left _ h)))))))) zg_k158_X5_acceptName)) rfl rfl rfl (by decide +kernel) ⟨Nat.le_of_ble_eq_true rfl, Nat.le_of_ble_eq_true rfl⟩ 3 rfl rfl rfl rfl (Nat.le_of_ble_eq_true rfl) ⟨Nat.le_of_ble_eq_true rfl, Nat.le_of_ble_eq_true rfl⟩ dX5_accept_56 (fun v ty' w' hp hk' => ?_)
    obtain ⟨I1185, A1185, hI1185, hA1185, hV1185, hC, rfl, rfl⟩ := hp
    replace hF := FE.bdX hF hC
    show GW κ 1 0 0 (wX q d I1185 A1185) 59 [(0, .ref (q 3))] []
    refine g_goto (tgt := 108) hk dX5_accept_59 (by decide) ?_
    exact g_vret hk hR ⟨I1185, A1185, (show Md [6, 7, 8, 9, 11, 12, 13, 14, 16] I I1185 from (Md.tr Md.rf hI1185 rfl)), (show Md [1, 2, 3, 4, 5, 6] A A1185 from (Md.tr Md.rf hA1185 rfl)), hV1185, hF, rfl, rfl⟩ dX5_accept_108
  replace hF := FE.neg hF c1016
  by_cases c1186 : (I 6).toInt = 3
  · refine g_tabIn (tgt := 104) (a := 3) hk dX5_accept_4 c1186 (by decide) (by decide) rfl (by decide) ?_
    replace hF := FE.pos hF c1186
    refine g_aload_n hk dX5_accept_104 rfl ?_
    refine g_callV (n := 0) hk (k152_X5_acceptInRow l D zt q d I A  hIv) (SP.same _) (fun _ h => h) (gi_V (List.mem_cons_of_mem _ (List.mem_append_left _ (List.mem_of_getElem? (i := 5) rfl))) (List.mem_cons_of_mem _ (List.mem_append_left _ (List.mem_of_getElem? (i := 6) rfl))) (List.mem_cons_of_mem _ (List.mem_append_left _ (List.mem_of_getElem? (i := 7) rfl))) (List.mem_cons_of_mem _ (List.mem_append_left _ (List.mem_of_getElem? (i := 4) rfl))) (gi_sub (fun w h => (List.mem_cons_of_mem _ (List.mem_append_right _ (List.mem_append_right _ (List.mem_append_right _ (List.mem_append_right _ (List.mem_append_left _ h))))))) zg_k152_X5_acceptInRow)) rfl rfl rfl (by decide +kernel) ⟨Nat.le_of_ble_eq_true rfl, Nat.le_of_ble_eq_true rfl⟩ 3 rfl rfl rfl rfl (Nat.le_of_ble_eq_true rfl) ⟨Nat.le_of_ble_eq_true rfl, Nat.le_of_ble_eq_true rfl⟩ dX5_accept_105 (fun v ty' w' hp hk' => ?_)
    obtain ⟨I1188, A1188, hI1188, hA1188, hV1188, hC, rfl, rfl⟩ := hp
    replace hF := FE.bdX hF hC
    show GW κ 1 0 0 (wX q d I1188 A1188) 108 [(0, .ref (q 3))] []
    exact g_vret hk hR ⟨I1188, A1188, (show Md [6, 7, 8, 9, 11, 12, 13, 14, 16] I I1188 from (Md.tr Md.rf hI1188 rfl)), (show Md [1, 2, 3, 4, 5, 6] A A1188 from (Md.tr Md.rf hA1188 rfl)), hV1188, hF, rfl, rfl⟩ dX5_accept_108
  replace hF := FE.neg hF c1186
  by_cases c1189 : (I 6).toInt = 4
  · refine g_tabIn (tgt := 62) (a := 4) hk dX5_accept_4 c1189 (by decide) (by decide) rfl (by decide) ?_
    replace hF := FE.pos hF c1189
    refine g_aload_n hk dX5_accept_62 rfl ?_
    refine g_callV (n := 0) hk (k161_X5_acceptNumber l D zt q d I A  hIv) (SP.same _) (fun _ h => h) (gi_V (List.mem_cons_of_mem _ (List.mem_append_left _ (List.mem_of_getElem? (i := 11) rfl))) (List.mem_cons_of_mem _ (List.mem_append_left _ (List.mem_of_getElem? (i := 12) rfl))) (List.mem_cons_of_mem _ (List.mem_append_left _ (List.mem_of_getElem? (i := 13) rfl))) (List.mem_cons_of_mem _ (List.mem_append_left _ (List.mem_of_getElem? (i := 4) rfl))) (gi_sub (fun w h => (List.mem_cons_of_mem _ (List.mem_append_right _ (List.mem_append_right _ (List.mem_append_right _ (List.mem_append_right _ (List.mem_append_right _ (List.mem_append_right _ (List.mem_append_left _ h))))))))) zg_k161_X5_acceptNumber)) rfl rfl rfl (by decide +kernel) ⟨Nat.le_of_ble_eq_true rfl, Nat.le_of_ble_eq_true rfl⟩ 3 rfl rfl rfl rfl (Nat.le_of_ble_eq_true rfl) ⟨Nat.le_of_ble_eq_true rfl, Nat.le_of_ble_eq_true rfl⟩ dX5_accept_63 (fun v ty' w' hp hk' => ?_)
    obtain ⟨I1225, A1225, hI1225, hA1225, hV1225, hC, rfl, rfl⟩ := hp
    replace hF := FE.bdX hF hC
    show GW κ 1 0 0 (wX q d I1225 A1225) 66 [(0, .ref (q 3))] []
    refine g_goto (tgt := 108) hk dX5_accept_66 (by decide) ?_
    exact g_vret hk hR ⟨I1225, A1225, (show Md [6, 7, 8, 9, 11, 12, 13, 14, 16] I I1225 from (Md.tr Md.rf hI1225 rfl)), (show Md [1, 2, 3, 4, 5, 6] A A1225 from (Md.tr Md.rf hA1225 rfl)), hV1225, hF, rfl, rfl⟩ dX5_accept_108
  replace hF := FE.neg hF c1189
  by_cases c1226 : (I 6).toInt = 5
  · refine g_tabIn (tgt := 69) (a := 5) hk dX5_accept_4 c1226 (by decide) (by decide) rfl (by decide) ?_
    replace hF := FE.pos hF c1226
    refine g_aload_n hk dX5_accept_69 rfl ?_
    refine gX_r3_1 hk hin5 (List.mem_cons_of_mem _ (List.mem_append_left _ (List.mem_of_getElem? (i := 14) rfl))) dX5_accept_70 ?_
    refine gX_r4_2 hk hin8 (List.mem_cons_of_mem _ (List.mem_append_left _ (List.mem_of_getElem? (i := 15) rfl))) dX5_accept_73 ?_
    refine g_aload_n hk dX5_accept_76 rfl ?_
    refine gX_i7 (v := (I 7)) hk hin5 (List.mem_cons_of_mem _ (List.mem_append_left _ (List.mem_of_getElem? (i := 16) rfl))) dX5_accept_77 rfl ?_
    refine g_aload_n hk dX5_accept_80 rfl ?_
    refine g_callV (n := 0) hk (k148_X5_choiceAtHand l D zt q d I A  hIv) (SP.same _) (fun _ h => h) (gi_V (List.mem_cons_of_mem _ (List.mem_append_left _ (List.mem_of_getElem? (i := 17) rfl))) (List.mem_cons_of_mem _ (List.mem_append_left _ (List.mem_of_getElem? (i := 18) rfl))) (List.mem_cons_of_mem _ (List.mem_append_left _ (List.mem_of_getElem? (i := 19) rfl))) (List.mem_cons_of_mem _ (List.mem_append_left _ (List.mem_of_getElem? (i := 4) rfl))) (gi_sub (fun w h => (List.mem_cons_of_mem _ (List.mem_append_right _ (List.mem_append_right _ (List.mem_append_right _ (List.mem_append_right _ (List.mem_append_right _ (List.mem_append_right _ (List.mem_append_right _ (List.mem_append_left _ h)))))))))) zg_k148_X5_choiceAtHand)) rfl rfl rfl (by decide +kernel) ⟨Nat.le_of_ble_eq_true rfl, Nat.le_of_ble_eq_true rfl⟩ 3 rfl rfl rfl rfl (Nat.le_of_ble_eq_true rfl) ⟨Nat.le_of_ble_eq_true rfl, Nat.le_of_ble_eq_true rfl⟩ dX5_accept_81 (fun v ty' w' hp hk' => ?_)
    obtain ⟨y1227, c1228, c1229, hC, rfl, rfl⟩ := hp
    replace hF := FE.lt hF (fe_s hC)
    show GW κ 1 0 0 (wX q d I A) 84 [(0, .ref (q 3))] [.int y1227, .int (I 7), .ref (q 6)]
    refine g_callV (n := 2) hk (k121_X7_put l D zt q d I A (I 7) y1227 hIv) (SP.same _) (fun _ h => h) (gi_V (List.mem_cons_of_mem _ (List.mem_append_left _ (List.mem_of_getElem? (i := 20) rfl))) (List.mem_cons_of_mem _ (List.mem_append_left _ (List.mem_of_getElem? (i := 21) rfl))) (List.mem_cons_of_mem _ (List.mem_append_left _ (List.mem_of_getElem? (i := 22) rfl))) (List.mem_cons_of_mem _ (List.mem_append_left _ (List.mem_of_getElem? (i := 23) rfl))) (gi_sub (fun w h => (List.mem_cons_of_mem _ (List.mem_append_right _ (List.mem_append_right _ (List.mem_append_right _ (List.mem_append_right _ (List.mem_append_right _ (List.mem_append_right _ (List.mem_append_right _ (List.mem_append_right _ (List.mem_append_left _ h))))))))))) zg_k121_X7_put)) rfl rfl rfl (by decide +kernel) ⟨Nat.le_of_ble_eq_true rfl, Nat.le_of_ble_eq_true rfl⟩ 6 rfl rfl rfl rfl (Nat.le_of_ble_eq_true rfl) ⟨Nat.le_of_ble_eq_true rfl, Nat.le_of_ble_eq_true rfl⟩ dX5_accept_84 (fun v ty' w' hp hk' => ?_)
    obtain ⟨I1231, A1231, hI1231, hA1231, hV1231, hC, rfl, rfl⟩ := hp
    replace hF := FE.bdX hF hC
    show GW κ 1 0 0 (wX q d I1231 A1231) 87 [(0, .ref (q 3))] []
    refine g_aload_n hk dX5_accept_87 rfl ?_
    refine g_bipush (v := 6) hk dX5_accept_88 (by decide) ?_
    refine pX_i6 hk hin5 (List.mem_cons_of_mem _ (List.mem_append_left _ (List.mem_of_getElem? (i := 0) rfl))) dX5_accept_90 ?_
    refine g_goto (tgt := 108) hk dX5_accept_93 (by decide) ?_
    exact g_vret hk hR ⟨(upd I1231 6 6), A1231, (show Md [6, 7, 8, 9, 11, 12, 13, 14, 16] I (upd I1231 6 6) from (Md.up (Md.tr Md.rf hI1231 rfl) rfl)), (show Md [1, 2, 3, 4, 5, 6] A A1231 from (Md.tr Md.rf hA1231 rfl)), ⟨(IvX_f0 (I := I1231) (A := A1231) hV1231), (IvX_f18 (I := I1231) (A := A1231) hV1231), (IvX_f30 (I := I1231) (A := A1231) hV1231), (IvX_f31 (I := I1231) (A := A1231) hV1231), (IvX_a4 (I := I1231) (A := A1231) hV1231), (IvX_a9 (I := I1231) (A := A1231) hV1231), trivial⟩, hF, rfl, rfl⟩ dX5_accept_108
  replace hF := FE.neg hF c1226
  by_cases c1232 : (I 6).toInt = 6
  · refine g_tabIn (tgt := 96) (a := 6) hk dX5_accept_4 c1232 (by decide) (by decide) rfl (by decide) ?_
    replace hF := FE.pos hF c1232
    refine g_aload_n hk dX5_accept_96 rfl ?_
    refine g_iconst (v := 0) hk dX5_accept_97 (by decide) ?_
    refine pX_i6 hk hin5 (List.mem_cons_of_mem _ (List.mem_append_left _ (List.mem_of_getElem? (i := 0) rfl))) dX5_accept_98 ?_
    refine g_goto (tgt := 108) hk dX5_accept_101 (by decide) ?_
    exact g_vret hk hR ⟨(upd I 6 0), A, (show Md [6, 7, 8, 9, 11, 12, 13, 14, 16] I (upd I 6 0) from (Md.up Md.rf rfl)), (show Md [1, 2, 3, 4, 5, 6] A A from Md.rf), ⟨(IvX_f0 (I := I) (A := A) hIv), (IvX_f18 (I := I) (A := A) hIv), (IvX_f30 (I := I) (A := A) hIv), (IvX_f31 (I := I) (A := A) hIv), (IvX_a4 (I := I) (A := A) hIv), (IvX_a9 (I := I) (A := A) hIv), trivial⟩, hF, rfl, rfl⟩ dX5_accept_108
  replace hF := FE.neg hF c1232
  refine g_tabOut (tgt := 104) (a := (I 6).toInt) hk dX5_accept_4 rfl (by omega) (by decide) ?_
  refine g_aload_n hk dX5_accept_104 rfl ?_
  refine g_callV (n := 0) hk (k152_X5_acceptInRow l D zt q d I A  hIv) (SP.same _) (fun _ h => h) (gi_V (List.mem_cons_of_mem _ (List.mem_append_left _ (List.mem_of_getElem? (i := 5) rfl))) (List.mem_cons_of_mem _ (List.mem_append_left _ (List.mem_of_getElem? (i := 6) rfl))) (List.mem_cons_of_mem _ (List.mem_append_left _ (List.mem_of_getElem? (i := 7) rfl))) (List.mem_cons_of_mem _ (List.mem_append_left _ (List.mem_of_getElem? (i := 4) rfl))) (gi_sub (fun w h => (List.mem_cons_of_mem _ (List.mem_append_right _ (List.mem_append_right _ (List.mem_append_right _ (List.mem_append_right _ (List.mem_append_left _ h))))))) zg_k152_X5_acceptInRow)) rfl rfl rfl (by decide +kernel) ⟨Nat.le_of_ble_eq_true rfl, Nat.le_of_ble_eq_true rfl⟩ 3 rfl rfl rfl rfl (Nat.le_of_ble_eq_true rfl) ⟨Nat.le_of_ble_eq_true rfl, Nat.le_of_ble_eq_true rfl⟩ dX5_accept_105 (fun v ty' w' hp hk' => ?_)
  obtain ⟨I1234, A1234, hI1234, hA1234, hV1234, hC, rfl, rfl⟩ := hp
  replace hF := FE.bdX hF hC
  show GW κ 1 0 0 (wX q d I1234 A1234) 108 [(0, .ref (q 3))] []
  exact g_vret hk hR ⟨I1234, A1234, (show Md [6, 7, 8, 9, 11, 12, 13, 14, 16] I I1234 from (Md.tr Md.rf hI1234 rfl)), (show Md [1, 2, 3, 4, 5, 6] A A1234 from (Md.tr Md.rf hA1234 rfl)), hV1234, hF, rfl, rfl⟩ dX5_accept_108
noncomputable def bX5_readText_6 : (Int32 → (Nat → Int32) → (Nat → Nat → Int32) → (Int32 × (Nat → Int32) × (Nat → Nat → Int32))) → Int32 → (Nat → Int32) → (Nat → Nat → Int32) → (Int32 × (Nat → Int32) × (Nat → Nat → Int32)) := fun kk1357 x703 I705 A705 => if 400 < x703.toInt then if (I705 10).toInt ≠ 0 then ((I705 11), I705, A705) else if (I705 6).toInt = 0 then ((I705 11), I705, A705) else f_bdX (fX5_stop I705 A705 1) fun _ I1368 A1368 => ((I1368 11), I1368, A1368) else if (I705 10).toInt ≠ 0 then if (I705 10).toInt ≠ 0 then ((I705 11), I705, A705) else if (I705 6).toInt = 0 then ((I705 11), I705, A705) else f_bdX (fX5_stop I705 A705 1) fun _ I1379 A1379 => ((I1379 11), I1379, A1379) else if (I705 1).toInt = 0 then if (I705 6).toInt = 0 then ((I705 11), I705, A705) else f_bdX (fX5_stop I705 A705 1) fun _ I1388 A1388 => ((I1388 11), I1388, A1388) else if fX5_mayStand I705 A705 = 0 then f_bdX (fX5_stop I705 A705 1) fun _ I1394 A1394 => f_lt (x703 + Int32.ofInt 1) fun y1395 => kk1357 y1395 I1394 A1394 else if fX5_hasRoom I705 A705 = 0 then f_bdX (fX5_stop I705 A705 2) fun _ I1400 A1400 => f_lt (x703 + Int32.ofInt 1) fun y1401 => kk1357 y1401 I1400 A1400 else f_bdX (fX5_accept I705 A705) fun _ I1403 A1403 => f_bdX (fX10_toNextToken I1403 A1403) fun _ I1405 A1405 => f_lt (x703 + Int32.ofInt 1) fun y1406 => kk1357 y1406 I1405 A1405
noncomputable def fX5_readText (I : Nat → Int32) (A : Nat → Nat → Int32) : Int32 × (Nat → Int32) × (Nat → Nat → Int32) := f_bdX (fX5_begin I A) fun _ I702 A702 => itr_iIA dfX (bX5_readText_6) FU 0 I702 A702
def wo_k117_X5_readText : List Cond := [Cond.methodLink RX5 46 yX5_begin, Cond.instanceMethod yX5_begin, Cond.selects RX5 yX5_begin yX5_begin, Cond.initialized RX5, Cond.fieldLink RX5 49 "WarpDesk$Reader" "isStopped" "Z", Cond.fieldLink RX5 78 "WarpDesk$Reader" "fault" "I", Cond.fieldLink RX5 75 "WarpDesk$Reader" "state" "I", Cond.methodLink RX5 62 yX5_stop, Cond.instanceMethod yX5_stop, Cond.selects RX5 yX5_stop yX5_stop, Cond.fieldLink RX5 42 "WarpDesk$Reader" "tape" "LWarpDesk$Tape;", Cond.fieldLink RX5 53 "WarpDesk$Tape" "kind" "I", Cond.methodLink RX5 58 yX5_mayStand, Cond.instanceMethod yX5_mayStand, Cond.selects RX5 yX5_mayStand yX5_mayStand, Cond.methodLink RX5 66 yX5_hasRoom, Cond.instanceMethod yX5_hasRoom, Cond.selects RX5 yX5_hasRoom yX5_hasRoom, Cond.methodLink RX5 69 yX5_accept, Cond.instanceMethod yX5_accept, Cond.selects RX5 yX5_accept yX5_accept, Cond.methodLink RX5 72 yX10_toNextToken, Cond.instanceMethod yX10_toNextToken, Cond.selects RX10 yX10_toNextToken yX10_toNextToken, Cond.initialized RX10]
def wz_k117_X5_readText : List Cond := .code yX5_readText cX5_readText 2 (some .int) :: (wo_k117_X5_readText ++ (wsX50 ++ (wsX100 ++ (wz_k118_X5_begin ++ (wz_k130_X5_stop ++ (wz_k132_X5_mayStand ++ (wz_k149_X5_hasRoom ++ (wz_k150_X5_accept ++ (wz_k123_X10_toNextToken ++ ([] : List Cond))))))))))
theorem zg_k117_X5_readText : ∀ w ∈ wz_k117_X5_readText, goodWord w = true := zg_cons rfl (zg_app (by decide +kernel) (zg_app zgU_wsX50 (zg_app zgU_wsX100 (zg_app zg_k118_X5_begin (zg_app zg_k130_X5_stop (zg_app zg_k132_X5_mayStand (zg_app zg_k149_X5_hasRoom (zg_app zg_k150_X5_accept (zg_app zg_k123_X10_toNextToken zg_nil)))))))))
theorem zi_k117_X5_readText : ∀ w ∈ wz_k117_X5_readText, w ∈ lw_tbl := zi_cons zw_537 (zi_app (zi_cons zw_538 (zi_cons zw_540 (zi_cons zw_0 (zi_cons zw_105 (zi_cons zw_241 (zi_cons zw_242 (zi_cons zw_237 (zi_cons zw_681 (zi_cons zw_683 (zi_cons zw_12 (zi_cons zw_230 (zi_cons zw_138 (zi_cons zw_584 (zi_cons zw_586 (zi_cons zw_5 (zi_cons zw_689 (zi_cons zw_691 (zi_cons zw_14 (zi_cons zw_693 (zi_cons zw_695 (zi_cons zw_15 (zi_cons zw_750 (zi_cons zw_559 (zi_cons zw_560 (zi_cons zw_104 zi_nil))))))))))))))))))))))))) (zi_app inX5 (zi_app inX10 (zi_app zi_k118_X5_begin (zi_app zi_k130_X5_stop (zi_app zi_k132_X5_mayStand (zi_app zi_k149_X5_hasRoom (zi_app zi_k150_X5_accept (zi_app zi_k123_X10_toNextToken zi_nil)))))))))
set_option maxHeartbeats 4000000 in
set_option maxRecDepth 100000 in
theorem k117_X5_readText (l : Launch) (D : va_G) (zt : Nat × Nat × Nat × (Nat → Nat) × (Nat → Nat)) (q : Nat → Nat) (d : Nat → ClassId) (I : Nat → Int32) (A : Nat → Nat → Int32) (hIv : IvX I A) : GM l D zt (tyX d) yX5_readText wz_k117_X5_readText ({ frames := 8, cells := 0, slots := 0, locals := 168 } : Room) [.ref (q 3)] (wX q d I A) (fun v _ w' => ∃ (I' : Nat → Int32) (A' : Nat → Nat → Int32), Md [1, 2, 3, 4, 5, 6, 7, 8, 9, 10, 11, 12, 13, 14, 16] I I' ∧ Md [1, 2, 3, 4, 5, 6] A A' ∧ IvX I' A' ∧ ∃ y0 : Int32, FE (fX5_readText I A) (y0, I', A') ∧ v = some (.int y0) ∧ w' = wX q d I' A') 0 0 := by
  refine GM.of (cc := cX5_readText) (maxL := 2) (ret := (some .int)) (own := RX5) (lv := [(0, .ref (q 3))]) (by decide) rfl rfl (Nat.le_of_ble_eq_true rfl) rfl (fun κ sz hk hR hN => ?_)
  have hin5 : ∀ w ∈ u_ws RX5 TX5 13, w ∈ wz_k117_X5_readText := fun w h => (List.mem_cons_of_mem _ (List.mem_append_right _ (List.mem_append_left _ h)))
  have hin10 : ∀ w ∈ u_ws RX10 TX10 7, w ∈ wz_k117_X5_readText := fun w h => (List.mem_cons_of_mem _ (List.mem_append_right _ (List.mem_append_right _ (List.mem_append_left _ h))))
  have hF : FE (fX5_readText I A) (fX5_readText I A) := FE.rf
  refine g_aload_n hk dX5_readText_0 rfl ?_
  refine g_callV (n := 0) hk (k118_X5_begin l D zt q d I A  hIv) (SP.same _) (fun _ h => h) (gi_V (List.mem_cons_of_mem _ (List.mem_append_left _ (List.mem_of_getElem? (i := 0) rfl))) (List.mem_cons_of_mem _ (List.mem_append_left _ (List.mem_of_getElem? (i := 1) rfl))) (List.mem_cons_of_mem _ (List.mem_append_left _ (List.mem_of_getElem? (i := 2) rfl))) (List.mem_cons_of_mem _ (List.mem_append_left _ (List.mem_of_getElem? (i := 3) rfl))) (gi_sub (fun w h => (List.mem_cons_of_mem _ (List.mem_append_right _ (List.mem_append_right _ (List.mem_append_right _ (List.mem_append_left _ h)))))) zg_k118_X5_begin)) rfl rfl rfl (by decide +kernel) ⟨Nat.le_of_ble_eq_true rfl, Nat.le_of_ble_eq_true rfl⟩ 3 rfl rfl rfl rfl (Nat.le_of_ble_eq_true rfl) ⟨Nat.le_of_ble_eq_true rfl, Nat.le_of_ble_eq_true rfl⟩ dX5_readText_1 (fun v ty' w' hp hk' => ?_)
  obtain ⟨I702, A702, hI702, hA702, hV702, hC, rfl, rfl⟩ := hp
  replace hF := FE.bdX hF hC
  show GW κ 2 0 0 (wX q d I702 A702) 4 [(0, .ref (q 3))] []
  refine g_iconst (v := 0) hk dX5_readText_4 (by decide) ?_
  refine g_istore_n (lv' := [(1, .int 0), (0, .ref (q 3))]) hk dX5_readText_5 (by decide) rfl ?_
  have lp1354 : ∀ (n1355 : Nat) (x703 : Int32) (I705 : Nat → Int32) (A705 : Nat → Nat → Int32), (Md [1, 2, 3, 4, 5, 6, 7, 8, 9, 10, 11, 12, 13, 14, 16] I702 I705) → (Md [1, 2, 3, 4, 5, 6] A702 A705) → (IvX I705 A705) → (0 ≤ x703.toInt) → (x703.toInt ≤ 401) → (401 - x703.toInt < (n1355 : Int)) → (0 < n1355) → (FE (fX5_readText I A) (itr_iIA dfX (bX5_readText_6) n1355 x703 I705 A705)) → GW κ 2 0 0 (wX q d I705 A705) 6 [(1, .int x703), (0, .ref (q 3))] [] := by
    intro n1355
    induction n1355 with
    | zero =>
      intro x703 I705 A705 hI705 hA705 hV705 h1352 h1353 m1356 m1356z hF
      exact absurd m1356z (Nat.lt_irrefl 0)
    | succ n1355 ih1358 =>
      intro x703 I705 A705 hI705 hA705 hV705 h1352 h1353 m1356 m1356z hF
      replace hF := FE.itr_iIA hF
      refine g_iload_n hk dX5_readText_6 rfl ?_
      refine g_sipush (v := 400) hk dX5_readText_7 (by decide) ?_
      refine g_icmp_gt (tgt := 77) (a := x703.toInt) (b := 400) hk dX5_readText_10 (by decide) rfl rfl (fun c1359 => ?_) (fun c1359 => ?_)
      · skip
        replace hF := FE.pos hF c1359
        refine g_aload_n hk dX5_readText_77 rfl ?_
        refine gX_i10 (v := (I705 10)) hk hin5 (List.mem_cons_of_mem _ (List.mem_append_left _ (List.mem_of_getElem? (i := 4) rfl))) dX5_readText_78 rfl ?_
        have b1360l := Int32.le_toInt (I705 10)
        have b1360h := Int32.toInt_lt (I705 10)
        refine g_if_ne (tgt := 96) (a := (I705 10).toInt) hk dX5_readText_81 (by decide) rfl (fun c1361 => ?_) (fun c1361 => ?_)
        · skip
          replace hF := FE.pos hF c1361
          refine g_aload_n hk dX5_readText_96 rfl ?_
          refine gX_i11 (v := (I705 11)) hk hin5 (List.mem_cons_of_mem _ (List.mem_append_left _ (List.mem_of_getElem? (i := 5) rfl))) dX5_readText_97 rfl ?_
          have b1362l := Int32.le_toInt (I705 11)
          have b1362h := Int32.toInt_lt (I705 11)
          exact g_iret hk hR rfl ⟨I705, A705, (show Md [1, 2, 3, 4, 5, 6, 7, 8, 9, 10, 11, 12, 13, 14, 16] I I705 from (Md.tr (Md.tr Md.rf hI702 rfl) hI705 rfl)), (show Md [1, 2, 3, 4, 5, 6] A A705 from (Md.tr (Md.tr Md.rf hA702 rfl) hA705 rfl)), hV705, (I705 11), hF, rfl, rfl⟩ dX5_readText_100
        · skip
          replace hF := FE.neg hF c1361
          refine g_aload_n hk dX5_readText_84 rfl ?_
          refine gX_i6 (v := (I705 6)) hk hin5 (List.mem_cons_of_mem _ (List.mem_append_left _ (List.mem_of_getElem? (i := 6) rfl))) dX5_readText_85 rfl ?_
          have b1363l := Int32.le_toInt (I705 6)
          have b1363h := Int32.toInt_lt (I705 6)
          refine g_if_eq (tgt := 96) (a := (I705 6).toInt) hk dX5_readText_88 (by decide) rfl (fun c1364 => ?_) (fun c1364 => ?_)
          · skip
            replace hF := FE.pos hF c1364
            refine g_aload_n hk dX5_readText_96 rfl ?_
            refine gX_i11 (v := (I705 11)) hk hin5 (List.mem_cons_of_mem _ (List.mem_append_left _ (List.mem_of_getElem? (i := 5) rfl))) dX5_readText_97 rfl ?_
            have b1365l := Int32.le_toInt (I705 11)
            have b1365h := Int32.toInt_lt (I705 11)
            exact g_iret hk hR rfl ⟨I705, A705, (show Md [1, 2, 3, 4, 5, 6, 7, 8, 9, 10, 11, 12, 13, 14, 16] I I705 from (Md.tr (Md.tr Md.rf hI702 rfl) hI705 rfl)), (show Md [1, 2, 3, 4, 5, 6] A A705 from (Md.tr (Md.tr Md.rf hA702 rfl) hA705 rfl)), hV705, (I705 11), hF, rfl, rfl⟩ dX5_readText_100
          · skip
            replace hF := FE.neg hF c1364
            refine g_aload_n hk dX5_readText_91 rfl ?_
            refine g_iconst (v := 1) hk dX5_readText_92 (by decide) ?_
            have k1366 : (1 : Int32).toInt = 1 := rfl
            refine g_callV (n := 1) hk (k130_X5_stop l D zt q d I705 A705 1 hV705) (SP.same _) (fun _ h => h) (gi_V (List.mem_cons_of_mem _ (List.mem_append_left _ (List.mem_of_getElem? (i := 7) rfl))) (List.mem_cons_of_mem _ (List.mem_append_left _ (List.mem_of_getElem? (i := 8) rfl))) (List.mem_cons_of_mem _ (List.mem_append_left _ (List.mem_of_getElem? (i := 9) rfl))) (List.mem_cons_of_mem _ (List.mem_append_left _ (List.mem_of_getElem? (i := 3) rfl))) (gi_sub (fun w h => (List.mem_cons_of_mem _ (List.mem_append_right _ (List.mem_append_right _ (List.mem_append_right _ (List.mem_append_right _ (List.mem_append_left _ h))))))) zg_k130_X5_stop)) rfl rfl rfl (by decide +kernel) ⟨Nat.le_of_ble_eq_true rfl, Nat.le_of_ble_eq_true rfl⟩ 3 rfl rfl rfl rfl (Nat.le_of_ble_eq_true rfl) ⟨Nat.le_of_ble_eq_true rfl, Nat.le_of_ble_eq_true rfl⟩ dX5_readText_93 (fun v ty' w' hp hk' => ?_)
            obtain ⟨I1368, A1368, hI1368, hA1368, hV1368, hC, rfl, rfl⟩ := hp
            replace hF := FE.bdX hF hC
            show GW κ 2 0 0 (wX q d I1368 A1368) 96 [(1, .int x703), (0, .ref (q 3))] []
            refine g_aload_n hk dX5_readText_96 rfl ?_
            refine gX_i11 (v := (I1368 11)) hk hin5 (List.mem_cons_of_mem _ (List.mem_append_left _ (List.mem_of_getElem? (i := 5) rfl))) dX5_readText_97 rfl ?_
            have b1369l := Int32.le_toInt (I1368 11)
            have b1369h := Int32.toInt_lt (I1368 11)
            exact g_iret hk hR rfl ⟨I1368, A1368, (show Md [1, 2, 3, 4, 5, 6, 7, 8, 9, 10, 11, 12, 13, 14, 16] I I1368 from (Md.tr (Md.tr (Md.tr Md.rf hI702 rfl) hI705 rfl) hI1368 rfl)), (show Md [1, 2, 3, 4, 5, 6] A A1368 from (Md.tr (Md.tr (Md.tr Md.rf hA702 rfl) hA705 rfl) hA1368 rfl)), hV1368, (I1368 11), hF, rfl, rfl⟩ dX5_readText_100
      · skip
        replace hF := FE.neg hF c1359
        refine g_aload_n hk dX5_readText_13 rfl ?_
        refine gX_i10 (v := (I705 10)) hk hin5 (List.mem_cons_of_mem _ (List.mem_append_left _ (List.mem_of_getElem? (i := 4) rfl))) dX5_readText_14 rfl ?_
        have b1370l := Int32.le_toInt (I705 10)
        have b1370h := Int32.toInt_lt (I705 10)
        refine g_if_ne (tgt := 77) (a := (I705 10).toInt) hk dX5_readText_17 (by decide) rfl (fun c1371 => ?_) (fun c1371 => ?_)
        · skip
          replace hF := FE.pos hF c1371
          refine g_aload_n hk dX5_readText_77 rfl ?_
          refine gX_i10 (v := (I705 10)) hk hin5 (List.mem_cons_of_mem _ (List.mem_append_left _ (List.mem_of_getElem? (i := 4) rfl))) dX5_readText_78 rfl ?_
          refine g_if_ne (tgt := 96) (a := (I705 10).toInt) hk dX5_readText_81 (by decide) rfl (fun c1372 => ?_) (fun c1372 => ?_)
          · skip
            replace hF := FE.pos hF c1372
            refine g_aload_n hk dX5_readText_96 rfl ?_
            refine gX_i11 (v := (I705 11)) hk hin5 (List.mem_cons_of_mem _ (List.mem_append_left _ (List.mem_of_getElem? (i := 5) rfl))) dX5_readText_97 rfl ?_
            have b1373l := Int32.le_toInt (I705 11)
            have b1373h := Int32.toInt_lt (I705 11)
            exact g_iret hk hR rfl ⟨I705, A705, (show Md [1, 2, 3, 4, 5, 6, 7, 8, 9, 10, 11, 12, 13, 14, 16] I I705 from (Md.tr (Md.tr Md.rf hI702 rfl) hI705 rfl)), (show Md [1, 2, 3, 4, 5, 6] A A705 from (Md.tr (Md.tr Md.rf hA702 rfl) hA705 rfl)), hV705, (I705 11), hF, rfl, rfl⟩ dX5_readText_100
          · skip
            replace hF := FE.neg hF c1372
            refine g_aload_n hk dX5_readText_84 rfl ?_
            refine gX_i6 (v := (I705 6)) hk hin5 (List.mem_cons_of_mem _ (List.mem_append_left _ (List.mem_of_getElem? (i := 6) rfl))) dX5_readText_85 rfl ?_
            have b1374l := Int32.le_toInt (I705 6)
            have b1374h := Int32.toInt_lt (I705 6)
            refine g_if_eq (tgt := 96) (a := (I705 6).toInt) hk dX5_readText_88 (by decide) rfl (fun c1375 => ?_) (fun c1375 => ?_)
            · skip
              replace hF := FE.pos hF c1375
              refine g_aload_n hk dX5_readText_96 rfl ?_
              refine gX_i11 (v := (I705 11)) hk hin5 (List.mem_cons_of_mem _ (List.mem_append_left _ (List.mem_of_getElem? (i := 5) rfl))) dX5_readText_97 rfl ?_
              have b1376l := Int32.le_toInt (I705 11)
              have b1376h := Int32.toInt_lt (I705 11)
              exact g_iret hk hR rfl ⟨I705, A705, (show Md [1, 2, 3, 4, 5, 6, 7, 8, 9, 10, 11, 12, 13, 14, 16] I I705 from (Md.tr (Md.tr Md.rf hI702 rfl) hI705 rfl)), (show Md [1, 2, 3, 4, 5, 6] A A705 from (Md.tr (Md.tr Md.rf hA702 rfl) hA705 rfl)), hV705, (I705 11), hF, rfl, rfl⟩ dX5_readText_100
            · skip
              replace hF := FE.neg hF c1375
              refine g_aload_n hk dX5_readText_91 rfl ?_
              refine g_iconst (v := 1) hk dX5_readText_92 (by decide) ?_
              have k1377 : (1 : Int32).toInt = 1 := rfl
              refine g_callV (n := 1) hk (k130_X5_stop l D zt q d I705 A705 1 hV705) (SP.same _) (fun _ h => h) (gi_V (List.mem_cons_of_mem _ (List.mem_append_left _ (List.mem_of_getElem? (i := 7) rfl))) (List.mem_cons_of_mem _ (List.mem_append_left _ (List.mem_of_getElem? (i := 8) rfl))) (List.mem_cons_of_mem _ (List.mem_append_left _ (List.mem_of_getElem? (i := 9) rfl))) (List.mem_cons_of_mem _ (List.mem_append_left _ (List.mem_of_getElem? (i := 3) rfl))) (gi_sub (fun w h => (List.mem_cons_of_mem _ (List.mem_append_right _ (List.mem_append_right _ (List.mem_append_right _ (List.mem_append_right _ (List.mem_append_left _ h))))))) zg_k130_X5_stop)) rfl rfl rfl (by decide +kernel) ⟨Nat.le_of_ble_eq_true rfl, Nat.le_of_ble_eq_true rfl⟩ 3 rfl rfl rfl rfl (Nat.le_of_ble_eq_true rfl) ⟨Nat.le_of_ble_eq_true rfl, Nat.le_of_ble_eq_true rfl⟩ dX5_readText_93 (fun v ty' w' hp hk' => ?_)
              obtain ⟨I1379, A1379, hI1379, hA1379, hV1379, hC, rfl, rfl⟩ := hp
              replace hF := FE.bdX hF hC
              show GW κ 2 0 0 (wX q d I1379 A1379) 96 [(1, .int x703), (0, .ref (q 3))] []
              refine g_aload_n hk dX5_readText_96 rfl ?_
              refine gX_i11 (v := (I1379 11)) hk hin5 (List.mem_cons_of_mem _ (List.mem_append_left _ (List.mem_of_getElem? (i := 5) rfl))) dX5_readText_97 rfl ?_
              have b1380l := Int32.le_toInt (I1379 11)
              have b1380h := Int32.toInt_lt (I1379 11)
              exact g_iret hk hR rfl ⟨I1379, A1379, (show Md [1, 2, 3, 4, 5, 6, 7, 8, 9, 10, 11, 12, 13, 14, 16] I I1379 from (Md.tr (Md.tr (Md.tr Md.rf hI702 rfl) hI705 rfl) hI1379 rfl)), (show Md [1, 2, 3, 4, 5, 6] A A1379 from (Md.tr (Md.tr (Md.tr Md.rf hA702 rfl) hA705 rfl) hA1379 rfl)), hV1379, (I1379 11), hF, rfl, rfl⟩ dX5_readText_100
        · skip
          replace hF := FE.neg hF c1371
          refine g_aload_n hk dX5_readText_20 rfl ?_
          refine gX_r3_0 hk hin5 (List.mem_cons_of_mem _ (List.mem_append_left _ (List.mem_of_getElem? (i := 10) rfl))) dX5_readText_21 ?_
          refine gX_i1 (v := (I705 1)) hk hin10 (List.mem_cons_of_mem _ (List.mem_append_left _ (List.mem_of_getElem? (i := 11) rfl))) dX5_readText_24 rfl ?_
          have b1381l := Int32.le_toInt (I705 1)
          have b1381h := Int32.toInt_lt (I705 1)
          refine g_if_eq (tgt := 77) (a := (I705 1).toInt) hk dX5_readText_27 (by decide) rfl (fun c1382 => ?_) (fun c1382 => ?_)
          · skip
            replace hF := FE.pos hF c1382
            refine g_aload_n hk dX5_readText_77 rfl ?_
            refine gX_i10 (v := (I705 10)) hk hin5 (List.mem_cons_of_mem _ (List.mem_append_left _ (List.mem_of_getElem? (i := 4) rfl))) dX5_readText_78 rfl ?_
            refine g_if_ne (tgt := 96) (a := (I705 10).toInt) hk dX5_readText_81 (by decide) rfl (fun z9 => absurd z9 (show ¬ ((I705 10).toInt ≠ 0) from by omega)) (fun _ => ?_)
            refine g_aload_n hk dX5_readText_84 rfl ?_
            refine gX_i6 (v := (I705 6)) hk hin5 (List.mem_cons_of_mem _ (List.mem_append_left _ (List.mem_of_getElem? (i := 6) rfl))) dX5_readText_85 rfl ?_
            have b1383l := Int32.le_toInt (I705 6)
            have b1383h := Int32.toInt_lt (I705 6)
            refine g_if_eq (tgt := 96) (a := (I705 6).toInt) hk dX5_readText_88 (by decide) rfl (fun c1384 => ?_) (fun c1384 => ?_)
            · skip
              replace hF := FE.pos hF c1384
              refine g_aload_n hk dX5_readText_96 rfl ?_
              refine gX_i11 (v := (I705 11)) hk hin5 (List.mem_cons_of_mem _ (List.mem_append_left _ (List.mem_of_getElem? (i := 5) rfl))) dX5_readText_97 rfl ?_
              have b1385l := Int32.le_toInt (I705 11)
              have b1385h := Int32.toInt_lt (I705 11)
              exact g_iret hk hR rfl ⟨I705, A705, (show Md [1, 2, 3, 4, 5, 6, 7, 8, 9, 10, 11, 12, 13, 14, 16] I I705 from (Md.tr (Md.tr Md.rf hI702 rfl) hI705 rfl)), (show Md [1, 2, 3, 4, 5, 6] A A705 from (Md.tr (Md.tr Md.rf hA702 rfl) hA705 rfl)), hV705, (I705 11), hF, rfl, rfl⟩ dX5_readText_100
            · skip
              replace hF := FE.neg hF c1384
              refine g_aload_n hk dX5_readText_91 rfl ?_
              refine g_iconst (v := 1) hk dX5_readText_92 (by decide) ?_
              have k1386 : (1 : Int32).toInt = 1 := rfl
              refine g_callV (n := 1) hk (k130_X5_stop l D zt q d I705 A705 1 hV705) (SP.same _) (fun _ h => h) (gi_V (List.mem_cons_of_mem _ (List.mem_append_left _ (List.mem_of_getElem? (i := 7) rfl))) (List.mem_cons_of_mem _ (List.mem_append_left _ (List.mem_of_getElem? (i := 8) rfl))) (List.mem_cons_of_mem _ (List.mem_append_left _ (List.mem_of_getElem? (i := 9) rfl))) (List.mem_cons_of_mem _ (List.mem_append_left _ (List.mem_of_getElem? (i := 3) rfl))) (gi_sub (fun w h => (List.mem_cons_of_mem _ (List.mem_append_right _ (List.mem_append_right _ (List.mem_append_right _ (List.mem_append_right _ (List.mem_append_left _ h))))))) zg_k130_X5_stop)) rfl rfl rfl (by decide +kernel) ⟨Nat.le_of_ble_eq_true rfl, Nat.le_of_ble_eq_true rfl⟩ 3 rfl rfl rfl rfl (Nat.le_of_ble_eq_true rfl) ⟨Nat.le_of_ble_eq_true rfl, Nat.le_of_ble_eq_true rfl⟩ dX5_readText_93 (fun v ty' w' hp hk' => ?_)
              obtain ⟨I1388, A1388, hI1388, hA1388, hV1388, hC, rfl, rfl⟩ := hp
              replace hF := FE.bdX hF hC
              show GW κ 2 0 0 (wX q d I1388 A1388) 96 [(1, .int x703), (0, .ref (q 3))] []
              refine g_aload_n hk dX5_readText_96 rfl ?_
              refine gX_i11 (v := (I1388 11)) hk hin5 (List.mem_cons_of_mem _ (List.mem_append_left _ (List.mem_of_getElem? (i := 5) rfl))) dX5_readText_97 rfl ?_
              have b1389l := Int32.le_toInt (I1388 11)
              have b1389h := Int32.toInt_lt (I1388 11)
              exact g_iret hk hR rfl ⟨I1388, A1388, (show Md [1, 2, 3, 4, 5, 6, 7, 8, 9, 10, 11, 12, 13, 14, 16] I I1388 from (Md.tr (Md.tr (Md.tr Md.rf hI702 rfl) hI705 rfl) hI1388 rfl)), (show Md [1, 2, 3, 4, 5, 6] A A1388 from (Md.tr (Md.tr (Md.tr Md.rf hA702 rfl) hA705 rfl) hA1388 rfl)), hV1388, (I1388 11), hF, rfl, rfl⟩ dX5_readText_100
          · skip
            replace hF := FE.neg hF c1382
            refine g_aload_n hk dX5_readText_30 rfl ?_
            refine g_callV (n := 0) hk (k132_X5_mayStand l D zt q d I705 A705  hV705) (SP.same _) (fun _ h => h) (gi_V (List.mem_cons_of_mem _ (List.mem_append_left _ (List.mem_of_getElem? (i := 12) rfl))) (List.mem_cons_of_mem _ (List.mem_append_left _ (List.mem_of_getElem? (i := 13) rfl))) (List.mem_cons_of_mem _ (List.mem_append_left _ (List.mem_of_getElem? (i := 14) rfl))) (List.mem_cons_of_mem _ (List.mem_append_left _ (List.mem_of_getElem? (i := 3) rfl))) (gi_sub (fun w h => (List.mem_cons_of_mem _ (List.mem_append_right _ (List.mem_append_right _ (List.mem_append_right _ (List.mem_append_right _ (List.mem_append_right _ (List.mem_append_left _ h)))))))) zg_k132_X5_mayStand)) rfl rfl rfl (by decide +kernel) ⟨Nat.le_of_ble_eq_true rfl, Nat.le_of_ble_eq_true rfl⟩ 3 rfl rfl rfl rfl (Nat.le_of_ble_eq_true rfl) ⟨Nat.le_of_ble_eq_true rfl, Nat.le_of_ble_eq_true rfl⟩ dX5_readText_31 (fun v ty' w' hp hk' => ?_)
            rcases hp with ⟨hC, rfl, rfl⟩ | ⟨hC, rfl, rfl⟩
            · skip
              replace hF := FE.pos hF hC
              show GW κ 2 0 0 (wX q d I705 A705) 34 [(1, .int x703), (0, .ref (q 3))] [.int 0]
              refine g_if_ne (tgt := 45) (a := 0) hk dX5_readText_34 (by decide) rfl (fun z9 => absurd z9 (show ¬ ((0 : Int) ≠ (0 : Int)) from by decide)) (fun _ => ?_)
              refine g_aload_n hk dX5_readText_37 rfl ?_
              refine g_iconst (v := 1) hk dX5_readText_38 (by decide) ?_
              have k1392 : (1 : Int32).toInt = 1 := rfl
              refine g_callV (n := 1) hk (k130_X5_stop l D zt q d I705 A705 1 hV705) (SP.same _) (fun _ h => h) (gi_V (List.mem_cons_of_mem _ (List.mem_append_left _ (List.mem_of_getElem? (i := 7) rfl))) (List.mem_cons_of_mem _ (List.mem_append_left _ (List.mem_of_getElem? (i := 8) rfl))) (List.mem_cons_of_mem _ (List.mem_append_left _ (List.mem_of_getElem? (i := 9) rfl))) (List.mem_cons_of_mem _ (List.mem_append_left _ (List.mem_of_getElem? (i := 3) rfl))) (gi_sub (fun w h => (List.mem_cons_of_mem _ (List.mem_append_right _ (List.mem_append_right _ (List.mem_append_right _ (List.mem_append_right _ (List.mem_append_left _ h))))))) zg_k130_X5_stop)) rfl rfl rfl (by decide +kernel) ⟨Nat.le_of_ble_eq_true rfl, Nat.le_of_ble_eq_true rfl⟩ 3 rfl rfl rfl rfl (Nat.le_of_ble_eq_true rfl) ⟨Nat.le_of_ble_eq_true rfl, Nat.le_of_ble_eq_true rfl⟩ dX5_readText_39 (fun v ty' w' hp hk' => ?_)
              obtain ⟨I1394, A1394, hI1394, hA1394, hV1394, hC, rfl, rfl⟩ := hp
              replace hF := FE.bdX hF hC
              show GW κ 2 0 0 (wX q d I1394 A1394) 42 [(1, .int x703), (0, .ref (q 3))] []
              refine g_goto (tgt := 71) hk dX5_readText_42 (by decide) ?_
              obtain ⟨y1395, ey1395⟩ : ∃ y : Int32, y = x703 + Int32.ofInt 1 := ⟨_, rfl⟩
              replace hF := FE.lt hF ey1395
              have hy1395 : y1395.toInt = x703.toInt + 1 := i32_add ey1395 rfl (by decide) (by omega) (by omega)
              refine g_iinc (v := y1395) (lv' := [(1, .int y1395), (0, .ref (q 3))]) hk 0 dX5_readText_71 rfl ey1395.symm (by decide) rfl ?_
              refine g_goto (tgt := 6) hk dX5_readText_74 (by decide) ?_
              exact g_lv (List.forall_mem_cons.mpr ⟨List.mem_of_getElem? (i := 0) rfl, (List.forall_mem_cons.mpr ⟨List.mem_of_getElem? (i := 1) rfl, (fun _ h => absurd h List.not_mem_nil)⟩)⟩) (ih1358 y1395 I1394 A1394 (show Md [1, 2, 3, 4, 5, 6, 7, 8, 9, 10, 11, 12, 13, 14, 16] I702 I1394 from Md.tr hI705 (show Md [1, 2, 3, 4, 5, 6, 7, 8, 9, 10, 11, 12, 13, 14, 16] I705 I1394 from (Md.tr Md.rf hI1394 rfl)) rfl) (show Md [1, 2, 3, 4, 5, 6] A702 A1394 from Md.tr hA705 (show Md [1, 2, 3, 4, 5, 6] A705 A1394 from (Md.tr Md.rf hA1394 rfl)) rfl) hV1394 (by omega) (by omega) (by omega) (by omega) hF)
            · skip
              replace hF := FE.neg hF (fe_ne hC (by decide))
              show GW κ 2 0 0 (wX q d I705 A705) 34 [(1, .int x703), (0, .ref (q 3))] [.int 1]
              refine g_if_ne (tgt := 45) (a := 1) hk dX5_readText_34 (by decide) rfl (fun _ => ?_) (fun z9 => absurd (show (1 : Int) ≠ (0 : Int) from by decide) z9)
              refine g_aload_n hk dX5_readText_45 rfl ?_
              refine g_callV (n := 0) hk (k149_X5_hasRoom l D zt q d I705 A705  hV705) (SP.same _) (fun _ h => h) (gi_V (List.mem_cons_of_mem _ (List.mem_append_left _ (List.mem_of_getElem? (i := 15) rfl))) (List.mem_cons_of_mem _ (List.mem_append_left _ (List.mem_of_getElem? (i := 16) rfl))) (List.mem_cons_of_mem _ (List.mem_append_left _ (List.mem_of_getElem? (i := 17) rfl))) (List.mem_cons_of_mem _ (List.mem_append_left _ (List.mem_of_getElem? (i := 3) rfl))) (gi_sub (fun w h => (List.mem_cons_of_mem _ (List.mem_append_right _ (List.mem_append_right _ (List.mem_append_right _ (List.mem_append_right _ (List.mem_append_right _ (List.mem_append_right _ (List.mem_append_left _ h))))))))) zg_k149_X5_hasRoom)) rfl rfl rfl (by decide +kernel) ⟨Nat.le_of_ble_eq_true rfl, Nat.le_of_ble_eq_true rfl⟩ 3 rfl rfl rfl rfl (Nat.le_of_ble_eq_true rfl) ⟨Nat.le_of_ble_eq_true rfl, Nat.le_of_ble_eq_true rfl⟩ dX5_readText_46 (fun v ty' w' hp hk' => ?_)
              rcases hp with ⟨hC, rfl, rfl⟩ | ⟨hC, rfl, rfl⟩
              · skip
                replace hF := FE.pos hF hC
                show GW κ 2 0 0 (wX q d I705 A705) 49 [(1, .int x703), (0, .ref (q 3))] [.int 0]
                refine g_if_ne (tgt := 60) (a := 0) hk dX5_readText_49 (by decide) rfl (fun z9 => absurd z9 (show ¬ ((0 : Int) ≠ (0 : Int)) from by decide)) (fun _ => ?_)
                refine g_aload_n hk dX5_readText_52 rfl ?_
                refine g_iconst (v := 2) hk dX5_readText_53 (by decide) ?_
                have k1398 : (2 : Int32).toInt = 2 := rfl
                refine g_callV (n := 1) hk (k130_X5_stop l D zt q d I705 A705 2 hV705) (SP.same _) (fun _ h => h) (gi_V (List.mem_cons_of_mem _ (List.mem_append_left _ (List.mem_of_getElem? (i := 7) rfl))) (List.mem_cons_of_mem _ (List.mem_append_left _ (List.mem_of_getElem? (i := 8) rfl))) (List.mem_cons_of_mem _ (List.mem_append_left _ (List.mem_of_getElem? (i := 9) rfl))) (List.mem_cons_of_mem _ (List.mem_append_left _ (List.mem_of_getElem? (i := 3) rfl))) (gi_sub (fun w h => (List.mem_cons_of_mem _ (List.mem_append_right _ (List.mem_append_right _ (List.mem_append_right _ (List.mem_append_right _ (List.mem_append_left _ h))))))) zg_k130_X5_stop)) rfl rfl rfl (by decide +kernel) ⟨Nat.le_of_ble_eq_true rfl, Nat.le_of_ble_eq_true rfl⟩ 3 rfl rfl rfl rfl (Nat.le_of_ble_eq_true rfl) ⟨Nat.le_of_ble_eq_true rfl, Nat.le_of_ble_eq_true rfl⟩ dX5_readText_54 (fun v ty' w' hp hk' => ?_)
                obtain ⟨I1400, A1400, hI1400, hA1400, hV1400, hC, rfl, rfl⟩ := hp
                replace hF := FE.bdX hF hC
                show GW κ 2 0 0 (wX q d I1400 A1400) 57 [(1, .int x703), (0, .ref (q 3))] []
                refine g_goto (tgt := 71) hk dX5_readText_57 (by decide) ?_
                obtain ⟨y1401, ey1401⟩ : ∃ y : Int32, y = x703 + Int32.ofInt 1 := ⟨_, rfl⟩
                replace hF := FE.lt hF ey1401
                have hy1401 : y1401.toInt = x703.toInt + 1 := i32_add ey1401 rfl (by decide) (by omega) (by omega)
                refine g_iinc (v := y1401) (lv' := [(1, .int y1401), (0, .ref (q 3))]) hk 0 dX5_readText_71 rfl ey1401.symm (by decide) rfl ?_
                refine g_goto (tgt := 6) hk dX5_readText_74 (by decide) ?_
                exact g_lv (List.forall_mem_cons.mpr ⟨List.mem_of_getElem? (i := 0) rfl, (List.forall_mem_cons.mpr ⟨List.mem_of_getElem? (i := 1) rfl, (fun _ h => absurd h List.not_mem_nil)⟩)⟩) (ih1358 y1401 I1400 A1400 (show Md [1, 2, 3, 4, 5, 6, 7, 8, 9, 10, 11, 12, 13, 14, 16] I702 I1400 from Md.tr hI705 (show Md [1, 2, 3, 4, 5, 6, 7, 8, 9, 10, 11, 12, 13, 14, 16] I705 I1400 from (Md.tr Md.rf hI1400 rfl)) rfl) (show Md [1, 2, 3, 4, 5, 6] A702 A1400 from Md.tr hA705 (show Md [1, 2, 3, 4, 5, 6] A705 A1400 from (Md.tr Md.rf hA1400 rfl)) rfl) hV1400 (by omega) (by omega) (by omega) (by omega) hF)
              · skip
                replace hF := FE.neg hF (fe_ne hC (by decide))
                show GW κ 2 0 0 (wX q d I705 A705) 49 [(1, .int x703), (0, .ref (q 3))] [.int 1]
                refine g_if_ne (tgt := 60) (a := 1) hk dX5_readText_49 (by decide) rfl (fun _ => ?_) (fun z9 => absurd (show (1 : Int) ≠ (0 : Int) from by decide) z9)
                refine g_aload_n hk dX5_readText_60 rfl ?_
                refine g_callV (n := 0) hk (k150_X5_accept l D zt q d I705 A705  hV705) (SP.same _) (fun _ h => h) (gi_V (List.mem_cons_of_mem _ (List.mem_append_left _ (List.mem_of_getElem? (i := 18) rfl))) (List.mem_cons_of_mem _ (List.mem_append_left _ (List.mem_of_getElem? (i := 19) rfl))) (List.mem_cons_of_mem _ (List.mem_append_left _ (List.mem_of_getElem? (i := 20) rfl))) (List.mem_cons_of_mem _ (List.mem_append_left _ (List.mem_of_getElem? (i := 3) rfl))) (gi_sub (fun w h => (List.mem_cons_of_mem _ (List.mem_append_right _ (List.mem_append_right _ (List.mem_append_right _ (List.mem_append_right _ (List.mem_append_right _ (List.mem_append_right _ (List.mem_append_right _ (List.mem_append_left _ h)))))))))) zg_k150_X5_accept)) rfl rfl rfl (by decide +kernel) ⟨Nat.le_of_ble_eq_true rfl, Nat.le_of_ble_eq_true rfl⟩ 3 rfl rfl rfl rfl (Nat.le_of_ble_eq_true rfl) ⟨Nat.le_of_ble_eq_true rfl, Nat.le_of_ble_eq_true rfl⟩ dX5_readText_61 (fun v ty' w' hp hk' => ?_)
                obtain ⟨I1403, A1403, hI1403, hA1403, hV1403, hC, rfl, rfl⟩ := hp
                replace hF := FE.bdX hF hC
                show GW κ 2 0 0 (wX q d I1403 A1403) 64 [(1, .int x703), (0, .ref (q 3))] []
                refine g_aload_n hk dX5_readText_64 rfl ?_
                refine gX_r3_0 hk hin5 (List.mem_cons_of_mem _ (List.mem_append_left _ (List.mem_of_getElem? (i := 10) rfl))) dX5_readText_65 ?_
                refine g_callV (n := 0) hk (k123_X10_toNextToken l D zt q d I1403 A1403  hV1403) (SP.same _) (fun _ h => h) (gi_V (List.mem_cons_of_mem _ (List.mem_append_left _ (List.mem_of_getElem? (i := 21) rfl))) (List.mem_cons_of_mem _ (List.mem_append_left _ (List.mem_of_getElem? (i := 22) rfl))) (List.mem_cons_of_mem _ (List.mem_append_left _ (List.mem_of_getElem? (i := 23) rfl))) (List.mem_cons_of_mem _ (List.mem_append_left _ (List.mem_of_getElem? (i := 24) rfl))) (gi_sub (fun w h => (List.mem_cons_of_mem _ (List.mem_append_right _ (List.mem_append_right _ (List.mem_append_right _ (List.mem_append_right _ (List.mem_append_right _ (List.mem_append_right _ (List.mem_append_right _ (List.mem_append_right _ (List.mem_append_left _ h))))))))))) zg_k123_X10_toNextToken)) rfl rfl rfl (by decide +kernel) ⟨Nat.le_of_ble_eq_true rfl, Nat.le_of_ble_eq_true rfl⟩ 1 rfl rfl rfl rfl (Nat.le_of_ble_eq_true rfl) ⟨Nat.le_of_ble_eq_true rfl, Nat.le_of_ble_eq_true rfl⟩ dX5_readText_68 (fun v ty' w' hp hk' => ?_)
                obtain ⟨I1405, A1405, hI1405, hA1405, hV1405, hC, rfl, rfl⟩ := hp
                replace hF := FE.bdX hF hC
                show GW κ 2 0 0 (wX q d I1405 A1405) 71 [(1, .int x703), (0, .ref (q 3))] []
                obtain ⟨y1406, ey1406⟩ : ∃ y : Int32, y = x703 + Int32.ofInt 1 := ⟨_, rfl⟩
                replace hF := FE.lt hF ey1406
                have hy1406 : y1406.toInt = x703.toInt + 1 := i32_add ey1406 rfl (by decide) (by omega) (by omega)
                refine g_iinc (v := y1406) (lv' := [(1, .int y1406), (0, .ref (q 3))]) hk 0 dX5_readText_71 rfl ey1406.symm (by decide) rfl ?_
                refine g_goto (tgt := 6) hk dX5_readText_74 (by decide) ?_
                exact g_lv (List.forall_mem_cons.mpr ⟨List.mem_of_getElem? (i := 0) rfl, (List.forall_mem_cons.mpr ⟨List.mem_of_getElem? (i := 1) rfl, (fun _ h => absurd h List.not_mem_nil)⟩)⟩) (ih1358 y1406 I1405 A1405 (show Md [1, 2, 3, 4, 5, 6, 7, 8, 9, 10, 11, 12, 13, 14, 16] I702 I1405 from Md.tr hI705 (show Md [1, 2, 3, 4, 5, 6, 7, 8, 9, 10, 11, 12, 13, 14, 16] I705 I1405 from (Md.tr (Md.tr Md.rf hI1403 rfl) hI1405 rfl)) rfl) (show Md [1, 2, 3, 4, 5, 6] A702 A1405 from Md.tr hA705 (show Md [1, 2, 3, 4, 5, 6] A705 A1405 from (Md.tr (Md.tr Md.rf hA1403 rfl) hA1405 rfl)) rfl) hV1405 (by omega) (by omega) (by omega) (by omega) hF)
  have k1408 : (0 : Int32).toInt = 0 := rfl
  have n1407a : 401 - 0 < (FU : Int) := by have := FU_eq; omega
  have n1407b : 0 < FU := by have := FU_eq; omega
  exact lp1354 FU 0 I702 A702 Md.rf Md.rf hV702 (by omega) (by omega) n1407a n1407b hF
noncomputable def fX4_open_2 (I : Nat → Int32) (A : Nat → Nat → Int32) : Int32 × (Nat → Int32) × (Nat → Nat → Int32) := if (I 19).toInt < 0 then (0, I, A) else if 5 ≤ (I 19).toInt then (0, I, A) else f_lt ((I 19) + (1 : Int32)) fun y1426 => (0, (upd I 19 y1426), (up3 A 9 ((I 19).toNatClampNeg) 0))
set_option maxHeartbeats 4000000 in
set_option maxRecDepth 100000 in
theorem k164_X4_open (l : Launch) (D : va_G) (zt : Nat × Nat × Nat × (Nat → Nat) × (Nat → Nat)) (q : Nat → Nat) (d : Nat → ClassId) (I : Nat → Int32) (A : Nat → Nat → Int32) (hIv : IvX I A) : GM l D zt (tyX d) yX4_open wz_k159_X4_open ({ frames := 0, cells := 0, slots := 0, locals := 0 } : Room) [.ref (q 15)] (wX q d I A) (fun v _ w' => ∃ (I' : Nat → Int32) (A' : Nat → Nat → Int32), Md [19] I I' ∧ Md [9] A A' ∧ IvX I' A' ∧ FE (fX4_open_2 I A) (0, I', A') ∧ v = none ∧ w' = wX q d I' A') 0 0 := by
  refine GM.of (cc := cX4_open) (maxL := 1) (ret := none) (own := RX4) (lv := [(0, .ref (q 15))]) (by decide) rfl rfl (Nat.le_of_ble_eq_true rfl) rfl (fun κ sz hk hR hN => ?_)
  have hin4 : ∀ w ∈ u_ws RX4 TX4 3, w ∈ wz_k159_X4_open := fun w h => (List.mem_cons_of_mem _ (List.mem_append_right _ (List.mem_append_left _ h)))
  have hF : FE (fX4_open_2 I A) (fX4_open_2 I A) := FE.rf
  refine g_aload_n hk dX4_open_0 rfl ?_
  refine gX_i19 (v := (I 19)) hk hin4 (List.mem_cons_of_mem _ (List.mem_append_left _ (List.mem_of_getElem? (i := 0) rfl))) dX4_open_1 rfl ?_
  have b1421l := Int32.le_toInt (I 19)
  have b1421h := Int32.toInt_lt (I 19)
  refine g_if_lt (tgt := 35) (a := (I 19).toInt) hk dX4_open_4 (by decide) rfl (fun c1422 => ?_) (fun c1422 => ?_)
  · skip
    replace hF := FE.pos hF c1422
    exact g_vret hk hR ⟨I, A, (show Md [19] I I from Md.rf), (show Md [9] A A from Md.rf), hIv, hF, rfl, rfl⟩ dX4_open_35
  · skip
    replace hF := FE.neg hF c1422
    refine g_aload_n hk dX4_open_7 rfl ?_
    refine gX_i19 (v := (I 19)) hk hin4 (List.mem_cons_of_mem _ (List.mem_append_left _ (List.mem_of_getElem? (i := 0) rfl))) dX4_open_8 rfl ?_
    refine g_iconst (v := 5) hk dX4_open_11 (by decide) ?_
    refine g_icmp_ge (tgt := 35) (a := (I 19).toInt) (b := 5) hk dX4_open_12 (by decide) rfl rfl (fun c1423 => ?_) (fun c1423 => ?_)
    · skip
      replace hF := FE.pos hF c1423
      exact g_vret hk hR ⟨I, A, (show Md [19] I I from Md.rf), (show Md [9] A A from Md.rf), hIv, hF, rfl, rfl⟩ dX4_open_35
    · skip
      replace hF := FE.neg hF c1423
      refine g_aload_n hk dX4_open_15 rfl ?_
      refine gX_r15_1 hk hin4 (List.mem_cons_of_mem _ (List.mem_append_left _ (List.mem_of_getElem? (i := 1) rfl))) dX4_open_16 ?_
      refine g_aload_n hk dX4_open_19 rfl ?_
      refine gX_i19 (v := (I 19)) hk hin4 (List.mem_cons_of_mem _ (List.mem_append_left _ (List.mem_of_getElem? (i := 0) rfl))) dX4_open_20 rfl ?_
      refine g_iconst (v := 0) hk dX4_open_23 (by decide) ?_
      have k1424 : (0 : Int32).toInt = 0 := rfl
      refine sX_9 (j := (I 19).toNatClampNeg) hk (vp_in_iff.mpr ⟨by omega, by omega⟩) rfl dX4_open_24 ?_
      have hA1425 : ∀ j, 0 ≤ ((up3 A 9 ((I 19).toNatClampNeg) 0) 9 j).toInt ∧ ((up3 A 9 ((I 19).toNatClampNeg) 0) 9 j).toInt ≤ 16 := ai_st ((IvX_a9 hIv)) ⟨by omega, by omega⟩
      refine g_aload_n hk dX4_open_25 rfl ?_
      refine g_dup hk dX4_open_26 rfl ?_
      refine gX_i19 (v := (I 19)) hk hin4 (List.mem_cons_of_mem _ (List.mem_append_left _ (List.mem_of_getElem? (i := 0) rfl))) dX4_open_27 rfl ?_
      refine g_iconst (v := 1) hk dX4_open_30 (by decide) ?_
      refine g_iadd hk dX4_open_31 ?_
      refine g_topi (fun y1426 ey1426 => ?_)
      replace hF := FE.lt hF ey1426
      have hy1426 : y1426.toInt = (I 19).toInt + 1 := i32_add ey1426 rfl rfl (by omega) (by omega)
      refine pX_i19 hk hin4 (List.mem_cons_of_mem _ (List.mem_append_left _ (List.mem_of_getElem? (i := 0) rfl))) dX4_open_32 ?_
      exact g_vret hk hR ⟨(upd I 19 y1426), (up3 A 9 ((I 19).toNatClampNeg) 0), (show Md [19] I (upd I 19 y1426) from (Md.up Md.rf rfl)), (show Md [9] A (up3 A 9 ((I 19).toNatClampNeg) 0) from (Md.up3 Md.rf rfl)), ⟨(IvX_f0 (I := I) (A := A) hIv), (IvX_f18 (I := I) (A := A) hIv), (IvX_f30 (I := I) (A := A) hIv), (IvX_f31 (I := I) (A := A) hIv), (IvX_a4 (I := I) (A := A) hIv), hA1425, trivial⟩, hF, rfl, rfl⟩ dX4_open_35
noncomputable def fX4_lengthOf (I : Nat → Int32) (A : Nat → Nat → Int32) (z1 : Int32) : Int32 × Nat := if fX4_has I A z1 = 0 then (0, 0) else ((A 4 z1.toNatClampNeg), 1)
def wo_k165_X4_lengthOf : List Cond := [Cond.methodLink RX4 22 yX4_has, Cond.instanceMethod yX4_has, Cond.selects RX4 yX4_has yX4_has, Cond.initialized RX4, Cond.fieldLink RX4 15 "WarpDesk$Queries" "lengths" "[I"]
def wz_k165_X4_lengthOf : List Cond := .code yX4_lengthOf cX4_lengthOf 2 (some .int) :: (wo_k165_X4_lengthOf ++ (wsX40 ++ (wz_k155_X4_has ++ ([] : List Cond))))
theorem zg_k165_X4_lengthOf : ∀ w ∈ wz_k165_X4_lengthOf, goodWord w = true := zg_cons rfl (zg_app (by decide +kernel) (zg_app zgU_wsX40 (zg_app zg_k155_X4_has zg_nil)))
theorem zi_k165_X4_lengthOf : ∀ w ∈ wz_k165_X4_lengthOf, w ∈ lw_tbl := zi_cons zw_759 (zi_app (zi_cons zw_746 (zi_cons zw_747 (zi_cons zw_748 (zi_cons zw_108 (zi_cons zw_218 zi_nil))))) (zi_app inX4 (zi_app zi_k155_X4_has zi_nil)))
set_option maxHeartbeats 4000000 in
set_option maxRecDepth 100000 in
theorem k165_X4_lengthOf (l : Launch) (D : va_G) (zt : Nat × Nat × Nat × (Nat → Nat) × (Nat → Nat)) (q : Nat → Nat) (d : Nat → ClassId) (I : Nat → Int32) (A : Nat → Nat → Int32) (z1 : Int32) (hIv : IvX I A) : GM l D zt (tyX d) yX4_lengthOf wz_k165_X4_lengthOf ({ frames := 1, cells := 0, slots := 0, locals := 21 } : Room) [.ref (q 8), .int z1] (wX q d I A) (fun v _ w' => (FE (fX4_lengthOf I A z1) (0, 0) ∧ v = some (.int 0) ∧ w' = wX q d I A) ∨ (∃ y0 : Int32, (¬ (z1.toInt < 0)) ∧ (¬ (5 ≤ z1.toInt)) ∧ (0 ≤ z1.toInt) ∧ (z1.toInt ≤ 4) ∧ (0 ≤ z1.toInt) ∧ (z1.toInt ≤ 4) ∧ (0 ≤ y0.toInt) ∧ (y0.toInt ≤ 16) ∧ FE (fX4_lengthOf I A z1) (y0, 1) ∧ v = some (.int y0) ∧ w' = wX q d I A)) 0 0 := by
  refine GM.of (cc := cX4_lengthOf) (maxL := 2) (ret := (some .int)) (own := RX4) (lv := [(0, .ref (q 8)), (1, .int z1)]) (by decide) rfl rfl (Nat.le_of_ble_eq_true rfl) rfl (fun κ sz hk hR hN => ?_)
  have hin4 : ∀ w ∈ u_ws RX4 TX4 3, w ∈ wz_k165_X4_lengthOf := fun w h => (List.mem_cons_of_mem _ (List.mem_append_right _ (List.mem_append_left _ h)))
  have hF : FE (fX4_lengthOf I A z1) (fX4_lengthOf I A z1) := FE.rf
  refine g_aload_n hk dX4_lengthOf_0 rfl ?_
  refine g_iload_n hk dX4_lengthOf_1 rfl ?_
  refine g_callV (n := 1) hk (k155_X4_has l D zt q d I A z1 hIv) (SP.same _) (fun _ h => h) (gi_V (List.mem_cons_of_mem _ (List.mem_append_left _ (List.mem_of_getElem? (i := 0) rfl))) (List.mem_cons_of_mem _ (List.mem_append_left _ (List.mem_of_getElem? (i := 1) rfl))) (List.mem_cons_of_mem _ (List.mem_append_left _ (List.mem_of_getElem? (i := 2) rfl))) (List.mem_cons_of_mem _ (List.mem_append_left _ (List.mem_of_getElem? (i := 3) rfl))) (gi_sub (fun w h => (List.mem_cons_of_mem _ (List.mem_append_right _ (List.mem_append_right _ (List.mem_append_left _ h))))) zg_k155_X4_has)) rfl rfl rfl (by decide +kernel) ⟨Nat.le_of_ble_eq_true rfl, Nat.le_of_ble_eq_true rfl⟩ 8 rfl rfl rfl rfl (Nat.le_of_ble_eq_true rfl) ⟨Nat.le_of_ble_eq_true rfl, Nat.le_of_ble_eq_true rfl⟩ dX4_lengthOf_2 (fun v ty' w' hp hk' => ?_)
  rcases hp with ⟨hC, rfl, rfl⟩ | ⟨c1435, c1436, c1437, c1438, hC, rfl, rfl⟩
  · skip
    replace hF := FE.pos hF hC
    show GW κ 2 0 0 (wX q d I A) 5 [(0, .ref (q 8)), (1, .int z1)] [.int 0]
    refine g_if_eq (tgt := 17) (a := 0) hk dX4_lengthOf_5 (by decide) rfl (fun _ => ?_) (fun z9 => absurd (show (0 : Int) = (0 : Int) from by decide) z9)
    refine g_iconst (v := 0) hk dX4_lengthOf_17 (by decide) ?_
    exact g_iret hk hR rfl (Or.inl ⟨hF, rfl, rfl⟩) dX4_lengthOf_18
  · skip
    replace hF := FE.neg hF (fe_ne hC (by decide))
    show GW κ 2 0 0 (wX q d I A) 5 [(0, .ref (q 8)), (1, .int z1)] [.int 1]
    refine g_if_eq (tgt := 17) (a := 1) hk dX4_lengthOf_5 (by decide) rfl (fun z9 => absurd z9 (show ¬ ((1 : Int) = (0 : Int)) from by decide)) (fun _ => ?_)
    refine g_aload_n hk dX4_lengthOf_8 rfl ?_
    refine gX_r8_1 hk hin4 (List.mem_cons_of_mem _ (List.mem_append_left _ (List.mem_of_getElem? (i := 4) rfl))) dX4_lengthOf_9 ?_
    refine g_iload_n hk dX4_lengthOf_12 rfl ?_
    refine lX_4 (v := (A 4 z1.toNatClampNeg)) hk (vp_in_iff.mpr ⟨by omega, by omega⟩) rfl dX4_lengthOf_13 ?_
    have f1440 := IvX_a4 hIv (z1.toNatClampNeg)
    refine g_goto (tgt := 18) hk dX4_lengthOf_14 (by decide) ?_
    exact g_iret hk hR rfl (Or.inr (⟨(A 4 z1.toNatClampNeg), c1435, c1436, c1437, c1438, (by omega), (by omega), (by omega), (by omega), hF, rfl, rfl⟩)) dX4_lengthOf_18
noncomputable def fX4_valueAt (I : Nat → Int32) (A : Nat → Nat → Int32) (z1 : Int32) (z2 : Int32) : Int32 := if z2.toInt < 0 then (-1000) else if 16 ≤ z2.toInt then (-1000) else if (fX4_lengthOf I A z1).2 = 0 then (-1000) else f_lt (fX4_lengthOf I A z1).1 fun y1463 => if y1463.toInt ≤ z2.toInt then (-1000) else f_lt (z1 * (16 : Int32)) fun y1467 => f_lt (y1467 + z2) fun y1468 => (A 3 y1468.toNatClampNeg)
def wo_k166_X4_valueAt : List Cond := [Cond.methodLink RX4 26 yX4_lengthOf, Cond.instanceMethod yX4_lengthOf, Cond.selects RX4 yX4_lengthOf yX4_lengthOf, Cond.initialized RX4, Cond.fieldLink RX4 9 "WarpDesk$Queries" "readings" "[I"]
def wz_k166_X4_valueAt : List Cond := .code yX4_valueAt cX4_valueAt 3 (some .int) :: (wo_k166_X4_valueAt ++ (wsX40 ++ (wz_k165_X4_lengthOf ++ ([] : List Cond))))
theorem zg_k166_X4_valueAt : ∀ w ∈ wz_k166_X4_valueAt, goodWord w = true := zg_cons rfl (zg_app (by decide +kernel) (zg_app zgU_wsX40 (zg_app zg_k165_X4_lengthOf zg_nil)))
theorem zi_k166_X4_valueAt : ∀ w ∈ wz_k166_X4_valueAt, w ∈ lw_tbl := zi_cons zw_763 (zi_app (zi_cons zw_756 (zi_cons zw_757 (zi_cons zw_758 (zi_cons zw_108 (zi_cons zw_217 zi_nil))))) (zi_app inX4 (zi_app zi_k165_X4_lengthOf zi_nil)))
set_option maxHeartbeats 4000000 in
set_option maxRecDepth 100000 in
theorem k166_X4_valueAt (l : Launch) (D : va_G) (zt : Nat × Nat × Nat × (Nat → Nat) × (Nat → Nat)) (q : Nat → Nat) (d : Nat → ClassId) (I : Nat → Int32) (A : Nat → Nat → Int32) (z1 : Int32) (z2 : Int32) (hIv : IvX I A) : GM l D zt (tyX d) yX4_valueAt wz_k166_X4_valueAt ({ frames := 2, cells := 0, slots := 0, locals := 42 } : Room) [.ref (q 8), .int z1, .int z2] (wX q d I A) (fun v _ w' => ∃ y0 : Int32, FE (fX4_valueAt I A z1 z2) y0 ∧ v = some (.int y0) ∧ w' = wX q d I A) 0 0 := by
  refine GM.of (cc := cX4_valueAt) (maxL := 3) (ret := (some .int)) (own := RX4) (lv := [(0, .ref (q 8)), (1, .int z1), (2, .int z2)]) (by decide) rfl rfl (Nat.le_of_ble_eq_true rfl) rfl (fun κ sz hk hR hN => ?_)
  have hin4 : ∀ w ∈ u_ws RX4 TX4 3, w ∈ wz_k166_X4_valueAt := fun w h => (List.mem_cons_of_mem _ (List.mem_append_right _ (List.mem_append_left _ h)))
  have hF : FE (fX4_valueAt I A z1 z2) (fX4_valueAt I A z1 z2) := FE.rf
  refine g_iload_n hk dX4_valueAt_0 rfl ?_
  have b1453l := Int32.le_toInt z2
  have b1453h := Int32.toInt_lt z2
  refine g_if_lt (tgt := 33) (a := z2.toInt) hk dX4_valueAt_1 (by decide) rfl (fun c1454 => ?_) (fun c1454 => ?_)
  · skip
    replace hF := FE.pos hF c1454
    refine g_sipush (v := (-1000)) hk dX4_valueAt_33 (by decide) ?_
    exact g_iret hk hR rfl ⟨(-1000), hF, rfl, rfl⟩ dX4_valueAt_36
  · skip
    replace hF := FE.neg hF c1454
    refine g_iload_n hk dX4_valueAt_4 rfl ?_
    refine g_bipush (v := 16) hk dX4_valueAt_5 (by decide) ?_
    refine g_icmp_ge (tgt := 33) (a := z2.toInt) (b := 16) hk dX4_valueAt_7 (by decide) rfl rfl (fun c1455 => ?_) (fun c1455 => ?_)
    · skip
      replace hF := FE.pos hF c1455
      refine g_sipush (v := (-1000)) hk dX4_valueAt_33 (by decide) ?_
      exact g_iret hk hR rfl ⟨(-1000), hF, rfl, rfl⟩ dX4_valueAt_36
    · skip
      replace hF := FE.neg hF c1455
      refine g_iload_n hk dX4_valueAt_10 rfl ?_
      refine g_aload_n hk dX4_valueAt_11 rfl ?_
      refine g_iload_n hk dX4_valueAt_12 rfl ?_
      refine g_callV (n := 1) hk (k165_X4_lengthOf l D zt q d I A z1 hIv) (SP.same _) (fun _ h => h) (gi_V (List.mem_cons_of_mem _ (List.mem_append_left _ (List.mem_of_getElem? (i := 0) rfl))) (List.mem_cons_of_mem _ (List.mem_append_left _ (List.mem_of_getElem? (i := 1) rfl))) (List.mem_cons_of_mem _ (List.mem_append_left _ (List.mem_of_getElem? (i := 2) rfl))) (List.mem_cons_of_mem _ (List.mem_append_left _ (List.mem_of_getElem? (i := 3) rfl))) (gi_sub (fun w h => (List.mem_cons_of_mem _ (List.mem_append_right _ (List.mem_append_right _ (List.mem_append_left _ h))))) zg_k165_X4_lengthOf)) rfl rfl rfl (by decide +kernel) ⟨Nat.le_of_ble_eq_true rfl, Nat.le_of_ble_eq_true rfl⟩ 8 rfl rfl rfl rfl (Nat.le_of_ble_eq_true rfl) ⟨Nat.le_of_ble_eq_true rfl, Nat.le_of_ble_eq_true rfl⟩ dX4_valueAt_13 (fun v ty' w' hp hk' => ?_)
      rcases hp with ⟨hC, rfl, rfl⟩ | ⟨y1463, c1457, c1458, c1459, c1460, c1461, c1462, c1464, c1465, hC, rfl, rfl⟩
      · skip
        replace hF := FE.pos hF (fe_2 hC)
        show GW κ 3 0 0 (wX q d I A) 16 [(0, .ref (q 8)), (1, .int z1), (2, .int z2)] [.int 0, .int z2]
        refine g_icmp_ge (tgt := 33) (a := z2.toInt) (b := 0) hk dX4_valueAt_16 (by decide) rfl rfl (fun _ => ?_) (fun z9 => absurd (show 0 ≤ z2.toInt from by omega) z9)
        refine g_sipush (v := (-1000)) hk dX4_valueAt_33 (by decide) ?_
        exact g_iret hk hR rfl ⟨(-1000), hF, rfl, rfl⟩ dX4_valueAt_36
      · skip
        replace hF := FE.neg hF (fe_ne2 hC (by decide))
        replace hF := FE.lt hF (fe_1 hC)
        show GW κ 3 0 0 (wX q d I A) 16 [(0, .ref (q 8)), (1, .int z1), (2, .int z2)] [.int y1463, .int z2]
        refine g_icmp_ge (tgt := 33) (a := z2.toInt) (b := y1463.toInt) hk dX4_valueAt_16 (by decide) rfl rfl (fun c1466 => ?_) (fun c1466 => ?_)
        · skip
          replace hF := FE.pos hF c1466
          refine g_sipush (v := (-1000)) hk dX4_valueAt_33 (by decide) ?_
          exact g_iret hk hR rfl ⟨(-1000), hF, rfl, rfl⟩ dX4_valueAt_36
        · skip
          replace hF := FE.neg hF c1466
          refine g_aload_n hk dX4_valueAt_19 rfl ?_
          refine gX_r8_0 hk hin4 (List.mem_cons_of_mem _ (List.mem_append_left _ (List.mem_of_getElem? (i := 4) rfl))) dX4_valueAt_20 ?_
          refine g_iload_n hk dX4_valueAt_23 rfl ?_
          refine g_bipush (v := 16) hk dX4_valueAt_24 (by decide) ?_
          refine g_imul hk dX4_valueAt_26 ?_
          refine g_topi (fun y1467 ey1467 => ?_)
          replace hF := FE.lt hF ey1467
          have hy1467 : y1467.toInt = z1.toInt * 16 := i32_mul ey1467 rfl rfl (by omega) (by omega)
          refine g_iload_n hk dX4_valueAt_27 rfl ?_
          refine g_iadd hk dX4_valueAt_28 ?_
          refine g_topi (fun y1468 ey1468 => ?_)
          replace hF := FE.lt hF ey1468
          have hy1468 : y1468.toInt = y1467.toInt + z2.toInt := i32_add ey1468 rfl rfl (by omega) (by omega)
          refine lX_3 (v := (A 3 y1468.toNatClampNeg)) hk (vp_in_iff.mpr ⟨by omega, by omega⟩) rfl dX4_valueAt_29 ?_
          refine g_goto (tgt := 36) hk dX4_valueAt_30 (by decide) ?_
          have b1469l := Int32.le_toInt (A 3 y1468.toNatClampNeg)
          have b1469h := Int32.toInt_lt (A 3 y1468.toNatClampNeg)
          exact g_iret hk hR rfl ⟨(A 3 y1468.toNatClampNeg), hF, rfl, rfl⟩ dX4_valueAt_36
noncomputable def fX4_has_2 (I : Nat → Int32) (A : Nat → Nat → Int32) (z1 : Int32) : Int32 := if z1.toInt < 0 then 0 else if (I 19).toInt ≤ z1.toInt then 0 else if 5 ≤ z1.toInt then 0 else 1
set_option maxHeartbeats 4000000 in
set_option maxRecDepth 100000 in
theorem k168_X4_has (l : Launch) (D : va_G) (zt : Nat × Nat × Nat × (Nat → Nat) × (Nat → Nat)) (q : Nat → Nat) (d : Nat → ClassId) (I : Nat → Int32) (A : Nat → Nat → Int32) (z1 : Int32) (hIv : IvX I A) : GM l D zt (tyX d) yX4_has wz_k155_X4_has ({ frames := 0, cells := 0, slots := 0, locals := 0 } : Room) [.ref (q 15), .int z1] (wX q d I A) (fun v _ w' => (FE (fX4_has_2 I A z1) (0) ∧ v = some (.int 0) ∧ w' = wX q d I A) ∨ ((¬ (z1.toInt < 0)) ∧ (¬ (5 ≤ z1.toInt)) ∧ (0 ≤ z1.toInt) ∧ (z1.toInt ≤ 4) ∧ FE (fX4_has_2 I A z1) (1) ∧ v = some (.int 1) ∧ w' = wX q d I A)) 0 0 := by
  refine GM.of (cc := cX4_has) (maxL := 2) (ret := (some .boolean)) (own := RX4) (lv := [(0, .ref (q 15)), (1, .int z1)]) (by decide) rfl rfl (Nat.le_of_ble_eq_true rfl) rfl (fun κ sz hk hR hN => ?_)
  have hin4 : ∀ w ∈ u_ws RX4 TX4 3, w ∈ wz_k155_X4_has := fun w h => (List.mem_cons_of_mem _ (List.mem_append_right _ (List.mem_append_left _ h)))
  have hF : FE (fX4_has_2 I A z1) (fX4_has_2 I A z1) := FE.rf
  refine g_iload_n hk dX4_has_0 rfl ?_
  have b1473l := Int32.le_toInt z1
  have b1473h := Int32.toInt_lt z1
  refine g_if_lt (tgt := 21) (a := z1.toInt) hk dX4_has_1 (by decide) rfl (fun c1474 => ?_) (fun c1474 => ?_)
  · skip
    replace hF := FE.pos hF c1474
    refine g_iconst (v := 0) hk dX4_has_21 (by decide) ?_
    exact g_iret hk hR rfl (Or.inl ⟨hF, rfl, rfl⟩) dX4_has_22
  · skip
    replace hF := FE.neg hF c1474
    refine g_iload_n hk dX4_has_4 rfl ?_
    refine g_aload_n hk dX4_has_5 rfl ?_
    refine gX_i19 (v := (I 19)) hk hin4 (List.mem_cons_of_mem _ (List.mem_append_left _ (List.mem_of_getElem? (i := 0) rfl))) dX4_has_6 rfl ?_
    have b1475l := Int32.le_toInt (I 19)
    have b1475h := Int32.toInt_lt (I 19)
    refine g_icmp_ge (tgt := 21) (a := z1.toInt) (b := (I 19).toInt) hk dX4_has_9 (by decide) rfl rfl (fun c1476 => ?_) (fun c1476 => ?_)
    · skip
      replace hF := FE.pos hF c1476
      refine g_iconst (v := 0) hk dX4_has_21 (by decide) ?_
      exact g_iret hk hR rfl (Or.inl ⟨hF, rfl, rfl⟩) dX4_has_22
    · skip
      replace hF := FE.neg hF c1476
      refine g_iload_n hk dX4_has_12 rfl ?_
      refine g_iconst (v := 5) hk dX4_has_13 (by decide) ?_
      refine g_icmp_ge (tgt := 21) (a := z1.toInt) (b := 5) hk dX4_has_14 (by decide) rfl rfl (fun c1477 => ?_) (fun c1477 => ?_)
      · skip
        replace hF := FE.pos hF c1477
        refine g_iconst (v := 0) hk dX4_has_21 (by decide) ?_
        exact g_iret hk hR rfl (Or.inl ⟨hF, rfl, rfl⟩) dX4_has_22
      · skip
        replace hF := FE.neg hF c1477
        refine g_iconst (v := 1) hk dX4_has_17 (by decide) ?_
        refine g_goto (tgt := 22) hk dX4_has_18 (by decide) ?_
        exact g_iret hk hR rfl (Or.inr (⟨c1474, c1477, (by omega), (by omega), hF, rfl, rfl⟩)) dX4_has_22
noncomputable def fX4_append_2 (I : Nat → Int32) (A : Nat → Nat → Int32) (z1 : Int32) : Int32 × (Nat → Int32) × (Nat → Nat → Int32) := f_lt ((I 19) - (1 : Int32)) fun y1472 => if fX4_has_2 I A y1472 = 0 then (0, I, A) else if 16 ≤ (A 9 y1472.toNatClampNeg).toInt then (0, I, A) else f_lt (y1472 * (16 : Int32)) fun y1486 => f_lt (y1486 + (A 9 y1472.toNatClampNeg)) fun y1487 => f_lt ((A 9 y1472.toNatClampNeg) + (1 : Int32)) fun y1488 => (0, I, (up3 (up3 A 8 (y1487.toNatClampNeg) z1) 9 (y1472.toNatClampNeg) y1488))
set_option maxHeartbeats 4000000 in
set_option maxRecDepth 100000 in
theorem k167_X4_append (l : Launch) (D : va_G) (zt : Nat × Nat × Nat × (Nat → Nat) × (Nat → Nat)) (q : Nat → Nat) (d : Nat → ClassId) (I : Nat → Int32) (A : Nat → Nat → Int32) (z1 : Int32) (hIv : IvX I A) : GM l D zt (tyX d) yX4_append wz_k154_X4_append ({ frames := 1, cells := 0, slots := 0, locals := 21 } : Room) [.ref (q 15), .int z1] (wX q d I A) (fun v _ w' => ∃ (I' : Nat → Int32) (A' : Nat → Nat → Int32), Md [] I I' ∧ Md [8, 9] A A' ∧ IvX I' A' ∧ FE (fX4_append_2 I A z1) (0, I', A') ∧ v = none ∧ w' = wX q d I' A') 0 0 := by
  refine GM.of (cc := cX4_append) (maxL := 3) (ret := none) (own := RX4) (lv := [(0, .ref (q 15)), (1, .int z1)]) (by decide) rfl rfl (Nat.le_of_ble_eq_true rfl) rfl (fun κ sz hk hR hN => ?_)
  have hin4 : ∀ w ∈ u_ws RX4 TX4 3, w ∈ wz_k154_X4_append := fun w h => (List.mem_cons_of_mem _ (List.mem_append_right _ (List.mem_append_left _ h)))
  have hF : FE (fX4_append_2 I A z1) (fX4_append_2 I A z1) := FE.rf
  refine g_aload_n hk dX4_append_0 rfl ?_
  refine gX_i19 (v := (I 19)) hk hin4 (List.mem_cons_of_mem _ (List.mem_append_left _ (List.mem_of_getElem? (i := 0) rfl))) dX4_append_1 rfl ?_
  refine g_iconst (v := 1) hk dX4_append_4 (by decide) ?_
  have b1471l := Int32.le_toInt (I 19)
  have b1471h := Int32.toInt_lt (I 19)
  refine g_isub hk dX4_append_5 ?_
  refine g_topi (fun y1472 ey1472 => ?_)
  replace hF := FE.lt hF ey1472
  have hy1472 := i32_sub0 ey1472
  refine g_istore_n (lv' := [(2, .int y1472), (0, .ref (q 15)), (1, .int z1)]) hk dX4_append_6 (by decide) rfl ?_
  refine g_aload_n hk dX4_append_7 rfl ?_
  refine g_iload_n hk dX4_append_8 rfl ?_
  refine g_callV (n := 1) hk (k168_X4_has l D zt q d I A y1472 hIv) (SP.same _) (fun _ h => h) (gi_V (List.mem_cons_of_mem _ (List.mem_append_left _ (List.mem_of_getElem? (i := 1) rfl))) (List.mem_cons_of_mem _ (List.mem_append_left _ (List.mem_of_getElem? (i := 2) rfl))) (List.mem_cons_of_mem _ (List.mem_append_left _ (List.mem_of_getElem? (i := 3) rfl))) (List.mem_cons_of_mem _ (List.mem_append_left _ (List.mem_of_getElem? (i := 4) rfl))) (gi_sub (fun w h => (List.mem_cons_of_mem _ (List.mem_append_right _ (List.mem_append_right _ (List.mem_append_left _ h))))) zg_k155_X4_has)) rfl rfl rfl (by decide +kernel) ⟨Nat.le_of_ble_eq_true rfl, Nat.le_of_ble_eq_true rfl⟩ 15 rfl rfl rfl rfl (Nat.le_of_ble_eq_true rfl) ⟨Nat.le_of_ble_eq_true rfl, Nat.le_of_ble_eq_true rfl⟩ dX4_append_9 (fun v ty' w' hp hk' => ?_)
  rcases hp with ⟨hC, rfl, rfl⟩ | ⟨c1479, c1480, c1481, c1482, hC, rfl, rfl⟩
  · skip
    replace hF := FE.pos hF hC
    show GW κ 3 0 0 (wX q d I A) 12 [(2, .int y1472), (0, .ref (q 15)), (1, .int z1)] [.int 0]
    refine g_if_eq (tgt := 53) (a := 0) hk dX4_append_12 (by decide) rfl (fun _ => ?_) (fun z9 => absurd (show (0 : Int) = (0 : Int) from by decide) z9)
    exact g_vret hk hR ⟨I, A, (show Md [] I I from Md.rf), (show Md [8, 9] A A from Md.rf), hIv, hF, rfl, rfl⟩ dX4_append_53
  · skip
    replace hF := FE.neg hF (fe_ne hC (by decide))
    show GW κ 3 0 0 (wX q d I A) 12 [(2, .int y1472), (0, .ref (q 15)), (1, .int z1)] [.int 1]
    refine g_if_eq (tgt := 53) (a := 1) hk dX4_append_12 (by decide) rfl (fun z9 => absurd z9 (show ¬ ((1 : Int) = (0 : Int)) from by decide)) (fun _ => ?_)
    refine g_aload_n hk dX4_append_15 rfl ?_
    refine gX_r15_1 hk hin4 (List.mem_cons_of_mem _ (List.mem_append_left _ (List.mem_of_getElem? (i := 5) rfl))) dX4_append_16 ?_
    refine g_iload_n hk dX4_append_19 rfl ?_
    refine lX_9 (v := (A 9 y1472.toNatClampNeg)) hk (vp_in_iff.mpr ⟨by omega, by omega⟩) rfl dX4_append_20 ?_
    have f1484 := IvX_a9 hIv (y1472.toNatClampNeg)
    refine g_bipush (v := 16) hk dX4_append_21 (by decide) ?_
    refine g_icmp_ge (tgt := 53) (a := (A 9 y1472.toNatClampNeg).toInt) (b := 16) hk dX4_append_23 (by decide) rfl rfl (fun c1485 => ?_) (fun c1485 => ?_)
    · skip
      replace hF := FE.pos hF c1485
      exact g_vret hk hR ⟨I, A, (show Md [] I I from Md.rf), (show Md [8, 9] A A from Md.rf), hIv, hF, rfl, rfl⟩ dX4_append_53
    · skip
      replace hF := FE.neg hF c1485
      refine g_aload_n hk dX4_append_26 rfl ?_
      refine gX_r15_0 hk hin4 (List.mem_cons_of_mem _ (List.mem_append_left _ (List.mem_of_getElem? (i := 6) rfl))) dX4_append_27 ?_
      refine g_iload_n hk dX4_append_30 rfl ?_
      refine g_bipush (v := 16) hk dX4_append_31 (by decide) ?_
      refine g_imul hk dX4_append_33 ?_
      refine g_topi (fun y1486 ey1486 => ?_)
      replace hF := FE.lt hF ey1486
      have hy1486 : y1486.toInt = y1472.toInt * 16 := i32_mul ey1486 rfl rfl (by omega) (by omega)
      refine g_aload_n hk dX4_append_34 rfl ?_
      refine gX_r15_1 hk hin4 (List.mem_cons_of_mem _ (List.mem_append_left _ (List.mem_of_getElem? (i := 5) rfl))) dX4_append_35 ?_
      refine g_iload_n hk dX4_append_38 rfl ?_
      refine lX_9 (v := (A 9 y1472.toNatClampNeg)) hk (vp_in_iff.mpr ⟨by omega, by omega⟩) rfl dX4_append_39 ?_
      refine g_iadd hk dX4_append_40 ?_
      refine g_topi (fun y1487 ey1487 => ?_)
      replace hF := FE.lt hF ey1487
      have hy1487 : y1487.toInt = y1486.toInt + (A 9 y1472.toNatClampNeg).toInt := i32_add ey1487 rfl rfl (by omega) (by omega)
      refine g_iload_n hk dX4_append_41 rfl ?_
      refine sX_8 (j := y1487.toNatClampNeg) hk (vp_in_iff.mpr ⟨by omega, by omega⟩) rfl dX4_append_42 ?_
      refine g_aload_n hk dX4_append_43 rfl ?_
      refine gX_r15_1 hk hin4 (List.mem_cons_of_mem _ (List.mem_append_left _ (List.mem_of_getElem? (i := 5) rfl))) dX4_append_44 ?_
      refine g_iload_n hk dX4_append_47 rfl ?_
      refine g_dup2 hk dX4_append_48 rfl rfl ?_
      refine lX_9 (v := (A 9 y1472.toNatClampNeg)) hk (vp_in_iff.mpr ⟨by omega, by omega⟩) rfl dX4_append_49 ?_
      refine g_iconst (v := 1) hk dX4_append_50 (by decide) ?_
      refine g_iadd hk dX4_append_51 ?_
      refine g_topi (fun y1488 ey1488 => ?_)
      replace hF := FE.lt hF ey1488
      have hy1488 : y1488.toInt = (A 9 y1472.toNatClampNeg).toInt + 1 := i32_add ey1488 rfl rfl (by omega) (by omega)
      refine sX_9 (j := y1472.toNatClampNeg) hk (vp_in_iff.mpr ⟨by omega, by omega⟩) rfl dX4_append_52 ?_
      have hA1489 : ∀ j, 0 ≤ ((up3 (up3 A 8 (y1487.toNatClampNeg) z1) 9 (y1472.toNatClampNeg) y1488) 9 j).toInt ∧ ((up3 (up3 A 8 (y1487.toNatClampNeg) z1) 9 (y1472.toNatClampNeg) y1488) 9 j).toInt ≤ 16 := ai_st ((IvX_a9 hIv)) ⟨by omega, by omega⟩
      exact g_vret hk hR ⟨I, (up3 (up3 A 8 (y1487.toNatClampNeg) z1) 9 (y1472.toNatClampNeg) y1488), (show Md [] I I from Md.rf), (show Md [8, 9] A (up3 (up3 A 8 (y1487.toNatClampNeg) z1) 9 (y1472.toNatClampNeg) y1488) from (Md.up3 (Md.up3 Md.rf rfl) rfl)), ⟨(IvX_f0 (I := I) (A := A) hIv), (IvX_f18 (I := I) (A := A) hIv), (IvX_f30 (I := I) (A := A) hIv), (IvX_f31 (I := I) (A := A) hIv), (IvX_a4 (I := I) (A := A) hIv), hA1489, trivial⟩, hF, rfl, rfl⟩ dX4_append_53
noncomputable def bX4_takeFrom_21 (x1415 : Int32) (kk1782 : Int32 → (Nat → Int32) → (Nat → Nat → Int32) → (Int32 × (Nat → Int32) × (Nat → Nat → Int32))) : (Int32 → (Nat → Int32) → (Nat → Nat → Int32) → (Int32 × (Nat → Int32) × (Nat → Nat → Int32))) → Int32 → (Nat → Int32) → (Nat → Nat → Int32) → (Int32 × (Nat → Int32) × (Nat → Nat → Int32)) := fun kk1869 x1789 I1793 A1793 => if (fX4_lengthOf I1793 A1793 x1415).2 = 0 then f_lt (x1415 + Int32.ofInt 1) fun y1881 => kk1782 y1881 I1793 A1793 else f_lt (fX4_lengthOf I1793 A1793 x1415).1 fun y1878 => if y1878.toInt ≤ x1789.toInt then f_lt (x1415 + Int32.ofInt 1) fun y1883 => kk1782 y1883 I1793 A1793 else f_lt (fX4_valueAt I1793 A1793 x1415 x1789) fun y1884 => f_bdX (fX4_append_2 I1793 A1793 y1884) fun _ I1886 A1886 => f_lt (x1789 + Int32.ofInt 1) fun y1887 => kk1869 y1887 I1886 A1886
noncomputable def bX4_takeFrom_7 (I : Nat → Int32) : (Int32 → (Nat → Int32) → (Nat → Nat → Int32) → (Int32 × (Nat → Int32) × (Nat → Nat → Int32))) → Int32 → (Nat → Int32) → (Nat → Nat → Int32) → (Int32 × (Nat → Int32) × (Nat → Nat → Int32)) := fun kk1782 x1415 I1418 A1418 => if (I 16).toInt ≤ x1415.toInt then (0, I1418, A1418) else f_bdX (fX4_open_2 I1418 A1418) fun _ I1788 A1788 => itr_iIA dfX (bX4_takeFrom_21 x1415 kk1782) FU 0 I1788 A1788
noncomputable def fX4_takeFrom (I : Nat → Int32) (A : Nat → Nat → Int32) : Int32 × (Nat → Int32) × (Nat → Nat → Int32) := itr_iIA dfX (bX4_takeFrom_7 I) FU 0 (upd I 19 0) A
def wo_k163_X4_takeFrom : List Cond := [Cond.fieldLink RX4 18 "WarpDesk$Queries" "size" "I", Cond.methodLink RX4 30 yX4_open, Cond.instanceMethod yX4_open, Cond.selects RX4 yX4_open yX4_open, Cond.initialized RX4, Cond.methodLink RX4 26 yX4_lengthOf, Cond.instanceMethod yX4_lengthOf, Cond.selects RX4 yX4_lengthOf yX4_lengthOf, Cond.methodLink RX4 33 yX4_valueAt, Cond.instanceMethod yX4_valueAt, Cond.selects RX4 yX4_valueAt yX4_valueAt, Cond.methodLink RX4 37 yX4_append, Cond.instanceMethod yX4_append, Cond.selects RX4 yX4_append yX4_append]
def wz_k163_X4_takeFrom : List Cond := .code yX4_takeFrom cX4_takeFrom 4 none :: (wo_k163_X4_takeFrom ++ (wsX40 ++ (wz_k159_X4_open ++ (wz_k165_X4_lengthOf ++ (wz_k166_X4_valueAt ++ (wz_k154_X4_append ++ ([] : List Cond)))))))
theorem zg_k163_X4_takeFrom : ∀ w ∈ wz_k163_X4_takeFrom, goodWord w = true := zg_cons rfl (zg_app (by decide +kernel) (zg_app zgU_wsX40 (zg_app zg_k159_X4_open (zg_app zg_k165_X4_lengthOf (zg_app zg_k166_X4_valueAt (zg_app zg_k154_X4_append zg_nil))))))
theorem zi_k163_X4_takeFrom : ∀ w ∈ wz_k163_X4_takeFrom, w ∈ lw_tbl := zi_cons zw_754 (zi_app (zi_cons zw_219 (zi_cons zw_755 (zi_cons zw_715 (zi_cons zw_716 (zi_cons zw_108 (zi_cons zw_756 (zi_cons zw_757 (zi_cons zw_758 (zi_cons zw_760 (zi_cons zw_761 (zi_cons zw_762 (zi_cons zw_764 (zi_cons zw_743 (zi_cons zw_744 zi_nil)))))))))))))) (zi_app inX4 (zi_app zi_k159_X4_open (zi_app zi_k165_X4_lengthOf (zi_app zi_k166_X4_valueAt (zi_app zi_k154_X4_append zi_nil))))))
set_option maxHeartbeats 4000000 in
set_option maxRecDepth 100000 in
theorem k163_X4_takeFrom (l : Launch) (D : va_G) (zt : Nat × Nat × Nat × (Nat → Nat) × (Nat → Nat)) (q : Nat → Nat) (d : Nat → ClassId) (I : Nat → Int32) (A : Nat → Nat → Int32) (hIv : IvX I A) : GM l D zt (tyX d) yX4_takeFrom wz_k163_X4_takeFrom ({ frames := 3, cells := 0, slots := 0, locals := 64 } : Room) [.ref (q 15), .ref (q 8)] (wX q d I A) (fun v _ w' => ∃ (I' : Nat → Int32) (A' : Nat → Nat → Int32), Md [19] I I' ∧ Md [8, 9] A A' ∧ IvX I' A' ∧ FE (fX4_takeFrom I A) (0, I', A') ∧ v = none ∧ w' = wX q d I' A') 0 0 := by
  refine GM.of (cc := cX4_takeFrom) (maxL := 4) (ret := none) (own := RX4) (lv := [(0, .ref (q 15)), (1, .ref (q 8))]) (by decide) rfl rfl (Nat.le_of_ble_eq_true rfl) rfl (fun κ sz hk hR hN => ?_)
  have hin4 : ∀ w ∈ u_ws RX4 TX4 3, w ∈ wz_k163_X4_takeFrom := fun w h => (List.mem_cons_of_mem _ (List.mem_append_right _ (List.mem_append_left _ h)))
  have hF : FE (fX4_takeFrom I A) (fX4_takeFrom I A) := FE.rf
  refine g_aload_n hk dX4_takeFrom_0 rfl ?_
  refine g_iconst (v := 0) hk dX4_takeFrom_1 (by decide) ?_
  refine pX_i19 hk hin4 (List.mem_cons_of_mem _ (List.mem_append_left _ (List.mem_of_getElem? (i := 0) rfl))) dX4_takeFrom_2 ?_
  refine g_iconst (v := 0) hk dX4_takeFrom_5 (by decide) ?_
  refine g_istore_n (lv' := [(2, .int 0), (0, .ref (q 15)), (1, .ref (q 8))]) hk dX4_takeFrom_6 (by decide) rfl ?_
  have lp1779 : ∀ (n1780 : Nat) (x1415 : Int32) (I1418 : Nat → Int32) (A1418 : Nat → Nat → Int32), (Md [19] (upd I 19 0) I1418) → (Md [8, 9] A A1418) → (IvX I1418 A1418) → (0 ≤ x1415.toInt) → ((I 16).toInt + 1 - x1415.toInt < (n1780 : Int)) → (0 < n1780) → (FE (fX4_takeFrom I A) (itr_iIA dfX (bX4_takeFrom_7 I) n1780 x1415 I1418 A1418)) → GW κ 4 0 0 (wX q d I1418 A1418) 7 [(2, .int x1415), (0, .ref (q 15)), (1, .ref (q 8))] [] := by
    intro n1780
    induction n1780 with
    | zero =>
      intro x1415 I1418 A1418 hI1418 hA1418 hV1418 h1778 m1781 m1781z hF
      exact absurd m1781z (Nat.lt_irrefl 0)
    | succ n1780 ih1783 =>
      intro x1415 I1418 A1418 hI1418 hA1418 hV1418 h1778 m1781 m1781z hF
      replace hF := FE.itr_iIA hF
      refine g_iload_n hk dX4_takeFrom_7 rfl ?_
      refine g_aload_n hk dX4_takeFrom_8 rfl ?_
      refine gX_i16 (v := (I 16)) hk hin4 (List.mem_cons_of_mem _ (List.mem_append_left _ (List.mem_of_getElem? (i := 0) rfl))) dX4_takeFrom_9 (hI1418 16 rfl) ?_
      have b1784l := Int32.le_toInt x1415
      have b1784h := Int32.toInt_lt x1415
      have b1785l := Int32.le_toInt (I 16)
      have b1785h := Int32.toInt_lt (I 16)
      refine g_icmp_ge (tgt := 52) (a := x1415.toInt) (b := (I 16).toInt) hk dX4_takeFrom_12 (by decide) rfl rfl (fun c1786 => ?_) (fun c1786 => ?_)
      · skip
        replace hF := FE.pos hF c1786
        exact g_vret hk hR ⟨I1418, A1418, (show Md [19] I I1418 from (Md.tr (Md.up Md.rf rfl) hI1418 rfl)), (show Md [8, 9] A A1418 from (Md.tr Md.rf hA1418 rfl)), hV1418, hF, rfl, rfl⟩ dX4_takeFrom_52
      · skip
        replace hF := FE.neg hF c1786
        refine g_aload_n hk dX4_takeFrom_15 rfl ?_
        refine g_callV (n := 0) hk (k164_X4_open l D zt q d I1418 A1418  hV1418) (SP.same _) (fun _ h => h) (gi_V (List.mem_cons_of_mem _ (List.mem_append_left _ (List.mem_of_getElem? (i := 1) rfl))) (List.mem_cons_of_mem _ (List.mem_append_left _ (List.mem_of_getElem? (i := 2) rfl))) (List.mem_cons_of_mem _ (List.mem_append_left _ (List.mem_of_getElem? (i := 3) rfl))) (List.mem_cons_of_mem _ (List.mem_append_left _ (List.mem_of_getElem? (i := 4) rfl))) (gi_sub (fun w h => (List.mem_cons_of_mem _ (List.mem_append_right _ (List.mem_append_right _ (List.mem_append_left _ h))))) zg_k159_X4_open)) rfl rfl rfl (by decide +kernel) ⟨Nat.le_of_ble_eq_true rfl, Nat.le_of_ble_eq_true rfl⟩ 15 rfl rfl rfl rfl (Nat.le_of_ble_eq_true rfl) ⟨Nat.le_of_ble_eq_true rfl, Nat.le_of_ble_eq_true rfl⟩ dX4_takeFrom_16 (fun v ty' w' hp hk' => ?_)
        obtain ⟨I1788, A1788, hI1788, hA1788, hV1788, hC, rfl, rfl⟩ := hp
        replace hF := FE.bdX hF hC
        show GW κ 4 0 0 (wX q d I1788 A1788) 19 [(2, .int x1415), (0, .ref (q 15)), (1, .ref (q 8))] []
        refine g_iconst (v := 0) hk dX4_takeFrom_19 (by decide) ?_
        refine g_istore_n (lv' := [(3, .int 0), (2, .int x1415), (0, .ref (q 15)), (1, .ref (q 8))]) hk dX4_takeFrom_20 (by decide) rfl ?_
        have lp1866 : ∀ (n1867 : Nat) (x1789 : Int32) (I1793 : Nat → Int32) (A1793 : Nat → Nat → Int32), (Md [] I1788 I1793) → (Md [8, 9] A1788 A1793) → (IvX I1793 A1793) → (0 ≤ x1789.toInt) → (x1789.toInt ≤ 16) → (17 - x1789.toInt < (n1867 : Int)) → (0 < n1867) → (FE (fX4_takeFrom I A) (itr_iIA dfX (bX4_takeFrom_21 x1415 (itr_iIA dfX (bX4_takeFrom_7 I) n1780)) n1867 x1789 I1793 A1793)) → GW κ 4 0 0 (wX q d I1793 A1793) 21 [(3, .int x1789), (2, .int x1415), (0, .ref (q 15)), (1, .ref (q 8))] [] := by
          intro n1867
          induction n1867 with
          | zero =>
            intro x1789 I1793 A1793 hI1793 hA1793 hV1793 h1864 h1865 m1868 m1868z hF
            exact absurd m1868z (Nat.lt_irrefl 0)
          | succ n1867 ih1870 =>
            intro x1789 I1793 A1793 hI1793 hA1793 hV1793 h1864 h1865 m1868 m1868z hF
            replace hF := FE.itr_iIA hF
            refine g_iload_n hk dX4_takeFrom_21 rfl ?_
            refine g_aload_n hk dX4_takeFrom_22 rfl ?_
            refine g_iload_n hk dX4_takeFrom_23 rfl ?_
            refine g_callV (n := 1) hk (k165_X4_lengthOf l D zt q d I1793 A1793 x1415 hV1793) (SP.same _) (fun _ h => h) (gi_V (List.mem_cons_of_mem _ (List.mem_append_left _ (List.mem_of_getElem? (i := 5) rfl))) (List.mem_cons_of_mem _ (List.mem_append_left _ (List.mem_of_getElem? (i := 6) rfl))) (List.mem_cons_of_mem _ (List.mem_append_left _ (List.mem_of_getElem? (i := 7) rfl))) (List.mem_cons_of_mem _ (List.mem_append_left _ (List.mem_of_getElem? (i := 4) rfl))) (gi_sub (fun w h => (List.mem_cons_of_mem _ (List.mem_append_right _ (List.mem_append_right _ (List.mem_append_right _ (List.mem_append_left _ h)))))) zg_k165_X4_lengthOf)) rfl rfl rfl (by decide +kernel) ⟨Nat.le_of_ble_eq_true rfl, Nat.le_of_ble_eq_true rfl⟩ 8 rfl rfl rfl rfl (Nat.le_of_ble_eq_true rfl) ⟨Nat.le_of_ble_eq_true rfl, Nat.le_of_ble_eq_true rfl⟩ dX4_takeFrom_24 (fun v ty' w' hp hk' => ?_)
            rcases hp with ⟨hC, rfl, rfl⟩ | ⟨y1878, c1872, c1873, c1874, c1875, c1876, c1877, c1879, c1880, hC, rfl, rfl⟩
            · skip
              replace hF := FE.pos hF (fe_2 hC)
              show GW κ 4 0 0 (wX q d I1793 A1793) 27 [(3, .int x1789), (2, .int x1415), (0, .ref (q 15)), (1, .ref (q 8))] [.int 0, .int x1789]
              refine g_icmp_ge (tgt := 46) (a := x1789.toInt) (b := 0) hk dX4_takeFrom_27 (by decide) rfl rfl (fun _ => ?_) (fun z9 => absurd (show 0 ≤ x1789.toInt from by omega) z9)
              obtain ⟨y1881, ey1881⟩ : ∃ y : Int32, y = x1415 + Int32.ofInt 1 := ⟨_, rfl⟩
              replace hF := FE.lt hF ey1881
              have hy1881 : y1881.toInt = x1415.toInt + 1 := i32_add ey1881 rfl (by decide) (by omega) (by omega)
              refine g_iinc (v := y1881) (lv' := [(2, .int y1881), (3, .int x1789), (0, .ref (q 15)), (1, .ref (q 8))]) hk 1 dX4_takeFrom_46 rfl ey1881.symm (by decide) rfl ?_
              refine g_goto (tgt := 7) hk dX4_takeFrom_49 (by decide) ?_
              exact g_lv (List.forall_mem_cons.mpr ⟨List.mem_of_getElem? (i := 0) rfl, (List.forall_mem_cons.mpr ⟨List.mem_of_getElem? (i := 2) rfl, (List.forall_mem_cons.mpr ⟨List.mem_of_getElem? (i := 3) rfl, (fun _ h => absurd h List.not_mem_nil)⟩)⟩)⟩) (ih1783 y1881 I1793 A1793 (show Md [19] (upd I 19 0) I1793 from Md.tr hI1418 (show Md [19] I1418 I1793 from (Md.tr (Md.tr Md.rf hI1788 rfl) hI1793 rfl)) rfl) (show Md [8, 9] A A1793 from Md.tr hA1418 (show Md [8, 9] A1418 A1793 from (Md.tr (Md.tr Md.rf hA1788 rfl) hA1793 rfl)) rfl) hV1793 (by omega) (by omega) (by omega) hF)
            · skip
              replace hF := FE.neg hF (fe_ne2 hC (by decide))
              replace hF := FE.lt hF (fe_1 hC)
              show GW κ 4 0 0 (wX q d I1793 A1793) 27 [(3, .int x1789), (2, .int x1415), (0, .ref (q 15)), (1, .ref (q 8))] [.int y1878, .int x1789]
              refine g_icmp_ge (tgt := 46) (a := x1789.toInt) (b := y1878.toInt) hk dX4_takeFrom_27 (by decide) rfl rfl (fun c1882 => ?_) (fun c1882 => ?_)
              · skip
                replace hF := FE.pos hF c1882
                obtain ⟨y1883, ey1883⟩ : ∃ y : Int32, y = x1415 + Int32.ofInt 1 := ⟨_, rfl⟩
                replace hF := FE.lt hF ey1883
                have hy1883 : y1883.toInt = x1415.toInt + 1 := i32_add ey1883 rfl (by decide) (by omega) (by omega)
                refine g_iinc (v := y1883) (lv' := [(2, .int y1883), (3, .int x1789), (0, .ref (q 15)), (1, .ref (q 8))]) hk 1 dX4_takeFrom_46 rfl ey1883.symm (by decide) rfl ?_
                refine g_goto (tgt := 7) hk dX4_takeFrom_49 (by decide) ?_
                exact g_lv (List.forall_mem_cons.mpr ⟨List.mem_of_getElem? (i := 0) rfl, (List.forall_mem_cons.mpr ⟨List.mem_of_getElem? (i := 2) rfl, (List.forall_mem_cons.mpr ⟨List.mem_of_getElem? (i := 3) rfl, (fun _ h => absurd h List.not_mem_nil)⟩)⟩)⟩) (ih1783 y1883 I1793 A1793 (show Md [19] (upd I 19 0) I1793 from Md.tr hI1418 (show Md [19] I1418 I1793 from (Md.tr (Md.tr Md.rf hI1788 rfl) hI1793 rfl)) rfl) (show Md [8, 9] A A1793 from Md.tr hA1418 (show Md [8, 9] A1418 A1793 from (Md.tr (Md.tr Md.rf hA1788 rfl) hA1793 rfl)) rfl) hV1793 (by omega) (by omega) (by omega) hF)
              · skip
                replace hF := FE.neg hF c1882
                refine g_aload_n hk dX4_takeFrom_30 rfl ?_
                refine g_aload_n hk dX4_takeFrom_31 rfl ?_
                refine g_iload_n hk dX4_takeFrom_32 rfl ?_
                refine g_iload_n hk dX4_takeFrom_33 rfl ?_
                refine g_callV (n := 2) hk (k166_X4_valueAt l D zt q d I1793 A1793 x1415 x1789 hV1793) (SP.same _) (fun _ h => h) (gi_V (List.mem_cons_of_mem _ (List.mem_append_left _ (List.mem_of_getElem? (i := 8) rfl))) (List.mem_cons_of_mem _ (List.mem_append_left _ (List.mem_of_getElem? (i := 9) rfl))) (List.mem_cons_of_mem _ (List.mem_append_left _ (List.mem_of_getElem? (i := 10) rfl))) (List.mem_cons_of_mem _ (List.mem_append_left _ (List.mem_of_getElem? (i := 4) rfl))) (gi_sub (fun w h => (List.mem_cons_of_mem _ (List.mem_append_right _ (List.mem_append_right _ (List.mem_append_right _ (List.mem_append_right _ (List.mem_append_left _ h))))))) zg_k166_X4_valueAt)) rfl rfl rfl (by decide +kernel) ⟨Nat.le_of_ble_eq_true rfl, Nat.le_of_ble_eq_true rfl⟩ 8 rfl rfl rfl rfl (Nat.le_of_ble_eq_true rfl) ⟨Nat.le_of_ble_eq_true rfl, Nat.le_of_ble_eq_true rfl⟩ dX4_takeFrom_34 (fun v ty' w' hp hk' => ?_)
                obtain ⟨y1884, hC, rfl, rfl⟩ := hp
                replace hF := FE.lt hF (fe_s hC)
                show GW κ 4 0 0 (wX q d I1793 A1793) 37 [(3, .int x1789), (2, .int x1415), (0, .ref (q 15)), (1, .ref (q 8))] [.int y1884, .ref (q 15)]
                refine g_callV (n := 1) hk (k167_X4_append l D zt q d I1793 A1793 y1884 hV1793) (SP.same _) (fun _ h => h) (gi_V (List.mem_cons_of_mem _ (List.mem_append_left _ (List.mem_of_getElem? (i := 11) rfl))) (List.mem_cons_of_mem _ (List.mem_append_left _ (List.mem_of_getElem? (i := 12) rfl))) (List.mem_cons_of_mem _ (List.mem_append_left _ (List.mem_of_getElem? (i := 13) rfl))) (List.mem_cons_of_mem _ (List.mem_append_left _ (List.mem_of_getElem? (i := 4) rfl))) (gi_sub (fun w h => (List.mem_cons_of_mem _ (List.mem_append_right _ (List.mem_append_right _ (List.mem_append_right _ (List.mem_append_right _ (List.mem_append_right _ (List.mem_append_left _ h)))))))) zg_k154_X4_append)) rfl rfl rfl (by decide +kernel) ⟨Nat.le_of_ble_eq_true rfl, Nat.le_of_ble_eq_true rfl⟩ 15 rfl rfl rfl rfl (Nat.le_of_ble_eq_true rfl) ⟨Nat.le_of_ble_eq_true rfl, Nat.le_of_ble_eq_true rfl⟩ dX4_takeFrom_37 (fun v ty' w' hp hk' => ?_)
                obtain ⟨I1886, A1886, hI1886, hA1886, hV1886, hC, rfl, rfl⟩ := hp
                replace hF := FE.bdX hF hC
                show GW κ 4 0 0 (wX q d I1886 A1886) 40 [(3, .int x1789), (2, .int x1415), (0, .ref (q 15)), (1, .ref (q 8))] []
                obtain ⟨y1887, ey1887⟩ : ∃ y : Int32, y = x1789 + Int32.ofInt 1 := ⟨_, rfl⟩
                replace hF := FE.lt hF ey1887
                have hy1887 : y1887.toInt = x1789.toInt + 1 := i32_add ey1887 rfl (by decide) (by omega) (by omega)
                refine g_iinc (v := y1887) (lv' := [(3, .int y1887), (2, .int x1415), (0, .ref (q 15)), (1, .ref (q 8))]) hk 0 dX4_takeFrom_40 rfl ey1887.symm (by decide) rfl ?_
                refine g_goto (tgt := 21) hk dX4_takeFrom_43 (by decide) ?_
                exact g_lv (List.forall_mem_cons.mpr ⟨List.mem_of_getElem? (i := 0) rfl, (List.forall_mem_cons.mpr ⟨List.mem_of_getElem? (i := 1) rfl, (List.forall_mem_cons.mpr ⟨List.mem_of_getElem? (i := 2) rfl, (List.forall_mem_cons.mpr ⟨List.mem_of_getElem? (i := 3) rfl, (fun _ h => absurd h List.not_mem_nil)⟩)⟩)⟩)⟩) (ih1870 y1887 I1886 A1886 (show Md [] I1788 I1886 from Md.tr hI1793 (show Md [] I1793 I1886 from (Md.tr Md.rf hI1886 rfl)) rfl) (show Md [8, 9] A1788 A1886 from Md.tr hA1793 (show Md [8, 9] A1793 A1886 from (Md.tr Md.rf hA1886 rfl)) rfl) hV1886 (by omega) (by omega) (by omega) (by omega) hF)
        have k1889 : (0 : Int32).toInt = 0 := rfl
        have n1888a : 17 - 0 < (FU : Int) := by have := FU_eq; omega
        have n1888b : 0 < FU := by have := FU_eq; omega
        exact lp1866 FU 0 I1788 A1788 Md.rf Md.rf hV1788 (by omega) (by omega) n1888a n1888b hF
  have k1891 : (0 : Int32).toInt = 0 := rfl
  have b1892 := Int32.le_toInt (I 16)
  have b1893 := Int32.toInt_lt (I 16)
  have n1890a : (I 16).toInt + 1 - 0 < (FU : Int) := by have := FU_eq; omega
  have n1890b : 0 < FU := by have := FU_eq; omega
  exact lp1779 FU 0 (upd I 19 0) A Md.rf Md.rf ⟨(IvX_f0 (I := I) (A := A) hIv), (IvX_f18 (I := I) (A := A) hIv), (IvX_f30 (I := I) (A := A) hIv), (IvX_f31 (I := I) (A := A) hIv), (IvX_a4 (I := I) (A := A) hIv), (IvX_a9 (I := I) (A := A) hIv), trivial⟩ (by omega) n1890a n1890b hF
noncomputable def fX8_valueAt (I : Nat → Int32) (A : Nat → Nat → Int32) (z1 : Int32) : Int32 := if z1.toInt < 0 then (-1000) else if (I 14).toInt ≤ z1.toInt then (-1000) else if 160 ≤ z1.toInt then (-1000) else (A 1 z1.toNatClampNeg)
def wz_k171_X8_valueAt : List Cond := .code yX8_valueAt cX8_valueAt 2 (some .int) :: (wo_k156_X8_append ++ (wsX80 ++ ([] : List Cond)))
theorem zg_k171_X8_valueAt : ∀ w ∈ wz_k171_X8_valueAt, goodWord w = true := zg_cons rfl (zg_app (by decide +kernel) (zg_app zgU_wsX80 zg_nil))
theorem zi_k171_X8_valueAt : ∀ w ∈ wz_k171_X8_valueAt, w ∈ lw_tbl := zi_cons zw_776 (zi_app (zi_cons zw_195 (zi_cons zw_194 zi_nil)) (zi_app inX8 zi_nil))
set_option maxHeartbeats 4000000 in
set_option maxRecDepth 100000 in
theorem k171_X8_valueAt (l : Launch) (D : va_G) (zt : Nat × Nat × Nat × (Nat → Nat) × (Nat → Nat)) (q : Nat → Nat) (d : Nat → ClassId) (I : Nat → Int32) (A : Nat → Nat → Int32) (z1 : Int32) (hIv : IvX I A) : GM l D zt (tyX d) yX8_valueAt wz_k171_X8_valueAt ({ frames := 0, cells := 0, slots := 0, locals := 0 } : Room) [.ref (q 4), .int z1] (wX q d I A) (fun v _ w' => ∃ y0 : Int32, FE (fX8_valueAt I A z1) y0 ∧ v = some (.int y0) ∧ w' = wX q d I A) 0 0 := by
  refine GM.of (cc := cX8_valueAt) (maxL := 2) (ret := (some .int)) (own := RX8) (lv := [(0, .ref (q 4)), (1, .int z1)]) (by decide) rfl rfl (Nat.le_of_ble_eq_true rfl) rfl (fun κ sz hk hR hN => ?_)
  have hin8 : ∀ w ∈ u_ws RX8 TX8 4, w ∈ wz_k171_X8_valueAt := fun w h => (List.mem_cons_of_mem _ (List.mem_append_right _ (List.mem_append_left _ h)))
  have hF : FE (fX8_valueAt I A z1) (fX8_valueAt I A z1) := FE.rf
  refine g_iload_n hk dX8_valueAt_0 rfl ?_
  have b1902l := Int32.le_toInt z1
  have b1902h := Int32.toInt_lt z1
  refine g_if_lt (tgt := 30) (a := z1.toInt) hk dX8_valueAt_1 (by decide) rfl (fun c1903 => ?_) (fun c1903 => ?_)
  · skip
    replace hF := FE.pos hF c1903
    refine g_sipush (v := (-1000)) hk dX8_valueAt_30 (by decide) ?_
    exact g_iret hk hR rfl ⟨(-1000), hF, rfl, rfl⟩ dX8_valueAt_33
  · skip
    replace hF := FE.neg hF c1903
    refine g_iload_n hk dX8_valueAt_4 rfl ?_
    refine g_aload_n hk dX8_valueAt_5 rfl ?_
    refine gX_i14 (v := (I 14)) hk hin8 (List.mem_cons_of_mem _ (List.mem_append_left _ (List.mem_of_getElem? (i := 0) rfl))) dX8_valueAt_6 rfl ?_
    have b1904l := Int32.le_toInt (I 14)
    have b1904h := Int32.toInt_lt (I 14)
    refine g_icmp_ge (tgt := 30) (a := z1.toInt) (b := (I 14).toInt) hk dX8_valueAt_9 (by decide) rfl rfl (fun c1905 => ?_) (fun c1905 => ?_)
    · skip
      replace hF := FE.pos hF c1905
      refine g_sipush (v := (-1000)) hk dX8_valueAt_30 (by decide) ?_
      exact g_iret hk hR rfl ⟨(-1000), hF, rfl, rfl⟩ dX8_valueAt_33
    · skip
      replace hF := FE.neg hF c1905
      refine g_iload_n hk dX8_valueAt_12 rfl ?_
      refine g_aload_n hk dX8_valueAt_13 rfl ?_
      refine gX_r4_0 hk hin8 (List.mem_cons_of_mem _ (List.mem_append_left _ (List.mem_of_getElem? (i := 1) rfl))) dX8_valueAt_14 ?_
      refine nX_1 hk dX8_valueAt_17 ?_
      refine g_icmp_ge (tgt := 30) (a := z1.toInt) (b := 160) hk dX8_valueAt_18 (by decide) rfl rfl (fun c1906 => ?_) (fun c1906 => ?_)
      · skip
        replace hF := FE.pos hF c1906
        refine g_sipush (v := (-1000)) hk dX8_valueAt_30 (by decide) ?_
        exact g_iret hk hR rfl ⟨(-1000), hF, rfl, rfl⟩ dX8_valueAt_33
      · skip
        replace hF := FE.neg hF c1906
        refine g_aload_n hk dX8_valueAt_21 rfl ?_
        refine gX_r4_0 hk hin8 (List.mem_cons_of_mem _ (List.mem_append_left _ (List.mem_of_getElem? (i := 1) rfl))) dX8_valueAt_22 ?_
        refine g_iload_n hk dX8_valueAt_25 rfl ?_
        refine lX_1 (v := (A 1 z1.toNatClampNeg)) hk (vp_in_iff.mpr ⟨by omega, by omega⟩) rfl dX8_valueAt_26 ?_
        refine g_goto (tgt := 33) hk dX8_valueAt_27 (by decide) ?_
        have b1907l := Int32.le_toInt (A 1 z1.toNatClampNeg)
        have b1907h := Int32.toInt_lt (A 1 z1.toNatClampNeg)
        exact g_iret hk hR rfl ⟨(A 1 z1.toNatClampNeg), hF, rfl, rfl⟩ dX8_valueAt_33
noncomputable def fX6_append (I : Nat → Int32) (A : Nat → Nat → Int32) (z1 : Int32) : Int32 × (Nat → Int32) × (Nat → Nat → Int32) := if (I 18).toInt < 160 then f_lt ((I 17) + (I 18)) fun y1913 => f_lt (y1913 &&& (255 : Int32)) fun y1915 => f_lt ((I 18) + (1 : Int32)) fun y1916 => (1, (upd I 18 y1916), (up3 A 7 (y1915.toNatClampNeg) z1)) else (0, I, A)
def wo_k172_X6_append : List Cond := [Cond.fieldLink RX6 19 "WarpDesk$Series" "size" "I", Cond.fieldLink RX6 11 "WarpDesk$Series" "ring" "[I", Cond.fieldLink RX6 15 "WarpDesk$Series" "first" "I"]
def wz_k172_X6_append : List Cond := .code yX6_append cX6_append 2 (some .boolean) :: (wo_k172_X6_append ++ (wsX60 ++ ([] : List Cond)))
theorem zg_k172_X6_append : ∀ w ∈ wz_k172_X6_append, goodWord w = true := zg_cons rfl (zg_app (by decide +kernel) (zg_app zgU_wsX60 zg_nil))
theorem zi_k172_X6_append : ∀ w ∈ wz_k172_X6_append, w ∈ lw_tbl := zi_cons zw_780 (zi_app (zi_cons zw_282 (zi_cons zw_280 (zi_cons zw_281 zi_nil))) (zi_app inX6 zi_nil))
set_option maxHeartbeats 4000000 in
set_option maxRecDepth 100000 in
theorem k172_X6_append (l : Launch) (D : va_G) (zt : Nat × Nat × Nat × (Nat → Nat) × (Nat → Nat)) (q : Nat → Nat) (d : Nat → ClassId) (I : Nat → Int32) (A : Nat → Nat → Int32) (z1 : Int32) (hIv : IvX I A) : GM l D zt (tyX d) yX6_append wz_k172_X6_append ({ frames := 0, cells := 0, slots := 0, locals := 0 } : Room) [.ref (q 13), .int z1] (wX q d I A) (fun v _ w' => ∃ (I' : Nat → Int32) (A' : Nat → Nat → Int32), Md [18] I I' ∧ Md [7] A A' ∧ IvX I' A' ∧ ∃ y0 : Int32, (0 ≤ y0.toInt) ∧ (y0.toInt ≤ 1) ∧ FE (fX6_append I A z1) (y0, I', A') ∧ v = some (.int y0) ∧ w' = wX q d I' A') 0 0 := by
  refine GM.of (cc := cX6_append) (maxL := 2) (ret := (some .boolean)) (own := RX6) (lv := [(0, .ref (q 13)), (1, .int z1)]) (by decide) rfl rfl (Nat.le_of_ble_eq_true rfl) rfl (fun κ sz hk hR hN => ?_)
  have hin6 : ∀ w ∈ u_ws RX6 TX6 3, w ∈ wz_k172_X6_append := fun w h => (List.mem_cons_of_mem _ (List.mem_append_right _ (List.mem_append_left _ h)))
  have hF : FE (fX6_append I A z1) (fX6_append I A z1) := FE.rf
  refine g_aload_n hk dX6_append_0 rfl ?_
  refine gX_i18 (v := (I 18)) hk hin6 (List.mem_cons_of_mem _ (List.mem_append_left _ (List.mem_of_getElem? (i := 0) rfl))) dX6_append_1 rfl ?_
  have f1910 := IvX_f18 hIv
  refine g_sipush (v := 160) hk dX6_append_4 (by decide) ?_
  refine g_icmp_lt (tgt := 12) (a := (I 18).toInt) (b := 160) hk dX6_append_7 (by decide) rfl rfl (fun c1911 => ?_) (fun c1911 => ?_)
  · skip
    replace hF := FE.pos hF c1911
    refine g_aload_n hk dX6_append_12 rfl ?_
    refine gX_r13_0 hk hin6 (List.mem_cons_of_mem _ (List.mem_append_left _ (List.mem_of_getElem? (i := 1) rfl))) dX6_append_13 ?_
    refine g_aload_n hk dX6_append_16 rfl ?_
    refine gX_i17 (v := (I 17)) hk hin6 (List.mem_cons_of_mem _ (List.mem_append_left _ (List.mem_of_getElem? (i := 2) rfl))) dX6_append_17 rfl ?_
    refine g_aload_n hk dX6_append_20 rfl ?_
    refine gX_i18 (v := (I 18)) hk hin6 (List.mem_cons_of_mem _ (List.mem_append_left _ (List.mem_of_getElem? (i := 0) rfl))) dX6_append_21 rfl ?_
    have b1912l := Int32.le_toInt (I 17)
    have b1912h := Int32.toInt_lt (I 17)
    refine g_iadd hk dX6_append_24 ?_
    refine g_topi (fun y1913 ey1913 => ?_)
    replace hF := FE.lt hF ey1913
    refine g_sipush (v := 255) hk dX6_append_25 (by decide) ?_
    have b1914l := Int32.le_toInt y1913
    have b1914h := Int32.toInt_lt y1913
    refine g_iand hk dX6_append_28 ?_
    refine g_topi (fun y1915 ey1915 => ?_)
    replace hF := FE.lt hF ey1915
    have hy1915 : 0 ≤ y1915.toInt ∧ y1915.toInt ≤ 255 := i32_mask 8 ey1915 (by decide) (by decide)
    refine g_iload_n hk dX6_append_29 rfl ?_
    refine sX_7 (j := y1915.toNatClampNeg) hk (vp_in_iff.mpr ⟨by omega, by omega⟩) rfl dX6_append_30 ?_
    refine g_aload_n hk dX6_append_31 rfl ?_
    refine g_dup hk dX6_append_32 rfl ?_
    refine gX_i18 (v := (I 18)) hk hin6 (List.mem_cons_of_mem _ (List.mem_append_left _ (List.mem_of_getElem? (i := 0) rfl))) dX6_append_33 rfl ?_
    refine g_iconst (v := 1) hk dX6_append_36 (by decide) ?_
    refine g_iadd hk dX6_append_37 ?_
    refine g_topi (fun y1916 ey1916 => ?_)
    replace hF := FE.lt hF ey1916
    have hy1916 : y1916.toInt = (I 18).toInt + 1 := i32_add ey1916 rfl rfl (by omega) (by omega)
    refine pX_i18 hk hin6 (List.mem_cons_of_mem _ (List.mem_append_left _ (List.mem_of_getElem? (i := 0) rfl))) dX6_append_38 ?_
    refine g_iconst (v := 1) hk dX6_append_41 (by decide) ?_
    exact g_iret hk hR rfl ⟨(upd I 18 y1916), (up3 A 7 (y1915.toNatClampNeg) z1), (show Md [18] I (upd I 18 y1916) from (Md.up Md.rf rfl)), (show Md [7] A (up3 A 7 (y1915.toNatClampNeg) z1) from (Md.up3 Md.rf rfl)), ⟨(IvX_f0 (I := I) (A := A) hIv), (show 0 ≤ y1916.toInt ∧ y1916.toInt ≤ 160 from ⟨by omega, by omega⟩), (IvX_f30 (I := I) (A := A) hIv), (IvX_f31 (I := I) (A := A) hIv), (IvX_a4 (I := I) (A := A) hIv), (IvX_a9 (I := I) (A := A) hIv), trivial⟩, 1, (by decide), (by decide), hF, rfl, rfl⟩ dX6_append_42
  · skip
    replace hF := FE.neg hF c1911
    refine g_iconst (v := 0) hk dX6_append_10 (by decide) ?_
    exact g_iret hk hR rfl ⟨I, A, (show Md [18] I I from Md.rf), (show Md [7] A A from Md.rf), hIv, 0, (by decide), (by decide), hF, rfl, rfl⟩ dX6_append_11
noncomputable def bX6_takeFrom_12 (I : Nat → Int32) : (Int32 → (Nat → Int32) → (Nat → Nat → Int32) → (Int32 × (Nat → Int32) × (Nat → Nat → Int32))) → Int32 → (Nat → Int32) → (Nat → Nat → Int32) → (Int32 × (Nat → Int32) × (Nat → Nat → Int32)) := fun kk1942 x1896 I1899 A1899 => if (I 14).toInt ≤ x1896.toInt then (0, I1899, A1899) else f_lt (fX8_valueAt I1899 A1899 x1896) fun y1947 => f_bdX (fX6_append I1899 A1899 y1947) fun y1948 I1951 A1951 => f_lt (x1896 + Int32.ofInt 1) fun y1952 => kk1942 y1952 I1951 A1951
noncomputable def fX6_takeFrom (I : Nat → Int32) (A : Nat → Nat → Int32) : Int32 × (Nat → Int32) × (Nat → Nat → Int32) := itr_iIA dfX (bX6_takeFrom_12 I) FU 0 (upd (upd I 17 0) 18 0) A
def wo_k170_X6_takeFrom : List Cond := [Cond.fieldLink RX6 15 "WarpDesk$Series" "first" "I", Cond.fieldLink RX6 19 "WarpDesk$Series" "size" "I", Cond.fieldLink RX6 22 "WarpDesk$Stand" "size" "I", Cond.methodLink RX6 25 yX8_valueAt, Cond.instanceMethod yX8_valueAt, Cond.selects RX8 yX8_valueAt yX8_valueAt, Cond.initialized RX8, Cond.methodLink RX6 29 yX6_append, Cond.instanceMethod yX6_append, Cond.selects RX6 yX6_append yX6_append, Cond.initialized RX6]
def wz_k170_X6_takeFrom : List Cond := .code yX6_takeFrom cX6_takeFrom 3 none :: (wo_k170_X6_takeFrom ++ (wsX60 ++ (wsX80 ++ (wz_k171_X8_valueAt ++ (wz_k172_X6_append ++ ([] : List Cond))))))
theorem zg_k170_X6_takeFrom : ∀ w ∈ wz_k170_X6_takeFrom, goodWord w = true := zg_cons rfl (zg_app (by decide +kernel) (zg_app zgU_wsX60 (zg_app zgU_wsX80 (zg_app zg_k171_X8_valueAt (zg_app zg_k172_X6_append zg_nil)))))
theorem zi_k170_X6_takeFrom : ∀ w ∈ wz_k170_X6_takeFrom, w ∈ lw_tbl := zi_cons zw_772 (zi_app (zi_cons zw_281 (zi_cons zw_282 (zi_cons zw_196 (zi_cons zw_773 (zi_cons zw_774 (zi_cons zw_775 (zi_cons zw_106 (zi_cons zw_777 (zi_cons zw_778 (zi_cons zw_779 (zi_cons zw_109 zi_nil))))))))))) (zi_app inX6 (zi_app inX8 (zi_app zi_k171_X8_valueAt (zi_app zi_k172_X6_append zi_nil)))))
set_option maxHeartbeats 4000000 in
set_option maxRecDepth 100000 in
theorem k170_X6_takeFrom (l : Launch) (D : va_G) (zt : Nat × Nat × Nat × (Nat → Nat) × (Nat → Nat)) (q : Nat → Nat) (d : Nat → ClassId) (I : Nat → Int32) (A : Nat → Nat → Int32) (hIv : IvX I A) : GM l D zt (tyX d) yX6_takeFrom wz_k170_X6_takeFrom ({ frames := 1, cells := 0, slots := 0, locals := 21 } : Room) [.ref (q 13), .ref (q 4)] (wX q d I A) (fun v _ w' => ∃ (I' : Nat → Int32) (A' : Nat → Nat → Int32), Md [17, 18] I I' ∧ Md [7] A A' ∧ IvX I' A' ∧ FE (fX6_takeFrom I A) (0, I', A') ∧ v = none ∧ w' = wX q d I' A') 0 0 := by
  refine GM.of (cc := cX6_takeFrom) (maxL := 3) (ret := none) (own := RX6) (lv := [(0, .ref (q 13)), (1, .ref (q 4))]) (by decide) rfl rfl (Nat.le_of_ble_eq_true rfl) rfl (fun κ sz hk hR hN => ?_)
  have hin6 : ∀ w ∈ u_ws RX6 TX6 3, w ∈ wz_k170_X6_takeFrom := fun w h => (List.mem_cons_of_mem _ (List.mem_append_right _ (List.mem_append_left _ h)))
  have hin8 : ∀ w ∈ u_ws RX8 TX8 4, w ∈ wz_k170_X6_takeFrom := fun w h => (List.mem_cons_of_mem _ (List.mem_append_right _ (List.mem_append_right _ (List.mem_append_left _ h))))
  have hF : FE (fX6_takeFrom I A) (fX6_takeFrom I A) := FE.rf
  refine g_aload_n hk dX6_takeFrom_0 rfl ?_
  refine g_iconst (v := 0) hk dX6_takeFrom_1 (by decide) ?_
  refine pX_i17 hk hin6 (List.mem_cons_of_mem _ (List.mem_append_left _ (List.mem_of_getElem? (i := 0) rfl))) dX6_takeFrom_2 ?_
  refine g_aload_n hk dX6_takeFrom_5 rfl ?_
  refine g_iconst (v := 0) hk dX6_takeFrom_6 (by decide) ?_
  refine pX_i18 hk hin6 (List.mem_cons_of_mem _ (List.mem_append_left _ (List.mem_of_getElem? (i := 1) rfl))) dX6_takeFrom_7 ?_
  refine g_iconst (v := 0) hk dX6_takeFrom_10 (by decide) ?_
  refine g_istore_n (lv' := [(2, .int 0), (0, .ref (q 13)), (1, .ref (q 4))]) hk dX6_takeFrom_11 (by decide) rfl ?_
  have lp1939 : ∀ (n1940 : Nat) (x1896 : Int32) (I1899 : Nat → Int32) (A1899 : Nat → Nat → Int32), (Md [17, 18] (upd (upd I 17 0) 18 0) I1899) → (Md [7] A A1899) → (IvX I1899 A1899) → (0 ≤ x1896.toInt) → ((I 14).toInt + 1 - x1896.toInt < (n1940 : Int)) → (0 < n1940) → (FE (fX6_takeFrom I A) (itr_iIA dfX (bX6_takeFrom_12 I) n1940 x1896 I1899 A1899)) → GW κ 3 0 0 (wX q d I1899 A1899) 12 [(2, .int x1896), (0, .ref (q 13)), (1, .ref (q 4))] [] := by
    intro n1940
    induction n1940 with
    | zero =>
      intro x1896 I1899 A1899 hI1899 hA1899 hV1899 h1938 m1941 m1941z hF
      exact absurd m1941z (Nat.lt_irrefl 0)
    | succ n1940 ih1943 =>
      intro x1896 I1899 A1899 hI1899 hA1899 hV1899 h1938 m1941 m1941z hF
      replace hF := FE.itr_iIA hF
      refine g_iload_n hk dX6_takeFrom_12 rfl ?_
      refine g_aload_n hk dX6_takeFrom_13 rfl ?_
      refine gX_i14 (v := (I 14)) hk hin8 (List.mem_cons_of_mem _ (List.mem_append_left _ (List.mem_of_getElem? (i := 2) rfl))) dX6_takeFrom_14 (hI1899 14 rfl) ?_
      have b1944l := Int32.le_toInt x1896
      have b1944h := Int32.toInt_lt x1896
      have b1945l := Int32.le_toInt (I 14)
      have b1945h := Int32.toInt_lt (I 14)
      refine g_icmp_ge (tgt := 36) (a := x1896.toInt) (b := (I 14).toInt) hk dX6_takeFrom_17 (by decide) rfl rfl (fun c1946 => ?_) (fun c1946 => ?_)
      · skip
        replace hF := FE.pos hF c1946
        exact g_vret hk hR ⟨I1899, A1899, (show Md [17, 18] I I1899 from (Md.tr (Md.up (Md.up Md.rf rfl) rfl) hI1899 rfl)), (show Md [7] A A1899 from (Md.tr Md.rf hA1899 rfl)), hV1899, hF, rfl, rfl⟩ dX6_takeFrom_36
      · skip
        replace hF := FE.neg hF c1946
        refine g_aload_n hk dX6_takeFrom_20 rfl ?_
        refine g_aload_n hk dX6_takeFrom_21 rfl ?_
        refine g_iload_n hk dX6_takeFrom_22 rfl ?_
        refine g_callV (n := 1) hk (k171_X8_valueAt l D zt q d I1899 A1899 x1896 hV1899) (SP.same _) (fun _ h => h) (gi_V (List.mem_cons_of_mem _ (List.mem_append_left _ (List.mem_of_getElem? (i := 3) rfl))) (List.mem_cons_of_mem _ (List.mem_append_left _ (List.mem_of_getElem? (i := 4) rfl))) (List.mem_cons_of_mem _ (List.mem_append_left _ (List.mem_of_getElem? (i := 5) rfl))) (List.mem_cons_of_mem _ (List.mem_append_left _ (List.mem_of_getElem? (i := 6) rfl))) (gi_sub (fun w h => (List.mem_cons_of_mem _ (List.mem_append_right _ (List.mem_append_right _ (List.mem_append_right _ (List.mem_append_left _ h)))))) zg_k171_X8_valueAt)) rfl rfl rfl (by decide +kernel) ⟨Nat.le_of_ble_eq_true rfl, Nat.le_of_ble_eq_true rfl⟩ 4 rfl rfl rfl rfl (Nat.le_of_ble_eq_true rfl) ⟨Nat.le_of_ble_eq_true rfl, Nat.le_of_ble_eq_true rfl⟩ dX6_takeFrom_23 (fun v ty' w' hp hk' => ?_)
        obtain ⟨y1947, hC, rfl, rfl⟩ := hp
        replace hF := FE.lt hF (fe_s hC)
        show GW κ 3 0 0 (wX q d I1899 A1899) 26 [(2, .int x1896), (0, .ref (q 13)), (1, .ref (q 4))] [.int y1947, .ref (q 13)]
        refine g_callV (n := 1) hk (k172_X6_append l D zt q d I1899 A1899 y1947 hV1899) (SP.same _) (fun _ h => h) (gi_V (List.mem_cons_of_mem _ (List.mem_append_left _ (List.mem_of_getElem? (i := 7) rfl))) (List.mem_cons_of_mem _ (List.mem_append_left _ (List.mem_of_getElem? (i := 8) rfl))) (List.mem_cons_of_mem _ (List.mem_append_left _ (List.mem_of_getElem? (i := 9) rfl))) (List.mem_cons_of_mem _ (List.mem_append_left _ (List.mem_of_getElem? (i := 10) rfl))) (gi_sub (fun w h => (List.mem_cons_of_mem _ (List.mem_append_right _ (List.mem_append_right _ (List.mem_append_right _ (List.mem_append_right _ (List.mem_append_left _ h))))))) zg_k172_X6_append)) rfl rfl rfl (by decide +kernel) ⟨Nat.le_of_ble_eq_true rfl, Nat.le_of_ble_eq_true rfl⟩ 13 rfl rfl rfl rfl (Nat.le_of_ble_eq_true rfl) ⟨Nat.le_of_ble_eq_true rfl, Nat.le_of_ble_eq_true rfl⟩ dX6_takeFrom_26 (fun v ty' w' hp hk' => ?_)
        obtain ⟨I1951, A1951, hI1951, hA1951, hV1951, y1948, c1949, c1950, hC, rfl, rfl⟩ := hp
        replace hF := FE.bdX hF hC
        show GW κ 3 0 0 (wX q d I1951 A1951) 29 [(2, .int x1896), (0, .ref (q 13)), (1, .ref (q 4))] [.int y1948]
        refine g_pop hk dX6_takeFrom_29 rfl ?_
        obtain ⟨y1952, ey1952⟩ : ∃ y : Int32, y = x1896 + Int32.ofInt 1 := ⟨_, rfl⟩
        replace hF := FE.lt hF ey1952
        have hy1952 : y1952.toInt = x1896.toInt + 1 := i32_add ey1952 rfl (by decide) (by omega) (by omega)
        refine g_iinc (v := y1952) (lv' := [(2, .int y1952), (0, .ref (q 13)), (1, .ref (q 4))]) hk 0 dX6_takeFrom_30 rfl ey1952.symm (by decide) rfl ?_
        refine g_goto (tgt := 12) hk dX6_takeFrom_33 (by decide) ?_
        exact g_lv (List.forall_mem_cons.mpr ⟨List.mem_of_getElem? (i := 0) rfl, (List.forall_mem_cons.mpr ⟨List.mem_of_getElem? (i := 1) rfl, (List.forall_mem_cons.mpr ⟨List.mem_of_getElem? (i := 2) rfl, (fun _ h => absurd h List.not_mem_nil)⟩)⟩)⟩) (ih1943 y1952 I1951 A1951 (show Md [17, 18] (upd (upd I 17 0) 18 0) I1951 from Md.tr hI1899 (show Md [17, 18] I1899 I1951 from (Md.tr Md.rf hI1951 rfl)) rfl) (show Md [7] A A1951 from Md.tr hA1899 (show Md [7] A1899 A1951 from (Md.tr Md.rf hA1951 rfl)) rfl) hV1951 (by omega) (by omega) (by omega) hF)
  have k1954 : (0 : Int32).toInt = 0 := rfl
  have b1955 := Int32.le_toInt (I 14)
  have b1956 := Int32.toInt_lt (I 14)
  have n1953a : (I 14).toInt + 1 - 0 < (FU : Int) := by have := FU_eq; omega
  have n1953b : 0 < FU := by have := FU_eq; omega
  exact lp1939 FU 0 (upd (upd I 17 0) 18 0) A Md.rf Md.rf ⟨(IvX_f0 (I := I) (A := A) hIv), (show 0 ≤ (0 : Int32).toInt ∧ (0 : Int32).toInt ≤ 160 from ⟨by decide, by decide⟩), (IvX_f30 (I := I) (A := A) hIv), (IvX_f31 (I := I) (A := A) hIv), (IvX_a4 (I := I) (A := A) hIv), (IvX_a9 (I := I) (A := A) hIv), trivial⟩ (by omega) n1953a n1953b hF
