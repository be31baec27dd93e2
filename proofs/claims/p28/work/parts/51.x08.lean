noncomputable def fX11_whole (I : Nat → Int32) (A : Nat → Nat → Int32) (z1 : Int32) : Int32 := if z1.toInt < 0 then (-1) else if z1.toInt ≤ 1 then f_lt (fX6_longestRunFirst I A) fun y9989 => if y9989.toInt < 0 then y9989 else if z1.toInt ≠ 0 then f_lt (fX6_runFrom I A y9989) fun y9994 => y9994 else y9989 else (-1)
def wo_k308_X11_whole : List Cond := [Cond.fieldLink RX11 28 "WarpDesk" "series" "LWarpDesk$Series;", Cond.methodLink RX11 356 yX6_longestRunFirst, Cond.instanceMethod yX6_longestRunFirst, Cond.selects RX6 yX6_longestRunFirst yX6_longestRunFirst, Cond.initialized RX6, Cond.methodLink RX11 359 yX6_runFrom, Cond.instanceMethod yX6_runFrom, Cond.selects RX6 yX6_runFrom yX6_runFrom]
def wz_k308_X11_whole : List Cond := .code yX11_whole cX11_whole 3 (some .int) :: (wo_k308_X11_whole ++ (wsX110 ++ (wz_k309_X6_longestRunFirst ++ (wz_k310_X6_runFrom ++ ([] : List Cond)))))
theorem zg_k308_X11_whole : ∀ w ∈ wz_k308_X11_whole, goodWord w = true := zg_cons rfl (zg_app (by decide +kernel) (zg_app zgU_wsX110 (zg_app zg_k309_X6_longestRunFirst (zg_app zg_k310_X6_runFrom zg_nil))))
theorem zi_k308_X11_whole : ∀ w ∈ wz_k308_X11_whole, w ∈ lw_tbl := zi_cons zw_1316 (zi_app (zi_cons zw_489 (zi_cons zw_1317 (zi_cons zw_1318 (zi_cons zw_1319 (zi_cons zw_109 (zi_cons zw_1325 (zi_cons zw_1322 (zi_cons zw_1323 zi_nil)))))))) (zi_app inX11 (zi_app zi_k309_X6_longestRunFirst (zi_app zi_k310_X6_runFrom zi_nil))))
set_option maxHeartbeats 4000000 in
set_option maxRecDepth 100000 in
theorem k308_X11_whole (l : Launch) (D : va_G) (zt : Nat × Nat × Nat × (Nat → Nat) × (Nat → Nat)) (q : Nat → Nat) (d : Nat → ClassId) (I : Nat → Int32) (A : Nat → Nat → Int32) (z1 : Int32) (hIv : IvX I A) : GM l D zt (tyX d) yX11_whole wz_k308_X11_whole ({ frames := 4, cells := 0, slots := 0, locals := 89 } : Room) [.ref (q 0), .int z1] (wX q d I A) (fun v _ w' => ∃ y0 : Int32, FE (fX11_whole I A z1) y0 ∧ v = some (.int y0) ∧ w' = wX q d I A) 0 0 := by
  refine GM.of (cc := cX11_whole) (maxL := 3) (ret := (some .int)) (own := RX11) (lv := [(0, .ref (q 0)), (1, .int z1)]) (by decide) rfl rfl (Nat.le_of_ble_eq_true rfl) rfl (fun κ sz hk hR hN => ?_)
  have hin11 : ∀ w ∈ u_ws RX11 TX11 10, w ∈ wz_k308_X11_whole := fun w h => (List.mem_cons_of_mem _ (List.mem_append_right _ (List.mem_append_left _ h)))
  have hF : FE (fX11_whole I A z1) (fX11_whole I A z1) := FE.rf
  refine g_iload_n hk dX11_whole_0 rfl ?_
  have b9866l := Int32.le_toInt z1
  have b9866h := Int32.toInt_lt z1
  refine g_if_lt (tgt := 9) (a := z1.toInt) hk dX11_whole_1 (by decide) rfl (fun c9867 => ?_) (fun c9867 => ?_)
  · skip
    replace hF := FE.pos hF c9867
    refine g_iconst (v := (-1)) hk dX11_whole_9 (by decide) ?_
    exact g_iret hk hR rfl ⟨(-1), hF, rfl, rfl⟩ dX11_whole_10
  · skip
    replace hF := FE.neg hF c9867
    refine g_iload_n hk dX11_whole_4 rfl ?_
    refine g_iconst (v := 1) hk dX11_whole_5 (by decide) ?_
    refine g_icmp_le (tgt := 11) (a := z1.toInt) (b := 1) hk dX11_whole_6 (by decide) rfl rfl (fun c9868 => ?_) (fun c9868 => ?_)
    · skip
      replace hF := FE.pos hF c9868
      refine g_aload_n hk dX11_whole_11 rfl ?_
      refine gX_r0_2 hk hin11 (List.mem_cons_of_mem _ (List.mem_append_left _ (List.mem_of_getElem? (i := 0) rfl))) dX11_whole_12 ?_
      refine g_callV (n := 0) hk (k309_X6_longestRunFirst l D zt q d I A  hIv) (SP.same _) (fun _ h => h) (gi_V (List.mem_cons_of_mem _ (List.mem_append_left _ (List.mem_of_getElem? (i := 1) rfl))) (List.mem_cons_of_mem _ (List.mem_append_left _ (List.mem_of_getElem? (i := 2) rfl))) (List.mem_cons_of_mem _ (List.mem_append_left _ (List.mem_of_getElem? (i := 3) rfl))) (List.mem_cons_of_mem _ (List.mem_append_left _ (List.mem_of_getElem? (i := 4) rfl))) (gi_sub (fun w h => (List.mem_cons_of_mem _ (List.mem_append_right _ (List.mem_append_right _ (List.mem_append_left _ h))))) zg_k309_X6_longestRunFirst)) rfl rfl rfl (by decide +kernel) ⟨Nat.le_of_ble_eq_true rfl, Nat.le_of_ble_eq_true rfl⟩ 13 rfl rfl rfl rfl (Nat.le_of_ble_eq_true rfl) ⟨Nat.le_of_ble_eq_true rfl, Nat.le_of_ble_eq_true rfl⟩ dX11_whole_15 (fun v ty' w' hp hk' => ?_)
      obtain ⟨y9989, c9990, c9991, hC, rfl, rfl⟩ := hp
      replace hF := FE.lt hF (fe_s hC)
      show GW κ 3 0 0 (wX q d I A) 18 [(0, .ref (q 0)), (1, .int z1)] [.int y9989]
      refine g_istore_n (lv' := [(2, .int y9989), (0, .ref (q 0)), (1, .int z1)]) hk dX11_whole_18 (by decide) rfl ?_
      refine g_iload_n hk dX11_whole_19 rfl ?_
      refine g_if_lt (tgt := 27) (a := y9989.toInt) hk dX11_whole_20 (by decide) rfl (fun c9992 => ?_) (fun c9992 => ?_)
      · skip
        replace hF := FE.pos hF c9992
        refine g_iload_n hk dX11_whole_27 rfl ?_
        exact g_iret hk hR rfl ⟨y9989, hF, rfl, rfl⟩ dX11_whole_28
      · skip
        replace hF := FE.neg hF c9992
        refine g_iload_n hk dX11_whole_23 rfl ?_
        refine g_if_ne (tgt := 29) (a := z1.toInt) hk dX11_whole_24 (by decide) rfl (fun c9993 => ?_) (fun c9993 => ?_)
        · skip
          replace hF := FE.pos hF c9993
          refine g_aload_n hk dX11_whole_29 rfl ?_
          refine gX_r0_2 hk hin11 (List.mem_cons_of_mem _ (List.mem_append_left _ (List.mem_of_getElem? (i := 0) rfl))) dX11_whole_30 ?_
          refine g_iload_n hk dX11_whole_33 rfl ?_
          refine g_callV (n := 1) hk (k310_X6_runFrom l D zt q d I A y9989 hIv) (SP.same _) (fun _ h => h) (gi_V (List.mem_cons_of_mem _ (List.mem_append_left _ (List.mem_of_getElem? (i := 5) rfl))) (List.mem_cons_of_mem _ (List.mem_append_left _ (List.mem_of_getElem? (i := 6) rfl))) (List.mem_cons_of_mem _ (List.mem_append_left _ (List.mem_of_getElem? (i := 7) rfl))) (List.mem_cons_of_mem _ (List.mem_append_left _ (List.mem_of_getElem? (i := 4) rfl))) (gi_sub (fun w h => (List.mem_cons_of_mem _ (List.mem_append_right _ (List.mem_append_right _ (List.mem_append_right _ (List.mem_append_left _ h)))))) zg_k310_X6_runFrom)) rfl rfl rfl (by decide +kernel) ⟨Nat.le_of_ble_eq_true rfl, Nat.le_of_ble_eq_true rfl⟩ 13 rfl rfl rfl rfl (Nat.le_of_ble_eq_true rfl) ⟨Nat.le_of_ble_eq_true rfl, Nat.le_of_ble_eq_true rfl⟩ dX11_whole_34 (fun v ty' w' hp hk' => ?_)
          obtain ⟨y9994, hC, rfl, rfl⟩ := hp
          replace hF := FE.lt hF (fe_s hC)
          show GW κ 3 0 0 (wX q d I A) 37 [(2, .int y9989), (0, .ref (q 0)), (1, .int z1)] [.int y9994]
          have b9995l := Int32.le_toInt y9994
          have b9995h := Int32.toInt_lt y9994
          exact g_iret hk hR rfl ⟨y9994, hF, rfl, rfl⟩ dX11_whole_37
        · skip
          replace hF := FE.neg hF c9993
          refine g_iload_n hk dX11_whole_27 rfl ?_
          exact g_iret hk hR rfl ⟨y9989, hF, rfl, rfl⟩ dX11_whole_28
    · skip
      replace hF := FE.neg hF c9868
      refine g_iconst (v := (-1)) hk dX11_whole_9 (by decide) ?_
      exact g_iret hk hR rfl ⟨(-1), hF, rfl, rfl⟩ dX11_whole_10
noncomputable def fX8_append_2 (I : Nat → Int32) (A : Nat → Nat → Int32) (z1 : Int32) : Int32 × (Nat → Int32) × (Nat → Nat → Int32) := if (I 22).toInt < 0 then (0, I, A) else if 160 ≤ (I 22).toInt then (0, I, A) else f_lt ((I 22) + (1 : Int32)) fun y10012 => (0, (upd I 22 y10012), (up3 A 15 ((I 22).toNatClampNeg) z1))
set_option maxHeartbeats 4000000 in
set_option maxRecDepth 100000 in
theorem k313_X8_append (l : Launch) (D : va_G) (zt : Nat × Nat × Nat × (Nat → Nat) × (Nat → Nat)) (q : Nat → Nat) (d : Nat → ClassId) (I : Nat → Int32) (A : Nat → Nat → Int32) (z1 : Int32) (hIv : IvX I A) : GM l D zt (tyX d) yX8_append wz_k156_X8_append ({ frames := 0, cells := 0, slots := 0, locals := 0 } : Room) [.ref (q 25), .int z1] (wX q d I A) (fun v _ w' => ∃ (I' : Nat → Int32) (A' : Nat → Nat → Int32), Md [22] I I' ∧ Md [15] A A' ∧ IvX I' A' ∧ FE (fX8_append_2 I A z1) (0, I', A') ∧ v = none ∧ w' = wX q d I' A') 0 0 := by
  refine GM.of (cc := cX8_append) (maxL := 2) (ret := none) (own := RX8) (lv := [(0, .ref (q 25)), (1, .int z1)]) (by decide) rfl rfl (Nat.le_of_ble_eq_true rfl) rfl (fun κ sz hk hR hN => ?_)
  have hin8 : ∀ w ∈ u_ws RX8 TX8 4, w ∈ wz_k156_X8_append := fun w h => (List.mem_cons_of_mem _ (List.mem_append_right _ (List.mem_append_left _ h)))
  have hF : FE (fX8_append_2 I A z1) (fX8_append_2 I A z1) := FE.rf
  refine g_aload_n hk dX8_append_0 rfl ?_
  refine gX_i22 (v := (I 22)) hk hin8 (List.mem_cons_of_mem _ (List.mem_append_left _ (List.mem_of_getElem? (i := 0) rfl))) dX8_append_1 rfl ?_
  have b10009l := Int32.le_toInt (I 22)
  have b10009h := Int32.toInt_lt (I 22)
  refine g_if_lt (tgt := 39) (a := (I 22).toInt) hk dX8_append_4 (by decide) rfl (fun c10010 => ?_) (fun c10010 => ?_)
  · skip
    replace hF := FE.pos hF c10010
    exact g_vret hk hR ⟨I, A, (show Md [22] I I from Md.rf), (show Md [15] A A from Md.rf), hIv, hF, rfl, rfl⟩ dX8_append_39
  · skip
    replace hF := FE.neg hF c10010
    refine g_aload_n hk dX8_append_7 rfl ?_
    refine gX_i22 (v := (I 22)) hk hin8 (List.mem_cons_of_mem _ (List.mem_append_left _ (List.mem_of_getElem? (i := 0) rfl))) dX8_append_8 rfl ?_
    refine g_aload_n hk dX8_append_11 rfl ?_
    refine gX_r25_0 hk hin8 (List.mem_cons_of_mem _ (List.mem_append_left _ (List.mem_of_getElem? (i := 1) rfl))) dX8_append_12 ?_
    refine nX_15 hk dX8_append_15 ?_
    refine g_icmp_ge (tgt := 39) (a := (I 22).toInt) (b := 160) hk dX8_append_16 (by decide) rfl rfl (fun c10011 => ?_) (fun c10011 => ?_)
    · skip
      replace hF := FE.pos hF c10011
      exact g_vret hk hR ⟨I, A, (show Md [22] I I from Md.rf), (show Md [15] A A from Md.rf), hIv, hF, rfl, rfl⟩ dX8_append_39
    · skip
      replace hF := FE.neg hF c10011
      refine g_aload_n hk dX8_append_19 rfl ?_
      refine gX_r25_0 hk hin8 (List.mem_cons_of_mem _ (List.mem_append_left _ (List.mem_of_getElem? (i := 1) rfl))) dX8_append_20 ?_
      refine g_aload_n hk dX8_append_23 rfl ?_
      refine gX_i22 (v := (I 22)) hk hin8 (List.mem_cons_of_mem _ (List.mem_append_left _ (List.mem_of_getElem? (i := 0) rfl))) dX8_append_24 rfl ?_
      refine g_iload_n hk dX8_append_27 rfl ?_
      refine sX_15 (j := (I 22).toNatClampNeg) hk (vp_in_iff.mpr ⟨by omega, by omega⟩) rfl dX8_append_28 ?_
      refine g_aload_n hk dX8_append_29 rfl ?_
      refine g_dup hk dX8_append_30 rfl ?_
      refine gX_i22 (v := (I 22)) hk hin8 (List.mem_cons_of_mem _ (List.mem_append_left _ (List.mem_of_getElem? (i := 0) rfl))) dX8_append_31 rfl ?_
      refine g_iconst (v := 1) hk dX8_append_34 (by decide) ?_
      refine g_iadd hk dX8_append_35 ?_
      refine g_topi (fun y10012 ey10012 => ?_)
      replace hF := FE.lt hF ey10012
      have hy10012 : y10012.toInt = (I 22).toInt + 1 := i32_add ey10012 rfl rfl (by omega) (by omega)
      refine pX_i22 hk hin8 (List.mem_cons_of_mem _ (List.mem_append_left _ (List.mem_of_getElem? (i := 0) rfl))) dX8_append_36 ?_
      exact g_vret hk hR ⟨(upd I 22 y10012), (up3 A 15 ((I 22).toNatClampNeg) z1), (show Md [22] I (upd I 22 y10012) from (Md.up Md.rf rfl)), (show Md [15] A (up3 A 15 ((I 22).toNatClampNeg) z1) from (Md.up3 Md.rf rfl)), ⟨(IvX_f0 (I := I) (A := A) hIv), (IvX_f18 (I := I) (A := A) hIv), (IvX_f30 (I := I) (A := A) hIv), (IvX_f31 (I := I) (A := A) hIv), (IvX_a4 (I := I) (A := A) hIv), (IvX_a9 (I := I) (A := A) hIv), trivial⟩, hF, rfl, rfl⟩ dX8_append_39
noncomputable def bX6_copyInto_7 (I : Nat → Int32) : (Int32 → (Nat → Int32) → (Nat → Nat → Int32) → (Int32 × (Nat → Int32) × (Nat → Nat → Int32))) → Int32 → (Nat → Int32) → (Nat → Nat → Int32) → (Int32 × (Nat → Int32) × (Nat → Nat → Int32)) := fun kk10039 x10001 I10004 A10004 => if (I 18).toInt ≤ x10001.toInt then (0, I10004, A10004) else f_lt (fX6_valueAt I10004 A10004 x10001) fun y10043 => f_bdX (fX8_append_2 I10004 A10004 y10043) fun _ I10045 A10045 => f_lt (x10001 + Int32.ofInt 1) fun y10046 => kk10039 y10046 I10045 A10045
noncomputable def fX6_copyInto (I : Nat → Int32) (A : Nat → Nat → Int32) : Int32 × (Nat → Int32) × (Nat → Nat → Int32) := itr_iIA dfX (bX6_copyInto_7 I) FU 0 (upd I 22 0) A
def wo_k312_X6_copyInto : List Cond := [Cond.fieldLink RX6 22 "WarpDesk$Stand" "size" "I", Cond.fieldLink RX6 19 "WarpDesk$Series" "size" "I", Cond.methodLink RX6 33 yX6_valueAt, Cond.instanceMethod yX6_valueAt, Cond.selects RX6 yX6_valueAt yX6_valueAt, Cond.initialized RX6, Cond.methodLink RX6 34 yX8_append, Cond.instanceMethod yX8_append, Cond.selects RX8 yX8_append yX8_append, Cond.initialized RX8]
def wz_k312_X6_copyInto : List Cond := .code yX6_copyInto cX6_copyInto 3 none :: (wo_k312_X6_copyInto ++ (wsX60 ++ (wsX80 ++ (wz_k179_X6_valueAt ++ (wz_k156_X8_append ++ ([] : List Cond))))))
theorem zg_k312_X6_copyInto : ∀ w ∈ wz_k312_X6_copyInto, goodWord w = true := zg_cons rfl (zg_app (by decide +kernel) (zg_app zgU_wsX60 (zg_app zgU_wsX80 (zg_app zg_k179_X6_valueAt (zg_app zg_k156_X8_append zg_nil)))))
theorem zi_k312_X6_copyInto : ∀ w ∈ wz_k312_X6_copyInto, w ∈ lw_tbl := zi_cons zw_1333 (zi_app (zi_cons zw_196 (zi_cons zw_282 (zi_cons zw_843 (zi_cons zw_807 (zi_cons zw_808 (zi_cons zw_109 (zi_cons zw_1334 (zi_cons zw_739 (zi_cons zw_740 (zi_cons zw_106 zi_nil)))))))))) (zi_app inX6 (zi_app inX8 (zi_app zi_k179_X6_valueAt (zi_app zi_k156_X8_append zi_nil)))))
set_option maxHeartbeats 4000000 in
set_option maxRecDepth 100000 in
theorem k312_X6_copyInto (l : Launch) (D : va_G) (zt : Nat × Nat × Nat × (Nat → Nat) × (Nat → Nat)) (q : Nat → Nat) (d : Nat → ClassId) (I : Nat → Int32) (A : Nat → Nat → Int32) (hIv : IvX I A) : GM l D zt (tyX d) yX6_copyInto wz_k312_X6_copyInto ({ frames := 1, cells := 0, slots := 0, locals := 21 } : Room) [.ref (q 13), .ref (q 25)] (wX q d I A) (fun v _ w' => ∃ (I' : Nat → Int32) (A' : Nat → Nat → Int32), Md [22] I I' ∧ Md [15] A A' ∧ IvX I' A' ∧ FE (fX6_copyInto I A) (0, I', A') ∧ v = none ∧ w' = wX q d I' A') 0 0 := by
  refine GM.of (cc := cX6_copyInto) (maxL := 3) (ret := none) (own := RX6) (lv := [(0, .ref (q 13)), (1, .ref (q 25))]) (by decide) rfl rfl (Nat.le_of_ble_eq_true rfl) rfl (fun κ sz hk hR hN => ?_)
  have hin6 : ∀ w ∈ u_ws RX6 TX6 3, w ∈ wz_k312_X6_copyInto := fun w h => (List.mem_cons_of_mem _ (List.mem_append_right _ (List.mem_append_left _ h)))
  have hin8 : ∀ w ∈ u_ws RX8 TX8 4, w ∈ wz_k312_X6_copyInto := fun w h => (List.mem_cons_of_mem _ (List.mem_append_right _ (List.mem_append_right _ (List.mem_append_left _ h))))
  have hF : FE (fX6_copyInto I A) (fX6_copyInto I A) := FE.rf
  refine g_aload_n hk dX6_copyInto_0 rfl ?_
  refine g_iconst (v := 0) hk dX6_copyInto_1 (by decide) ?_
  refine pX_i22 hk hin8 (List.mem_cons_of_mem _ (List.mem_append_left _ (List.mem_of_getElem? (i := 0) rfl))) dX6_copyInto_2 ?_
  refine g_iconst (v := 0) hk dX6_copyInto_5 (by decide) ?_
  refine g_istore_n (lv' := [(2, .int 0), (0, .ref (q 13)), (1, .ref (q 25))]) hk dX6_copyInto_6 (by decide) rfl ?_
  have lp10036 : ∀ (n10037 : Nat) (x10001 : Int32) (I10004 : Nat → Int32) (A10004 : Nat → Nat → Int32), (Md [22] (upd I 22 0) I10004) → (Md [15] A A10004) → (IvX I10004 A10004) → (0 ≤ x10001.toInt) → (x10001.toInt ≤ 160) → (161 - x10001.toInt < (n10037 : Int)) → (0 < n10037) → (FE (fX6_copyInto I A) (itr_iIA dfX (bX6_copyInto_7 I) n10037 x10001 I10004 A10004)) → GW κ 3 0 0 (wX q d I10004 A10004) 7 [(2, .int x10001), (0, .ref (q 13)), (1, .ref (q 25))] [] := by
    intro n10037
    induction n10037 with
    | zero =>
      intro x10001 I10004 A10004 hI10004 hA10004 hV10004 h10034 h10035 m10038 m10038z hF
      exact absurd m10038z (Nat.lt_irrefl 0)
    | succ n10037 ih10040 =>
      intro x10001 I10004 A10004 hI10004 hA10004 hV10004 h10034 h10035 m10038 m10038z hF
      replace hF := FE.itr_iIA hF
      refine g_iload_n hk dX6_copyInto_7 rfl ?_
      refine g_aload_n hk dX6_copyInto_8 rfl ?_
      refine gX_i18 (v := (I 18)) hk hin6 (List.mem_cons_of_mem _ (List.mem_append_left _ (List.mem_of_getElem? (i := 1) rfl))) dX6_copyInto_9 (hI10004 18 rfl) ?_
      have f10041 := IvX_f18 hIv
      refine g_icmp_ge (tgt := 30) (a := x10001.toInt) (b := (I 18).toInt) hk dX6_copyInto_12 (by decide) rfl rfl (fun c10042 => ?_) (fun c10042 => ?_)
      · skip
        replace hF := FE.pos hF c10042
        exact g_vret hk hR ⟨I10004, A10004, (show Md [22] I I10004 from (Md.tr (Md.up Md.rf rfl) hI10004 rfl)), (show Md [15] A A10004 from (Md.tr Md.rf hA10004 rfl)), hV10004, hF, rfl, rfl⟩ dX6_copyInto_30
      · skip
        replace hF := FE.neg hF c10042
        refine g_aload_n hk dX6_copyInto_15 rfl ?_
        refine g_aload_n hk dX6_copyInto_16 rfl ?_
        refine g_iload_n hk dX6_copyInto_17 rfl ?_
        refine g_callV (n := 1) hk (k179_X6_valueAt l D zt q d I10004 A10004 x10001 hV10004) (SP.same _) (fun _ h => h) (gi_V (List.mem_cons_of_mem _ (List.mem_append_left _ (List.mem_of_getElem? (i := 2) rfl))) (List.mem_cons_of_mem _ (List.mem_append_left _ (List.mem_of_getElem? (i := 3) rfl))) (List.mem_cons_of_mem _ (List.mem_append_left _ (List.mem_of_getElem? (i := 4) rfl))) (List.mem_cons_of_mem _ (List.mem_append_left _ (List.mem_of_getElem? (i := 5) rfl))) (gi_sub (fun w h => (List.mem_cons_of_mem _ (List.mem_append_right _ (List.mem_append_right _ (List.mem_append_right _ (List.mem_append_left _ h)))))) zg_k179_X6_valueAt)) rfl rfl rfl (by decide +kernel) ⟨Nat.le_of_ble_eq_true rfl, Nat.le_of_ble_eq_true rfl⟩ 13 rfl rfl rfl rfl (Nat.le_of_ble_eq_true rfl) ⟨Nat.le_of_ble_eq_true rfl, Nat.le_of_ble_eq_true rfl⟩ dX6_copyInto_18 (fun v ty' w' hp hk' => ?_)
        obtain ⟨y10043, hC, rfl, rfl⟩ := hp
        replace hF := FE.lt hF (fe_s hC)
        show GW κ 3 0 0 (wX q d I10004 A10004) 21 [(2, .int x10001), (0, .ref (q 13)), (1, .ref (q 25))] [.int y10043, .ref (q 25)]
        refine g_callV (n := 1) hk (k313_X8_append l D zt q d I10004 A10004 y10043 hV10004) (SP.same _) (fun _ h => h) (gi_V (List.mem_cons_of_mem _ (List.mem_append_left _ (List.mem_of_getElem? (i := 6) rfl))) (List.mem_cons_of_mem _ (List.mem_append_left _ (List.mem_of_getElem? (i := 7) rfl))) (List.mem_cons_of_mem _ (List.mem_append_left _ (List.mem_of_getElem? (i := 8) rfl))) (List.mem_cons_of_mem _ (List.mem_append_left _ (List.mem_of_getElem? (i := 9) rfl))) (gi_sub (fun w h => (List.mem_cons_of_mem _ (List.mem_append_right _ (List.mem_append_right _ (List.mem_append_right _ (List.mem_append_right _ (List.mem_append_left _ h))))))) zg_k156_X8_append)) rfl rfl rfl (by decide +kernel) ⟨Nat.le_of_ble_eq_true rfl, Nat.le_of_ble_eq_true rfl⟩ 25 rfl rfl rfl rfl (Nat.le_of_ble_eq_true rfl) ⟨Nat.le_of_ble_eq_true rfl, Nat.le_of_ble_eq_true rfl⟩ dX6_copyInto_21 (fun v ty' w' hp hk' => ?_)
        obtain ⟨I10045, A10045, hI10045, hA10045, hV10045, hC, rfl, rfl⟩ := hp
        replace hF := FE.bdX hF hC
        show GW κ 3 0 0 (wX q d I10045 A10045) 24 [(2, .int x10001), (0, .ref (q 13)), (1, .ref (q 25))] []
        obtain ⟨y10046, ey10046⟩ : ∃ y : Int32, y = x10001 + Int32.ofInt 1 := ⟨_, rfl⟩
        replace hF := FE.lt hF ey10046
        have hy10046 : y10046.toInt = x10001.toInt + 1 := i32_add ey10046 rfl (by decide) (by omega) (by omega)
        refine g_iinc (v := y10046) (lv' := [(2, .int y10046), (0, .ref (q 13)), (1, .ref (q 25))]) hk 0 dX6_copyInto_24 rfl ey10046.symm (by decide) rfl ?_
        refine g_goto (tgt := 7) hk dX6_copyInto_27 (by decide) ?_
        exact g_lv (List.forall_mem_cons.mpr ⟨List.mem_of_getElem? (i := 0) rfl, (List.forall_mem_cons.mpr ⟨List.mem_of_getElem? (i := 1) rfl, (List.forall_mem_cons.mpr ⟨List.mem_of_getElem? (i := 2) rfl, (fun _ h => absurd h List.not_mem_nil)⟩)⟩)⟩) (ih10040 y10046 I10045 A10045 (show Md [22] (upd I 22 0) I10045 from Md.tr hI10004 (show Md [22] I10004 I10045 from (Md.tr Md.rf hI10045 rfl)) rfl) (show Md [15] A A10045 from Md.tr hA10004 (show Md [15] A10004 A10045 from (Md.tr Md.rf hA10045 rfl)) rfl) hV10045 (by omega) (by omega) (by omega) (by omega) hF)
  have k10048 : (0 : Int32).toInt = 0 := rfl
  have n10047a : 161 - 0 < (FU : Int) := by have := FU_eq; omega
  have n10047b : 0 < FU := by have := FU_eq; omega
  exact lp10036 FU 0 (upd I 22 0) A Md.rf Md.rf ⟨(IvX_f0 (I := I) (A := A) hIv), (IvX_f18 (I := I) (A := A) hIv), (IvX_f30 (I := I) (A := A) hIv), (IvX_f31 (I := I) (A := A) hIv), (IvX_a4 (I := I) (A := A) hIv), (IvX_a9 (I := I) (A := A) hIv), trivial⟩ (by omega) (by omega) n10047a n10047b hF
noncomputable def bX7_takeFrom_2_2 : (Int32 → (Nat → Int32) → (Nat → Nat → Int32) → (Int32 × (Nat → Int32) × (Nat → Nat → Int32))) → Int32 → (Nat → Int32) → (Nat → Nat → Int32) → (Int32 × (Nat → Int32) × (Nat → Nat → Int32)) := fun kk10071 x10051 I10054 A10054 => if 4 ≤ x10051.toInt then (0, I10054, A10054) else f_lt (fX7_valueOf_2 I10054 A10054 x10051) fun y10074 => f_lt (x10051 + Int32.ofInt 1) fun y10075 => kk10071 y10075 I10054 (up3 A10054 16 (x10051.toNatClampNeg) y10074)
noncomputable def fX7_takeFrom_2 (I : Nat → Int32) (A : Nat → Nat → Int32) : Int32 × (Nat → Int32) × (Nat → Nat → Int32) := itr_iIA dfX (bX7_takeFrom_2_2) FU 0 I A
set_option maxHeartbeats 4000000 in
set_option maxRecDepth 100000 in
theorem k314_X7_takeFrom (l : Launch) (D : va_G) (zt : Nat × Nat × Nat × (Nat → Nat) × (Nat → Nat)) (q : Nat → Nat) (d : Nat → ClassId) (I : Nat → Int32) (A : Nat → Nat → Int32) (hIv : IvX I A) : GM l D zt (tyX d) yX7_takeFrom wz_k173_X7_takeFrom ({ frames := 1, cells := 0, slots := 0, locals := 21 } : Room) [.ref (q 27), .ref (q 18)] (wX q d I A) (fun v _ w' => ∃ (I' : Nat → Int32) (A' : Nat → Nat → Int32), Md [] I I' ∧ Md [16] A A' ∧ IvX I' A' ∧ FE (fX7_takeFrom_2 I A) (0, I', A') ∧ v = none ∧ w' = wX q d I' A') 0 0 := by
  refine GM.of (cc := cX7_takeFrom) (maxL := 3) (ret := none) (own := RX7) (lv := [(0, .ref (q 27)), (1, .ref (q 18))]) (by decide) rfl rfl (Nat.le_of_ble_eq_true rfl) rfl (fun κ sz hk hR hN => ?_)
  have hin7 : ∀ w ∈ u_ws RX7 TX7 1, w ∈ wz_k173_X7_takeFrom := fun w h => (List.mem_cons_of_mem _ (List.mem_append_right _ (List.mem_append_left _ h)))
  have hF : FE (fX7_takeFrom_2 I A) (fX7_takeFrom_2 I A) := FE.rf
  refine g_iconst (v := 0) hk dX7_takeFrom_0 (by decide) ?_
  refine g_istore_n (lv' := [(2, .int 0), (0, .ref (q 27)), (1, .ref (q 18))]) hk dX7_takeFrom_1 (by decide) rfl ?_
  have lp10068 : ∀ (n10069 : Nat) (x10051 : Int32) (I10054 : Nat → Int32) (A10054 : Nat → Nat → Int32), (Md [] I I10054) → (Md [16] A A10054) → (IvX I10054 A10054) → (0 ≤ x10051.toInt) → (x10051.toInt ≤ 4) → (5 - x10051.toInt < (n10069 : Int)) → (0 < n10069) → (FE (fX7_takeFrom_2 I A) (itr_iIA dfX (bX7_takeFrom_2_2) n10069 x10051 I10054 A10054)) → GW κ 3 0 0 (wX q d I10054 A10054) 2 [(2, .int x10051), (0, .ref (q 27)), (1, .ref (q 18))] [] := by
    intro n10069
    induction n10069 with
    | zero =>
      intro x10051 I10054 A10054 hI10054 hA10054 hV10054 h10066 h10067 m10070 m10070z hF
      exact absurd m10070z (Nat.lt_irrefl 0)
    | succ n10069 ih10072 =>
      intro x10051 I10054 A10054 hI10054 hA10054 hV10054 h10066 h10067 m10070 m10070z hF
      replace hF := FE.itr_iIA hF
      refine g_iload_n hk dX7_takeFrom_2 rfl ?_
      refine g_aload_n hk dX7_takeFrom_3 rfl ?_
      refine gX_r27_0 hk hin7 (List.mem_cons_of_mem _ (List.mem_append_left _ (List.mem_of_getElem? (i := 0) rfl))) dX7_takeFrom_4 ?_
      refine nX_16 hk dX7_takeFrom_7 ?_
      refine g_icmp_ge (tgt := 28) (a := x10051.toInt) (b := 4) hk dX7_takeFrom_8 (by decide) rfl rfl (fun c10073 => ?_) (fun c10073 => ?_)
      · skip
        replace hF := FE.pos hF c10073
        exact g_vret hk hR ⟨I10054, A10054, (show Md [] I I10054 from (Md.tr Md.rf hI10054 rfl)), (show Md [16] A A10054 from (Md.tr Md.rf hA10054 rfl)), hV10054, hF, rfl, rfl⟩ dX7_takeFrom_28
      · skip
        replace hF := FE.neg hF c10073
        refine g_aload_n hk dX7_takeFrom_11 rfl ?_
        refine gX_r27_0 hk hin7 (List.mem_cons_of_mem _ (List.mem_append_left _ (List.mem_of_getElem? (i := 0) rfl))) dX7_takeFrom_12 ?_
        refine g_iload_n hk dX7_takeFrom_15 rfl ?_
        refine g_aload_n hk dX7_takeFrom_16 rfl ?_
        refine g_iload_n hk dX7_takeFrom_17 rfl ?_
        refine g_callV (n := 1) hk (k194_X7_valueOf l D zt q d I10054 A10054 x10051 hV10054) (SP.same _) (fun _ h => h) (gi_V (List.mem_cons_of_mem _ (List.mem_append_left _ (List.mem_of_getElem? (i := 1) rfl))) (List.mem_cons_of_mem _ (List.mem_append_left _ (List.mem_of_getElem? (i := 2) rfl))) (List.mem_cons_of_mem _ (List.mem_append_left _ (List.mem_of_getElem? (i := 3) rfl))) (List.mem_cons_of_mem _ (List.mem_append_left _ (List.mem_of_getElem? (i := 4) rfl))) (gi_sub (fun w h => (List.mem_cons_of_mem _ (List.mem_append_right _ (List.mem_append_right _ (List.mem_append_left _ h))))) zg_k174_X7_valueOf)) rfl rfl rfl (by decide +kernel) ⟨Nat.le_of_ble_eq_true rfl, Nat.le_of_ble_eq_true rfl⟩ 18 rfl rfl rfl rfl (Nat.le_of_ble_eq_true rfl) ⟨Nat.le_of_ble_eq_true rfl, Nat.le_of_ble_eq_true rfl⟩ dX7_takeFrom_18 (fun v ty' w' hp hk' => ?_)
        obtain ⟨y10074, hC, rfl, rfl⟩ := hp
        replace hF := FE.lt hF (fe_s hC)
        show GW κ 3 0 0 (wX q d I10054 A10054) 21 [(2, .int x10051), (0, .ref (q 27)), (1, .ref (q 18))] [.int y10074, .int x10051, .ref (q 28)]
        refine sX_16 (j := x10051.toNatClampNeg) hk (vp_in_iff.mpr ⟨by omega, by omega⟩) rfl dX7_takeFrom_21 ?_
        obtain ⟨y10075, ey10075⟩ : ∃ y : Int32, y = x10051 + Int32.ofInt 1 := ⟨_, rfl⟩
        replace hF := FE.lt hF ey10075
        have hy10075 : y10075.toInt = x10051.toInt + 1 := i32_add ey10075 rfl (by decide) (by omega) (by omega)
        refine g_iinc (v := y10075) (lv' := [(2, .int y10075), (0, .ref (q 27)), (1, .ref (q 18))]) hk 0 dX7_takeFrom_22 rfl ey10075.symm (by decide) rfl ?_
        refine g_goto (tgt := 2) hk dX7_takeFrom_25 (by decide) ?_
        exact g_lv (List.forall_mem_cons.mpr ⟨List.mem_of_getElem? (i := 0) rfl, (List.forall_mem_cons.mpr ⟨List.mem_of_getElem? (i := 1) rfl, (List.forall_mem_cons.mpr ⟨List.mem_of_getElem? (i := 2) rfl, (fun _ h => absurd h List.not_mem_nil)⟩)⟩)⟩) (ih10072 y10075 I10054 (up3 A10054 16 (x10051.toNatClampNeg) y10074) (show Md [] I I10054 from Md.tr hI10054 (show Md [] I10054 I10054 from Md.rf) rfl) (show Md [16] A (up3 A10054 16 (x10051.toNatClampNeg) y10074) from Md.tr hA10054 (show Md [16] A10054 (up3 A10054 16 (x10051.toNatClampNeg) y10074) from (Md.up3 Md.rf rfl)) rfl) ⟨(IvX_f0 (I := I10054) (A := A10054) hV10054), (IvX_f18 (I := I10054) (A := A10054) hV10054), (IvX_f30 (I := I10054) (A := A10054) hV10054), (IvX_f31 (I := I10054) (A := A10054) hV10054), (IvX_a4 (I := I10054) (A := A10054) hV10054), (IvX_a9 (I := I10054) (A := A10054) hV10054), trivial⟩ (by omega) (by omega) (by omega) (by omega) hF)
  have k10077 : (0 : Int32).toInt = 0 := rfl
  have n10076a : 5 - 0 < (FU : Int) := by have := FU_eq; omega
  have n10076b : 0 < FU := by have := FU_eq; omega
  exact lp10068 FU 0 I A Md.rf Md.rf hIv (by omega) (by omega) n10076a n10076b hF
noncomputable def fX8_append_3 (I : Nat → Int32) (A : Nat → Nat → Int32) (z1 : Int32) : Int32 × (Nat → Int32) × (Nat → Nat → Int32) := if (I 24).toInt < 0 then (0, I, A) else if 160 ≤ (I 24).toInt then (0, I, A) else f_lt ((I 24) + (1 : Int32)) fun y10093 => (0, (upd I 24 y10093), (up3 A 17 ((I 24).toNatClampNeg) z1))
set_option maxHeartbeats 4000000 in
set_option maxRecDepth 100000 in
theorem k316_X8_append (l : Launch) (D : va_G) (zt : Nat × Nat × Nat × (Nat → Nat) × (Nat → Nat)) (q : Nat → Nat) (d : Nat → ClassId) (I : Nat → Int32) (A : Nat → Nat → Int32) (z1 : Int32) (hIv : IvX I A) : GM l D zt (tyX d) yX8_append wz_k156_X8_append ({ frames := 0, cells := 0, slots := 0, locals := 0 } : Room) [.ref (q 29), .int z1] (wX q d I A) (fun v _ w' => ∃ (I' : Nat → Int32) (A' : Nat → Nat → Int32), Md [24] I I' ∧ Md [17] A A' ∧ IvX I' A' ∧ FE (fX8_append_3 I A z1) (0, I', A') ∧ v = none ∧ w' = wX q d I' A') 0 0 := by
  refine GM.of (cc := cX8_append) (maxL := 2) (ret := none) (own := RX8) (lv := [(0, .ref (q 29)), (1, .int z1)]) (by decide) rfl rfl (Nat.le_of_ble_eq_true rfl) rfl (fun κ sz hk hR hN => ?_)
  have hin8 : ∀ w ∈ u_ws RX8 TX8 4, w ∈ wz_k156_X8_append := fun w h => (List.mem_cons_of_mem _ (List.mem_append_right _ (List.mem_append_left _ h)))
  have hF : FE (fX8_append_3 I A z1) (fX8_append_3 I A z1) := FE.rf
  refine g_aload_n hk dX8_append_0 rfl ?_
  refine gX_i24 (v := (I 24)) hk hin8 (List.mem_cons_of_mem _ (List.mem_append_left _ (List.mem_of_getElem? (i := 0) rfl))) dX8_append_1 rfl ?_
  have b10090l := Int32.le_toInt (I 24)
  have b10090h := Int32.toInt_lt (I 24)
  refine g_if_lt (tgt := 39) (a := (I 24).toInt) hk dX8_append_4 (by decide) rfl (fun c10091 => ?_) (fun c10091 => ?_)
  · skip
    replace hF := FE.pos hF c10091
    exact g_vret hk hR ⟨I, A, (show Md [24] I I from Md.rf), (show Md [17] A A from Md.rf), hIv, hF, rfl, rfl⟩ dX8_append_39
  · skip
    replace hF := FE.neg hF c10091
    refine g_aload_n hk dX8_append_7 rfl ?_
    refine gX_i24 (v := (I 24)) hk hin8 (List.mem_cons_of_mem _ (List.mem_append_left _ (List.mem_of_getElem? (i := 0) rfl))) dX8_append_8 rfl ?_
    refine g_aload_n hk dX8_append_11 rfl ?_
    refine gX_r29_0 hk hin8 (List.mem_cons_of_mem _ (List.mem_append_left _ (List.mem_of_getElem? (i := 1) rfl))) dX8_append_12 ?_
    refine nX_17 hk dX8_append_15 ?_
    refine g_icmp_ge (tgt := 39) (a := (I 24).toInt) (b := 160) hk dX8_append_16 (by decide) rfl rfl (fun c10092 => ?_) (fun c10092 => ?_)
    · skip
      replace hF := FE.pos hF c10092
      exact g_vret hk hR ⟨I, A, (show Md [24] I I from Md.rf), (show Md [17] A A from Md.rf), hIv, hF, rfl, rfl⟩ dX8_append_39
    · skip
      replace hF := FE.neg hF c10092
      refine g_aload_n hk dX8_append_19 rfl ?_
      refine gX_r29_0 hk hin8 (List.mem_cons_of_mem _ (List.mem_append_left _ (List.mem_of_getElem? (i := 1) rfl))) dX8_append_20 ?_
      refine g_aload_n hk dX8_append_23 rfl ?_
      refine gX_i24 (v := (I 24)) hk hin8 (List.mem_cons_of_mem _ (List.mem_append_left _ (List.mem_of_getElem? (i := 0) rfl))) dX8_append_24 rfl ?_
      refine g_iload_n hk dX8_append_27 rfl ?_
      refine sX_17 (j := (I 24).toNatClampNeg) hk (vp_in_iff.mpr ⟨by omega, by omega⟩) rfl dX8_append_28 ?_
      refine g_aload_n hk dX8_append_29 rfl ?_
      refine g_dup hk dX8_append_30 rfl ?_
      refine gX_i24 (v := (I 24)) hk hin8 (List.mem_cons_of_mem _ (List.mem_append_left _ (List.mem_of_getElem? (i := 0) rfl))) dX8_append_31 rfl ?_
      refine g_iconst (v := 1) hk dX8_append_34 (by decide) ?_
      refine g_iadd hk dX8_append_35 ?_
      refine g_topi (fun y10093 ey10093 => ?_)
      replace hF := FE.lt hF ey10093
      have hy10093 : y10093.toInt = (I 24).toInt + 1 := i32_add ey10093 rfl rfl (by omega) (by omega)
      refine pX_i24 hk hin8 (List.mem_cons_of_mem _ (List.mem_append_left _ (List.mem_of_getElem? (i := 0) rfl))) dX8_append_36 ?_
      exact g_vret hk hR ⟨(upd I 24 y10093), (up3 A 17 ((I 24).toNatClampNeg) z1), (show Md [24] I (upd I 24 y10093) from (Md.up Md.rf rfl)), (show Md [17] A (up3 A 17 ((I 24).toNatClampNeg) z1) from (Md.up3 Md.rf rfl)), ⟨(IvX_f0 (I := I) (A := A) hIv), (IvX_f18 (I := I) (A := A) hIv), (IvX_f30 (I := I) (A := A) hIv), (IvX_f31 (I := I) (A := A) hIv), (IvX_a4 (I := I) (A := A) hIv), (IvX_a9 (I := I) (A := A) hIv), trivial⟩, hF, rfl, rfl⟩ dX8_append_39
noncomputable def bX6_copyInto_2_7 (I : Nat → Int32) : (Int32 → (Nat → Int32) → (Nat → Nat → Int32) → (Int32 × (Nat → Int32) × (Nat → Nat → Int32))) → Int32 → (Nat → Int32) → (Nat → Nat → Int32) → (Int32 × (Nat → Int32) × (Nat → Nat → Int32)) := fun kk10120 x10082 I10085 A10085 => if (I 18).toInt ≤ x10082.toInt then (0, I10085, A10085) else f_lt (fX6_valueAt I10085 A10085 x10082) fun y10124 => f_bdX (fX8_append_3 I10085 A10085 y10124) fun _ I10126 A10126 => f_lt (x10082 + Int32.ofInt 1) fun y10127 => kk10120 y10127 I10126 A10126
noncomputable def fX6_copyInto_2 (I : Nat → Int32) (A : Nat → Nat → Int32) : Int32 × (Nat → Int32) × (Nat → Nat → Int32) := itr_iIA dfX (bX6_copyInto_2_7 I) FU 0 (upd I 24 0) A
set_option maxHeartbeats 4000000 in
set_option maxRecDepth 100000 in
theorem k315_X6_copyInto (l : Launch) (D : va_G) (zt : Nat × Nat × Nat × (Nat → Nat) × (Nat → Nat)) (q : Nat → Nat) (d : Nat → ClassId) (I : Nat → Int32) (A : Nat → Nat → Int32) (hIv : IvX I A) : GM l D zt (tyX d) yX6_copyInto wz_k312_X6_copyInto ({ frames := 1, cells := 0, slots := 0, locals := 21 } : Room) [.ref (q 13), .ref (q 29)] (wX q d I A) (fun v _ w' => ∃ (I' : Nat → Int32) (A' : Nat → Nat → Int32), Md [24] I I' ∧ Md [17] A A' ∧ IvX I' A' ∧ FE (fX6_copyInto_2 I A) (0, I', A') ∧ v = none ∧ w' = wX q d I' A') 0 0 := by
  refine GM.of (cc := cX6_copyInto) (maxL := 3) (ret := none) (own := RX6) (lv := [(0, .ref (q 13)), (1, .ref (q 29))]) (by decide) rfl rfl (Nat.le_of_ble_eq_true rfl) rfl (fun κ sz hk hR hN => ?_)
  have hin6 : ∀ w ∈ u_ws RX6 TX6 3, w ∈ wz_k312_X6_copyInto := fun w h => (List.mem_cons_of_mem _ (List.mem_append_right _ (List.mem_append_left _ h)))
  have hin8 : ∀ w ∈ u_ws RX8 TX8 4, w ∈ wz_k312_X6_copyInto := fun w h => (List.mem_cons_of_mem _ (List.mem_append_right _ (List.mem_append_right _ (List.mem_append_left _ h))))
  have hF : FE (fX6_copyInto_2 I A) (fX6_copyInto_2 I A) := FE.rf
  refine g_aload_n hk dX6_copyInto_0 rfl ?_
  refine g_iconst (v := 0) hk dX6_copyInto_1 (by decide) ?_
  refine pX_i24 hk hin8 (List.mem_cons_of_mem _ (List.mem_append_left _ (List.mem_of_getElem? (i := 0) rfl))) dX6_copyInto_2 ?_
  refine g_iconst (v := 0) hk dX6_copyInto_5 (by decide) ?_
  refine g_istore_n (lv' := [(2, .int 0), (0, .ref (q 13)), (1, .ref (q 29))]) hk dX6_copyInto_6 (by decide) rfl ?_
  have lp10117 : ∀ (n10118 : Nat) (x10082 : Int32) (I10085 : Nat → Int32) (A10085 : Nat → Nat → Int32), (Md [24] (upd I 24 0) I10085) → (Md [17] A A10085) → (IvX I10085 A10085) → (0 ≤ x10082.toInt) → (x10082.toInt ≤ 160) → (161 - x10082.toInt < (n10118 : Int)) → (0 < n10118) → (FE (fX6_copyInto_2 I A) (itr_iIA dfX (bX6_copyInto_2_7 I) n10118 x10082 I10085 A10085)) → GW κ 3 0 0 (wX q d I10085 A10085) 7 [(2, .int x10082), (0, .ref (q 13)), (1, .ref (q 29))] [] := by
    intro n10118
    induction n10118 with
    | zero =>
      intro x10082 I10085 A10085 hI10085 hA10085 hV10085 h10115 h10116 m10119 m10119z hF
      exact absurd m10119z (Nat.lt_irrefl 0)
    | succ n10118 ih10121 =>
      intro x10082 I10085 A10085 hI10085 hA10085 hV10085 h10115 h10116 m10119 m10119z hF
      replace hF := FE.itr_iIA hF
      refine g_iload_n hk dX6_copyInto_7 rfl ?_
      refine g_aload_n hk dX6_copyInto_8 rfl ?_
      refine gX_i18 (v := (I 18)) hk hin6 (List.mem_cons_of_mem _ (List.mem_append_left _ (List.mem_of_getElem? (i := 1) rfl))) dX6_copyInto_9 (hI10085 18 rfl) ?_
      have f10122 := IvX_f18 hIv
      refine g_icmp_ge (tgt := 30) (a := x10082.toInt) (b := (I 18).toInt) hk dX6_copyInto_12 (by decide) rfl rfl (fun c10123 => ?_) (fun c10123 => ?_)
      · skip
        replace hF := FE.pos hF c10123
        exact g_vret hk hR ⟨I10085, A10085, (show Md [24] I I10085 from (Md.tr (Md.up Md.rf rfl) hI10085 rfl)), (show Md [17] A A10085 from (Md.tr Md.rf hA10085 rfl)), hV10085, hF, rfl, rfl⟩ dX6_copyInto_30
      · skip
        replace hF := FE.neg hF c10123
        refine g_aload_n hk dX6_copyInto_15 rfl ?_
        refine g_aload_n hk dX6_copyInto_16 rfl ?_
        refine g_iload_n hk dX6_copyInto_17 rfl ?_
        refine g_callV (n := 1) hk (k179_X6_valueAt l D zt q d I10085 A10085 x10082 hV10085) (SP.same _) (fun _ h => h) (gi_V (List.mem_cons_of_mem _ (List.mem_append_left _ (List.mem_of_getElem? (i := 2) rfl))) (List.mem_cons_of_mem _ (List.mem_append_left _ (List.mem_of_getElem? (i := 3) rfl))) (List.mem_cons_of_mem _ (List.mem_append_left _ (List.mem_of_getElem? (i := 4) rfl))) (List.mem_cons_of_mem _ (List.mem_append_left _ (List.mem_of_getElem? (i := 5) rfl))) (gi_sub (fun w h => (List.mem_cons_of_mem _ (List.mem_append_right _ (List.mem_append_right _ (List.mem_append_right _ (List.mem_append_left _ h)))))) zg_k179_X6_valueAt)) rfl rfl rfl (by decide +kernel) ⟨Nat.le_of_ble_eq_true rfl, Nat.le_of_ble_eq_true rfl⟩ 13 rfl rfl rfl rfl (Nat.le_of_ble_eq_true rfl) ⟨Nat.le_of_ble_eq_true rfl, Nat.le_of_ble_eq_true rfl⟩ dX6_copyInto_18 (fun v ty' w' hp hk' => ?_)
        obtain ⟨y10124, hC, rfl, rfl⟩ := hp
        replace hF := FE.lt hF (fe_s hC)
        show GW κ 3 0 0 (wX q d I10085 A10085) 21 [(2, .int x10082), (0, .ref (q 13)), (1, .ref (q 29))] [.int y10124, .ref (q 29)]
        refine g_callV (n := 1) hk (k316_X8_append l D zt q d I10085 A10085 y10124 hV10085) (SP.same _) (fun _ h => h) (gi_V (List.mem_cons_of_mem _ (List.mem_append_left _ (List.mem_of_getElem? (i := 6) rfl))) (List.mem_cons_of_mem _ (List.mem_append_left _ (List.mem_of_getElem? (i := 7) rfl))) (List.mem_cons_of_mem _ (List.mem_append_left _ (List.mem_of_getElem? (i := 8) rfl))) (List.mem_cons_of_mem _ (List.mem_append_left _ (List.mem_of_getElem? (i := 9) rfl))) (gi_sub (fun w h => (List.mem_cons_of_mem _ (List.mem_append_right _ (List.mem_append_right _ (List.mem_append_right _ (List.mem_append_right _ (List.mem_append_left _ h))))))) zg_k156_X8_append)) rfl rfl rfl (by decide +kernel) ⟨Nat.le_of_ble_eq_true rfl, Nat.le_of_ble_eq_true rfl⟩ 29 rfl rfl rfl rfl (Nat.le_of_ble_eq_true rfl) ⟨Nat.le_of_ble_eq_true rfl, Nat.le_of_ble_eq_true rfl⟩ dX6_copyInto_21 (fun v ty' w' hp hk' => ?_)
        obtain ⟨I10126, A10126, hI10126, hA10126, hV10126, hC, rfl, rfl⟩ := hp
        replace hF := FE.bdX hF hC
        show GW κ 3 0 0 (wX q d I10126 A10126) 24 [(2, .int x10082), (0, .ref (q 13)), (1, .ref (q 29))] []
        obtain ⟨y10127, ey10127⟩ : ∃ y : Int32, y = x10082 + Int32.ofInt 1 := ⟨_, rfl⟩
        replace hF := FE.lt hF ey10127
        have hy10127 : y10127.toInt = x10082.toInt + 1 := i32_add ey10127 rfl (by decide) (by omega) (by omega)
        refine g_iinc (v := y10127) (lv' := [(2, .int y10127), (0, .ref (q 13)), (1, .ref (q 29))]) hk 0 dX6_copyInto_24 rfl ey10127.symm (by decide) rfl ?_
        refine g_goto (tgt := 7) hk dX6_copyInto_27 (by decide) ?_
        exact g_lv (List.forall_mem_cons.mpr ⟨List.mem_of_getElem? (i := 0) rfl, (List.forall_mem_cons.mpr ⟨List.mem_of_getElem? (i := 1) rfl, (List.forall_mem_cons.mpr ⟨List.mem_of_getElem? (i := 2) rfl, (fun _ h => absurd h List.not_mem_nil)⟩)⟩)⟩) (ih10121 y10127 I10126 A10126 (show Md [24] (upd I 24 0) I10126 from Md.tr hI10085 (show Md [24] I10085 I10126 from (Md.tr Md.rf hI10126 rfl)) rfl) (show Md [17] A A10126 from Md.tr hA10085 (show Md [17] A10085 A10126 from (Md.tr Md.rf hA10126 rfl)) rfl) hV10126 (by omega) (by omega) (by omega) (by omega) hF)
  have k10129 : (0 : Int32).toInt = 0 := rfl
  have n10128a : 161 - 0 < (FU : Int) := by have := FU_eq; omega
  have n10128b : 0 < FU := by have := FU_eq; omega
  exact lp10117 FU 0 (upd I 24 0) A Md.rf Md.rf ⟨(IvX_f0 (I := I) (A := A) hIv), (IvX_f18 (I := I) (A := A) hIv), (IvX_f30 (I := I) (A := A) hIv), (IvX_f31 (I := I) (A := A) hIv), (IvX_a4 (I := I) (A := A) hIv), (IvX_a9 (I := I) (A := A) hIv), trivial⟩ (by omega) (by omega) n10128a n10128b hF
noncomputable def bX7_takeFrom_3_2 : (Int32 → (Nat → Int32) → (Nat → Nat → Int32) → (Int32 × (Nat → Int32) × (Nat → Nat → Int32))) → Int32 → (Nat → Int32) → (Nat → Nat → Int32) → (Int32 × (Nat → Int32) × (Nat → Nat → Int32)) := fun kk10152 x10132 I10135 A10135 => if 4 ≤ x10132.toInt then (0, I10135, A10135) else f_lt (fX7_valueOf_2 I10135 A10135 x10132) fun y10155 => f_lt (x10132 + Int32.ofInt 1) fun y10156 => kk10152 y10156 I10135 (up3 A10135 18 (x10132.toNatClampNeg) y10155)
noncomputable def fX7_takeFrom_3 (I : Nat → Int32) (A : Nat → Nat → Int32) : Int32 × (Nat → Int32) × (Nat → Nat → Int32) := itr_iIA dfX (bX7_takeFrom_3_2) FU 0 I A
set_option maxHeartbeats 4000000 in
set_option maxRecDepth 100000 in
theorem k317_X7_takeFrom (l : Launch) (D : va_G) (zt : Nat × Nat × Nat × (Nat → Nat) × (Nat → Nat)) (q : Nat → Nat) (d : Nat → ClassId) (I : Nat → Int32) (A : Nat → Nat → Int32) (hIv : IvX I A) : GM l D zt (tyX d) yX7_takeFrom wz_k173_X7_takeFrom ({ frames := 1, cells := 0, slots := 0, locals := 21 } : Room) [.ref (q 31), .ref (q 18)] (wX q d I A) (fun v _ w' => ∃ (I' : Nat → Int32) (A' : Nat → Nat → Int32), Md [] I I' ∧ Md [18] A A' ∧ IvX I' A' ∧ FE (fX7_takeFrom_3 I A) (0, I', A') ∧ v = none ∧ w' = wX q d I' A') 0 0 := by
  refine GM.of (cc := cX7_takeFrom) (maxL := 3) (ret := none) (own := RX7) (lv := [(0, .ref (q 31)), (1, .ref (q 18))]) (by decide) rfl rfl (Nat.le_of_ble_eq_true rfl) rfl (fun κ sz hk hR hN => ?_)
  have hin7 : ∀ w ∈ u_ws RX7 TX7 1, w ∈ wz_k173_X7_takeFrom := fun w h => (List.mem_cons_of_mem _ (List.mem_append_right _ (List.mem_append_left _ h)))
  have hF : FE (fX7_takeFrom_3 I A) (fX7_takeFrom_3 I A) := FE.rf
  refine g_iconst (v := 0) hk dX7_takeFrom_0 (by decide) ?_
  refine g_istore_n (lv' := [(2, .int 0), (0, .ref (q 31)), (1, .ref (q 18))]) hk dX7_takeFrom_1 (by decide) rfl ?_
  have lp10149 : ∀ (n10150 : Nat) (x10132 : Int32) (I10135 : Nat → Int32) (A10135 : Nat → Nat → Int32), (Md [] I I10135) → (Md [18] A A10135) → (IvX I10135 A10135) → (0 ≤ x10132.toInt) → (x10132.toInt ≤ 4) → (5 - x10132.toInt < (n10150 : Int)) → (0 < n10150) → (FE (fX7_takeFrom_3 I A) (itr_iIA dfX (bX7_takeFrom_3_2) n10150 x10132 I10135 A10135)) → GW κ 3 0 0 (wX q d I10135 A10135) 2 [(2, .int x10132), (0, .ref (q 31)), (1, .ref (q 18))] [] := by
    intro n10150
    induction n10150 with
    | zero =>
      intro x10132 I10135 A10135 hI10135 hA10135 hV10135 h10147 h10148 m10151 m10151z hF
      exact absurd m10151z (Nat.lt_irrefl 0)
    | succ n10150 ih10153 =>
      intro x10132 I10135 A10135 hI10135 hA10135 hV10135 h10147 h10148 m10151 m10151z hF
      replace hF := FE.itr_iIA hF
      refine g_iload_n hk dX7_takeFrom_2 rfl ?_
      refine g_aload_n hk dX7_takeFrom_3 rfl ?_
      refine gX_r31_0 hk hin7 (List.mem_cons_of_mem _ (List.mem_append_left _ (List.mem_of_getElem? (i := 0) rfl))) dX7_takeFrom_4 ?_
      refine nX_18 hk dX7_takeFrom_7 ?_
      refine g_icmp_ge (tgt := 28) (a := x10132.toInt) (b := 4) hk dX7_takeFrom_8 (by decide) rfl rfl (fun c10154 => ?_) (fun c10154 => ?_)
      · skip
        replace hF := FE.pos hF c10154
        exact g_vret hk hR ⟨I10135, A10135, (show Md [] I I10135 from (Md.tr Md.rf hI10135 rfl)), (show Md [18] A A10135 from (Md.tr Md.rf hA10135 rfl)), hV10135, hF, rfl, rfl⟩ dX7_takeFrom_28
      · skip
        replace hF := FE.neg hF c10154
        refine g_aload_n hk dX7_takeFrom_11 rfl ?_
        refine gX_r31_0 hk hin7 (List.mem_cons_of_mem _ (List.mem_append_left _ (List.mem_of_getElem? (i := 0) rfl))) dX7_takeFrom_12 ?_
        refine g_iload_n hk dX7_takeFrom_15 rfl ?_
        refine g_aload_n hk dX7_takeFrom_16 rfl ?_
        refine g_iload_n hk dX7_takeFrom_17 rfl ?_
        refine g_callV (n := 1) hk (k194_X7_valueOf l D zt q d I10135 A10135 x10132 hV10135) (SP.same _) (fun _ h => h) (gi_V (List.mem_cons_of_mem _ (List.mem_append_left _ (List.mem_of_getElem? (i := 1) rfl))) (List.mem_cons_of_mem _ (List.mem_append_left _ (List.mem_of_getElem? (i := 2) rfl))) (List.mem_cons_of_mem _ (List.mem_append_left _ (List.mem_of_getElem? (i := 3) rfl))) (List.mem_cons_of_mem _ (List.mem_append_left _ (List.mem_of_getElem? (i := 4) rfl))) (gi_sub (fun w h => (List.mem_cons_of_mem _ (List.mem_append_right _ (List.mem_append_right _ (List.mem_append_left _ h))))) zg_k174_X7_valueOf)) rfl rfl rfl (by decide +kernel) ⟨Nat.le_of_ble_eq_true rfl, Nat.le_of_ble_eq_true rfl⟩ 18 rfl rfl rfl rfl (Nat.le_of_ble_eq_true rfl) ⟨Nat.le_of_ble_eq_true rfl, Nat.le_of_ble_eq_true rfl⟩ dX7_takeFrom_18 (fun v ty' w' hp hk' => ?_)
        obtain ⟨y10155, hC, rfl, rfl⟩ := hp
        replace hF := FE.lt hF (fe_s hC)
        show GW κ 3 0 0 (wX q d I10135 A10135) 21 [(2, .int x10132), (0, .ref (q 31)), (1, .ref (q 18))] [.int y10155, .int x10132, .ref (q 32)]
        refine sX_18 (j := x10132.toNatClampNeg) hk (vp_in_iff.mpr ⟨by omega, by omega⟩) rfl dX7_takeFrom_21 ?_
        obtain ⟨y10156, ey10156⟩ : ∃ y : Int32, y = x10132 + Int32.ofInt 1 := ⟨_, rfl⟩
        replace hF := FE.lt hF ey10156
        have hy10156 : y10156.toInt = x10132.toInt + 1 := i32_add ey10156 rfl (by decide) (by omega) (by omega)
        refine g_iinc (v := y10156) (lv' := [(2, .int y10156), (0, .ref (q 31)), (1, .ref (q 18))]) hk 0 dX7_takeFrom_22 rfl ey10156.symm (by decide) rfl ?_
        refine g_goto (tgt := 2) hk dX7_takeFrom_25 (by decide) ?_
        exact g_lv (List.forall_mem_cons.mpr ⟨List.mem_of_getElem? (i := 0) rfl, (List.forall_mem_cons.mpr ⟨List.mem_of_getElem? (i := 1) rfl, (List.forall_mem_cons.mpr ⟨List.mem_of_getElem? (i := 2) rfl, (fun _ h => absurd h List.not_mem_nil)⟩)⟩)⟩) (ih10153 y10156 I10135 (up3 A10135 18 (x10132.toNatClampNeg) y10155) (show Md [] I I10135 from Md.tr hI10135 (show Md [] I10135 I10135 from Md.rf) rfl) (show Md [18] A (up3 A10135 18 (x10132.toNatClampNeg) y10155) from Md.tr hA10135 (show Md [18] A10135 (up3 A10135 18 (x10132.toNatClampNeg) y10155) from (Md.up3 Md.rf rfl)) rfl) ⟨(IvX_f0 (I := I10135) (A := A10135) hV10135), (IvX_f18 (I := I10135) (A := A10135) hV10135), (IvX_f30 (I := I10135) (A := A10135) hV10135), (IvX_f31 (I := I10135) (A := A10135) hV10135), (IvX_a4 (I := I10135) (A := A10135) hV10135), (IvX_a9 (I := I10135) (A := A10135) hV10135), trivial⟩ (by omega) (by omega) (by omega) (by omega) hF)
  have k10158 : (0 : Int32).toInt = 0 := rfl
  have n10157a : 5 - 0 < (FU : Int) := by have := FU_eq; omega
  have n10157b : 0 < FU := by have := FU_eq; omega
  exact lp10149 FU 0 I A Md.rf Md.rf hIv (by omega) (by omega) n10157a n10157b hF
noncomputable def fX8_append_4 (I : Nat → Int32) (A : Nat → Nat → Int32) (z1 : Int32) : Int32 × (Nat → Int32) × (Nat → Nat → Int32) := if (I 26).toInt < 0 then (0, I, A) else if 160 ≤ (I 26).toInt then (0, I, A) else f_lt ((I 26) + (1 : Int32)) fun y10174 => (0, (upd I 26 y10174), (up3 A 19 ((I 26).toNatClampNeg) z1))
set_option maxHeartbeats 4000000 in
set_option maxRecDepth 100000 in
theorem k319_X8_append (l : Launch) (D : va_G) (zt : Nat × Nat × Nat × (Nat → Nat) × (Nat → Nat)) (q : Nat → Nat) (d : Nat → ClassId) (I : Nat → Int32) (A : Nat → Nat → Int32) (z1 : Int32) (hIv : IvX I A) : GM l D zt (tyX d) yX8_append wz_k156_X8_append ({ frames := 0, cells := 0, slots := 0, locals := 0 } : Room) [.ref (q 33), .int z1] (wX q d I A) (fun v _ w' => ∃ (I' : Nat → Int32) (A' : Nat → Nat → Int32), Md [26] I I' ∧ Md [19] A A' ∧ IvX I' A' ∧ FE (fX8_append_4 I A z1) (0, I', A') ∧ v = none ∧ w' = wX q d I' A') 0 0 := by
  refine GM.of (cc := cX8_append) (maxL := 2) (ret := none) (own := RX8) (lv := [(0, .ref (q 33)), (1, .int z1)]) (by decide) rfl rfl (Nat.le_of_ble_eq_true rfl) rfl (fun κ sz hk hR hN => ?_)
  have hin8 : ∀ w ∈ u_ws RX8 TX8 4, w ∈ wz_k156_X8_append := fun w h => (List.mem_cons_of_mem _ (List.mem_append_right _ (List.mem_append_left _ h)))
  have hF : FE (fX8_append_4 I A z1) (fX8_append_4 I A z1) := FE.rf
  refine g_aload_n hk dX8_append_0 rfl ?_
  refine gX_i26 (v := (I 26)) hk hin8 (List.mem_cons_of_mem _ (List.mem_append_left _ (List.mem_of_getElem? (i := 0) rfl))) dX8_append_1 rfl ?_
  have b10171l := Int32.le_toInt (I 26)
  have b10171h := Int32.toInt_lt (I 26)
  refine g_if_lt (tgt := 39) (a := (I 26).toInt) hk dX8_append_4 (by decide) rfl (fun c10172 => ?_) (fun c10172 => ?_)
  · skip
    replace hF := FE.pos hF c10172
    exact g_vret hk hR ⟨I, A, (show Md [26] I I from Md.rf), (show Md [19] A A from Md.rf), hIv, hF, rfl, rfl⟩ dX8_append_39
  · skip
    replace hF := FE.neg hF c10172
    refine g_aload_n hk dX8_append_7 rfl ?_
    refine gX_i26 (v := (I 26)) hk hin8 (List.mem_cons_of_mem _ (List.mem_append_left _ (List.mem_of_getElem? (i := 0) rfl))) dX8_append_8 rfl ?_
    refine g_aload_n hk dX8_append_11 rfl ?_
    refine gX_r33_0 hk hin8 (List.mem_cons_of_mem _ (List.mem_append_left _ (List.mem_of_getElem? (i := 1) rfl))) dX8_append_12 ?_
    refine nX_19 hk dX8_append_15 ?_
    refine g_icmp_ge (tgt := 39) (a := (I 26).toInt) (b := 160) hk dX8_append_16 (by decide) rfl rfl (fun c10173 => ?_) (fun c10173 => ?_)
    · skip
      replace hF := FE.pos hF c10173
      exact g_vret hk hR ⟨I, A, (show Md [26] I I from Md.rf), (show Md [19] A A from Md.rf), hIv, hF, rfl, rfl⟩ dX8_append_39
    · skip
      replace hF := FE.neg hF c10173
      refine g_aload_n hk dX8_append_19 rfl ?_
      refine gX_r33_0 hk hin8 (List.mem_cons_of_mem _ (List.mem_append_left _ (List.mem_of_getElem? (i := 1) rfl))) dX8_append_20 ?_
      refine g_aload_n hk dX8_append_23 rfl ?_
      refine gX_i26 (v := (I 26)) hk hin8 (List.mem_cons_of_mem _ (List.mem_append_left _ (List.mem_of_getElem? (i := 0) rfl))) dX8_append_24 rfl ?_
      refine g_iload_n hk dX8_append_27 rfl ?_
      refine sX_19 (j := (I 26).toNatClampNeg) hk (vp_in_iff.mpr ⟨by omega, by omega⟩) rfl dX8_append_28 ?_
      refine g_aload_n hk dX8_append_29 rfl ?_
      refine g_dup hk dX8_append_30 rfl ?_
      refine gX_i26 (v := (I 26)) hk hin8 (List.mem_cons_of_mem _ (List.mem_append_left _ (List.mem_of_getElem? (i := 0) rfl))) dX8_append_31 rfl ?_
      refine g_iconst (v := 1) hk dX8_append_34 (by decide) ?_
      refine g_iadd hk dX8_append_35 ?_
      refine g_topi (fun y10174 ey10174 => ?_)
      replace hF := FE.lt hF ey10174
      have hy10174 : y10174.toInt = (I 26).toInt + 1 := i32_add ey10174 rfl rfl (by omega) (by omega)
      refine pX_i26 hk hin8 (List.mem_cons_of_mem _ (List.mem_append_left _ (List.mem_of_getElem? (i := 0) rfl))) dX8_append_36 ?_
      exact g_vret hk hR ⟨(upd I 26 y10174), (up3 A 19 ((I 26).toNatClampNeg) z1), (show Md [26] I (upd I 26 y10174) from (Md.up Md.rf rfl)), (show Md [19] A (up3 A 19 ((I 26).toNatClampNeg) z1) from (Md.up3 Md.rf rfl)), ⟨(IvX_f0 (I := I) (A := A) hIv), (IvX_f18 (I := I) (A := A) hIv), (IvX_f30 (I := I) (A := A) hIv), (IvX_f31 (I := I) (A := A) hIv), (IvX_a4 (I := I) (A := A) hIv), (IvX_a9 (I := I) (A := A) hIv), trivial⟩, hF, rfl, rfl⟩ dX8_append_39
noncomputable def bX6_copyInto_3_7 (I : Nat → Int32) : (Int32 → (Nat → Int32) → (Nat → Nat → Int32) → (Int32 × (Nat → Int32) × (Nat → Nat → Int32))) → Int32 → (Nat → Int32) → (Nat → Nat → Int32) → (Int32 × (Nat → Int32) × (Nat → Nat → Int32)) := fun kk10201 x10163 I10166 A10166 => if (I 18).toInt ≤ x10163.toInt then (0, I10166, A10166) else f_lt (fX6_valueAt I10166 A10166 x10163) fun y10205 => f_bdX (fX8_append_4 I10166 A10166 y10205) fun _ I10207 A10207 => f_lt (x10163 + Int32.ofInt 1) fun y10208 => kk10201 y10208 I10207 A10207
noncomputable def fX6_copyInto_3 (I : Nat → Int32) (A : Nat → Nat → Int32) : Int32 × (Nat → Int32) × (Nat → Nat → Int32) := itr_iIA dfX (bX6_copyInto_3_7 I) FU 0 (upd I 26 0) A
set_option maxHeartbeats 4000000 in
set_option maxRecDepth 100000 in
theorem k318_X6_copyInto (l : Launch) (D : va_G) (zt : Nat × Nat × Nat × (Nat → Nat) × (Nat → Nat)) (q : Nat → Nat) (d : Nat → ClassId) (I : Nat → Int32) (A : Nat → Nat → Int32) (hIv : IvX I A) : GM l D zt (tyX d) yX6_copyInto wz_k312_X6_copyInto ({ frames := 1, cells := 0, slots := 0, locals := 21 } : Room) [.ref (q 13), .ref (q 33)] (wX q d I A) (fun v _ w' => ∃ (I' : Nat → Int32) (A' : Nat → Nat → Int32), Md [26] I I' ∧ Md [19] A A' ∧ IvX I' A' ∧ FE (fX6_copyInto_3 I A) (0, I', A') ∧ v = none ∧ w' = wX q d I' A') 0 0 := by
  refine GM.of (cc := cX6_copyInto) (maxL := 3) (ret := none) (own := RX6) (lv := [(0, .ref (q 13)), (1, .ref (q 33))]) (by decide) rfl rfl (Nat.le_of_ble_eq_true rfl) rfl (fun κ sz hk hR hN => ?_)
  have hin6 : ∀ w ∈ u_ws RX6 TX6 3, w ∈ wz_k312_X6_copyInto := fun w h => (List.mem_cons_of_mem _ (List.mem_append_right _ (List.mem_append_left _ h)))
  have hin8 : ∀ w ∈ u_ws RX8 TX8 4, w ∈ wz_k312_X6_copyInto := fun w h => (List.mem_cons_of_mem _ (List.mem_append_right _ (List.mem_append_right _ (List.mem_append_left _ h))))
  have hF : FE (fX6_copyInto_3 I A) (fX6_copyInto_3 I A) := FE.rf
  refine g_aload_n hk dX6_copyInto_0 rfl ?_
  refine g_iconst (v := 0) hk dX6_copyInto_1 (by decide) ?_
  refine pX_i26 hk hin8 (List.mem_cons_of_mem _ (List.mem_append_left _ (List.mem_of_getElem? (i := 0) rfl))) dX6_copyInto_2 ?_
  refine g_iconst (v := 0) hk dX6_copyInto_5 (by decide) ?_
  refine g_istore_n (lv' := [(2, .int 0), (0, .ref (q 13)), (1, .ref (q 33))]) hk dX6_copyInto_6 (by decide) rfl ?_
  have lp10198 : ∀ (n10199 : Nat) (x10163 : Int32) (I10166 : Nat → Int32) (A10166 : Nat → Nat → Int32), (Md [26] (upd I 26 0) I10166) → (Md [19] A A10166) → (IvX I10166 A10166) → (0 ≤ x10163.toInt) → (x10163.toInt ≤ 160) → (161 - x10163.toInt < (n10199 : Int)) → (0 < n10199) → (FE (fX6_copyInto_3 I A) (itr_iIA dfX (bX6_copyInto_3_7 I) n10199 x10163 I10166 A10166)) → GW κ 3 0 0 (wX q d I10166 A10166) 7 [(2, .int x10163), (0, .ref (q 13)), (1, .ref (q 33))] [] := by
    intro n10199
    induction n10199 with
    | zero =>
      intro x10163 I10166 A10166 hI10166 hA10166 hV10166 h10196 h10197 m10200 m10200z hF
      exact absurd m10200z (Nat.lt_irrefl 0)
    | succ n10199 ih10202 =>
      intro x10163 I10166 A10166 hI10166 hA10166 hV10166 h10196 h10197 m10200 m10200z hF
      replace hF := FE.itr_iIA hF
      refine g_iload_n hk dX6_copyInto_7 rfl ?_
      refine g_aload_n hk dX6_copyInto_8 rfl ?_
      refine gX_i18 (v := (I 18)) hk hin6 (List.mem_cons_of_mem _ (List.mem_append_left _ (List.mem_of_getElem? (i := 1) rfl))) dX6_copyInto_9 (hI10166 18 rfl) ?_
      have f10203 := IvX_f18 hIv
      refine g_icmp_ge (tgt := 30) (a := x10163.toInt) (b := (I 18).toInt) hk dX6_copyInto_12 (by decide) rfl rfl (fun c10204 => ?_) (fun c10204 => ?_)
      · skip
        replace hF := FE.pos hF c10204
        exact g_vret hk hR ⟨I10166, A10166, (show Md [26] I I10166 from (Md.tr (Md.up Md.rf rfl) hI10166 rfl)), (show Md [19] A A10166 from (Md.tr Md.rf hA10166 rfl)), hV10166, hF, rfl, rfl⟩ dX6_copyInto_30
      · skip
        replace hF := FE.neg hF c10204
        refine g_aload_n hk dX6_copyInto_15 rfl ?_
        refine g_aload_n hk dX6_copyInto_16 rfl ?_
        refine g_iload_n hk dX6_copyInto_17 rfl ?_
        refine g_callV (n := 1) hk (k179_X6_valueAt l D zt q d I10166 A10166 x10163 hV10166) (SP.same _) (fun _ h => h) (gi_V (List.mem_cons_of_mem _ (List.mem_append_left _ (List.mem_of_getElem? (i := 2) rfl))) (List.mem_cons_of_mem _ (List.mem_append_left _ (List.mem_of_getElem? (i := 3) rfl))) (List.mem_cons_of_mem _ (List.mem_append_left _ (List.mem_of_getElem? (i := 4) rfl))) (List.mem_cons_of_mem _ (List.mem_append_left _ (List.mem_of_getElem? (i := 5) rfl))) (gi_sub (fun w h => (List.mem_cons_of_mem _ (List.mem_append_right _ (List.mem_append_right _ (List.mem_append_right _ (List.mem_append_left _ h)))))) zg_k179_X6_valueAt)) rfl rfl rfl (by decide +kernel) ⟨Nat.le_of_ble_eq_true rfl, Nat.le_of_ble_eq_true rfl⟩ 13 rfl rfl rfl rfl (Nat.le_of_ble_eq_true rfl) ⟨Nat.le_of_ble_eq_true rfl, Nat.le_of_ble_eq_true rfl⟩ dX6_copyInto_18 (fun v ty' w' hp hk' => ?_)
        obtain ⟨y10205, hC, rfl, rfl⟩ := hp
        replace hF := FE.lt hF (fe_s hC)
        show GW κ 3 0 0 (wX q d I10166 A10166) 21 [(2, .int x10163), (0, .ref (q 13)), (1, .ref (q 33))] [.int y10205, .ref (q 33)]
        refine g_callV (n := 1) hk (k319_X8_append l D zt q d I10166 A10166 y10205 hV10166) (SP.same _) (fun _ h => h) (gi_V (List.mem_cons_of_mem _ (List.mem_append_left _ (List.mem_of_getElem? (i := 6) rfl))) (List.mem_cons_of_mem _ (List.mem_append_left _ (List.mem_of_getElem? (i := 7) rfl))) (List.mem_cons_of_mem _ (List.mem_append_left _ (List.mem_of_getElem? (i := 8) rfl))) (List.mem_cons_of_mem _ (List.mem_append_left _ (List.mem_of_getElem? (i := 9) rfl))) (gi_sub (fun w h => (List.mem_cons_of_mem _ (List.mem_append_right _ (List.mem_append_right _ (List.mem_append_right _ (List.mem_append_right _ (List.mem_append_left _ h))))))) zg_k156_X8_append)) rfl rfl rfl (by decide +kernel) ⟨Nat.le_of_ble_eq_true rfl, Nat.le_of_ble_eq_true rfl⟩ 33 rfl rfl rfl rfl (Nat.le_of_ble_eq_true rfl) ⟨Nat.le_of_ble_eq_true rfl, Nat.le_of_ble_eq_true rfl⟩ dX6_copyInto_21 (fun v ty' w' hp hk' => ?_)
        obtain ⟨I10207, A10207, hI10207, hA10207, hV10207, hC, rfl, rfl⟩ := hp
        replace hF := FE.bdX hF hC
        show GW κ 3 0 0 (wX q d I10207 A10207) 24 [(2, .int x10163), (0, .ref (q 13)), (1, .ref (q 33))] []
        obtain ⟨y10208, ey10208⟩ : ∃ y : Int32, y = x10163 + Int32.ofInt 1 := ⟨_, rfl⟩
        replace hF := FE.lt hF ey10208
        have hy10208 : y10208.toInt = x10163.toInt + 1 := i32_add ey10208 rfl (by decide) (by omega) (by omega)
        refine g_iinc (v := y10208) (lv' := [(2, .int y10208), (0, .ref (q 13)), (1, .ref (q 33))]) hk 0 dX6_copyInto_24 rfl ey10208.symm (by decide) rfl ?_
        refine g_goto (tgt := 7) hk dX6_copyInto_27 (by decide) ?_
        exact g_lv (List.forall_mem_cons.mpr ⟨List.mem_of_getElem? (i := 0) rfl, (List.forall_mem_cons.mpr ⟨List.mem_of_getElem? (i := 1) rfl, (List.forall_mem_cons.mpr ⟨List.mem_of_getElem? (i := 2) rfl, (fun _ h => absurd h List.not_mem_nil)⟩)⟩)⟩) (ih10202 y10208 I10207 A10207 (show Md [26] (upd I 26 0) I10207 from Md.tr hI10166 (show Md [26] I10166 I10207 from (Md.tr Md.rf hI10207 rfl)) rfl) (show Md [19] A A10207 from Md.tr hA10166 (show Md [19] A10166 A10207 from (Md.tr Md.rf hA10207 rfl)) rfl) hV10207 (by omega) (by omega) (by omega) (by omega) hF)
  have k10210 : (0 : Int32).toInt = 0 := rfl
  have n10209a : 161 - 0 < (FU : Int) := by have := FU_eq; omega
  have n10209b : 0 < FU := by have := FU_eq; omega
  exact lp10198 FU 0 (upd I 26 0) A Md.rf Md.rf ⟨(IvX_f0 (I := I) (A := A) hIv), (IvX_f18 (I := I) (A := A) hIv), (IvX_f30 (I := I) (A := A) hIv), (IvX_f31 (I := I) (A := A) hIv), (IvX_a4 (I := I) (A := A) hIv), (IvX_a9 (I := I) (A := A) hIv), trivial⟩ (by omega) (by omega) n10209a n10209b hF
noncomputable def bX7_takeFrom_4_2 : (Int32 → (Nat → Int32) → (Nat → Nat → Int32) → (Int32 × (Nat → Int32) × (Nat → Nat → Int32))) → Int32 → (Nat → Int32) → (Nat → Nat → Int32) → (Int32 × (Nat → Int32) × (Nat → Nat → Int32)) := fun kk10233 x10213 I10216 A10216 => if 4 ≤ x10213.toInt then (0, I10216, A10216) else f_lt (fX7_valueOf_2 I10216 A10216 x10213) fun y10236 => f_lt (x10213 + Int32.ofInt 1) fun y10237 => kk10233 y10237 I10216 (up3 A10216 20 (x10213.toNatClampNeg) y10236)
noncomputable def fX7_takeFrom_4 (I : Nat → Int32) (A : Nat → Nat → Int32) : Int32 × (Nat → Int32) × (Nat → Nat → Int32) := itr_iIA dfX (bX7_takeFrom_4_2) FU 0 I A
set_option maxHeartbeats 4000000 in
set_option maxRecDepth 100000 in
theorem k320_X7_takeFrom (l : Launch) (D : va_G) (zt : Nat × Nat × Nat × (Nat → Nat) × (Nat → Nat)) (q : Nat → Nat) (d : Nat → ClassId) (I : Nat → Int32) (A : Nat → Nat → Int32) (hIv : IvX I A) : GM l D zt (tyX d) yX7_takeFrom wz_k173_X7_takeFrom ({ frames := 1, cells := 0, slots := 0, locals := 21 } : Room) [.ref (q 35), .ref (q 18)] (wX q d I A) (fun v _ w' => ∃ (I' : Nat → Int32) (A' : Nat → Nat → Int32), Md [] I I' ∧ Md [20] A A' ∧ IvX I' A' ∧ FE (fX7_takeFrom_4 I A) (0, I', A') ∧ v = none ∧ w' = wX q d I' A') 0 0 := by
  refine GM.of (cc := cX7_takeFrom) (maxL := 3) (ret := none) (own := RX7) (lv := [(0, .ref (q 35)), (1, .ref (q 18))]) (by decide) rfl rfl (Nat.le_of_ble_eq_true rfl) rfl (fun κ sz hk hR hN => ?_)
  have hin7 : ∀ w ∈ u_ws RX7 TX7 1, w ∈ wz_k173_X7_takeFrom := fun w h => (List.mem_cons_of_mem _ (List.mem_append_right _ (List.mem_append_left _ h)))
  have hF : FE (fX7_takeFrom_4 I A) (fX7_takeFrom_4 I A) := FE.rf
  refine g_iconst (v := 0) hk dX7_takeFrom_0 (by decide) ?_
  refine g_istore_n (lv' := [(2, .int 0), (0, .ref (q 35)), (1, .ref (q 18))]) hk dX7_takeFrom_1 (by decide) rfl ?_
  have lp10230 : ∀ (n10231 : Nat) (x10213 : Int32) (I10216 : Nat → Int32) (A10216 : Nat → Nat → Int32), (Md [] I I10216) → (Md [20] A A10216) → (IvX I10216 A10216) → (0 ≤ x10213.toInt) → (x10213.toInt ≤ 4) → (5 - x10213.toInt < (n10231 : Int)) → (0 < n10231) → (FE (fX7_takeFrom_4 I A) (itr_iIA dfX (bX7_takeFrom_4_2) n10231 x10213 I10216 A10216)) → GW κ 3 0 0 (wX q d I10216 A10216) 2 [(2, .int x10213), (0, .ref (q 35)), (1, .ref (q 18))] [] := by
    intro n10231
    induction n10231 with
    | zero =>
      intro x10213 I10216 A10216 hI10216 hA10216 hV10216 h10228 h10229 m10232 m10232z hF
      exact absurd m10232z (Nat.lt_irrefl 0)
    | succ n10231 ih10234 =>
      intro x10213 I10216 A10216 hI10216 hA10216 hV10216 h10228 h10229 m10232 m10232z hF
      replace hF := FE.itr_iIA hF
      refine g_iload_n hk dX7_takeFrom_2 rfl ?_
      refine g_aload_n hk dX7_takeFrom_3 rfl ?_
      refine gX_r35_0 hk hin7 (List.mem_cons_of_mem _ (List.mem_append_left _ (List.mem_of_getElem? (i := 0) rfl))) dX7_takeFrom_4 ?_
      refine nX_20 hk dX7_takeFrom_7 ?_
      refine g_icmp_ge (tgt := 28) (a := x10213.toInt) (b := 4) hk dX7_takeFrom_8 (by decide) rfl rfl (fun c10235 => ?_) (fun c10235 => ?_)
      · skip
        replace hF := FE.pos hF c10235
        exact g_vret hk hR ⟨I10216, A10216, (show Md [] I I10216 from (Md.tr Md.rf hI10216 rfl)), (show Md [20] A A10216 from (Md.tr Md.rf hA10216 rfl)), hV10216, hF, rfl, rfl⟩ dX7_takeFrom_28
      · skip
        replace hF := FE.neg hF c10235
        refine g_aload_n hk dX7_takeFrom_11 rfl ?_
        refine gX_r35_0 hk hin7 (List.mem_cons_of_mem _ (List.mem_append_left _ (List.mem_of_getElem? (i := 0) rfl))) dX7_takeFrom_12 ?_
        refine g_iload_n hk dX7_takeFrom_15 rfl ?_
        refine g_aload_n hk dX7_takeFrom_16 rfl ?_
        refine g_iload_n hk dX7_takeFrom_17 rfl ?_
        refine g_callV (n := 1) hk (k194_X7_valueOf l D zt q d I10216 A10216 x10213 hV10216) (SP.same _) (fun _ h => h) (gi_V (List.mem_cons_of_mem _ (List.mem_append_left _ (List.mem_of_getElem? (i := 1) rfl))) (List.mem_cons_of_mem _ (List.mem_append_left _ (List.mem_of_getElem? (i := 2) rfl))) (List.mem_cons_of_mem _ (List.mem_append_left _ (List.mem_of_getElem? (i := 3) rfl))) (List.mem_cons_of_mem _ (List.mem_append_left _ (List.mem_of_getElem? (i := 4) rfl))) (gi_sub (fun w h => (List.mem_cons_of_mem _ (List.mem_append_right _ (List.mem_append_right _ (List.mem_append_left _ h))))) zg_k174_X7_valueOf)) rfl rfl rfl (by decide +kernel) ⟨Nat.le_of_ble_eq_true rfl, Nat.le_of_ble_eq_true rfl⟩ 18 rfl rfl rfl rfl (Nat.le_of_ble_eq_true rfl) ⟨Nat.le_of_ble_eq_true rfl, Nat.le_of_ble_eq_true rfl⟩ dX7_takeFrom_18 (fun v ty' w' hp hk' => ?_)
        obtain ⟨y10236, hC, rfl, rfl⟩ := hp
        replace hF := FE.lt hF (fe_s hC)
        show GW κ 3 0 0 (wX q d I10216 A10216) 21 [(2, .int x10213), (0, .ref (q 35)), (1, .ref (q 18))] [.int y10236, .int x10213, .ref (q 36)]
        refine sX_20 (j := x10213.toNatClampNeg) hk (vp_in_iff.mpr ⟨by omega, by omega⟩) rfl dX7_takeFrom_21 ?_
        obtain ⟨y10237, ey10237⟩ : ∃ y : Int32, y = x10213 + Int32.ofInt 1 := ⟨_, rfl⟩
        replace hF := FE.lt hF ey10237
        have hy10237 : y10237.toInt = x10213.toInt + 1 := i32_add ey10237 rfl (by decide) (by omega) (by omega)
        refine g_iinc (v := y10237) (lv' := [(2, .int y10237), (0, .ref (q 35)), (1, .ref (q 18))]) hk 0 dX7_takeFrom_22 rfl ey10237.symm (by decide) rfl ?_
        refine g_goto (tgt := 2) hk dX7_takeFrom_25 (by decide) ?_
        exact g_lv (List.forall_mem_cons.mpr ⟨List.mem_of_getElem? (i := 0) rfl, (List.forall_mem_cons.mpr ⟨List.mem_of_getElem? (i := 1) rfl, (List.forall_mem_cons.mpr ⟨List.mem_of_getElem? (i := 2) rfl, (fun _ h => absurd h List.not_mem_nil)⟩)⟩)⟩) (ih10234 y10237 I10216 (up3 A10216 20 (x10213.toNatClampNeg) y10236) (show Md [] I I10216 from Md.tr hI10216 (show Md [] I10216 I10216 from Md.rf) rfl) (show Md [20] A (up3 A10216 20 (x10213.toNatClampNeg) y10236) from Md.tr hA10216 (show Md [20] A10216 (up3 A10216 20 (x10213.toNatClampNeg) y10236) from (Md.up3 Md.rf rfl)) rfl) ⟨(IvX_f0 (I := I10216) (A := A10216) hV10216), (IvX_f18 (I := I10216) (A := A10216) hV10216), (IvX_f30 (I := I10216) (A := A10216) hV10216), (IvX_f31 (I := I10216) (A := A10216) hV10216), (IvX_a4 (I := I10216) (A := A10216) hV10216), (IvX_a9 (I := I10216) (A := A10216) hV10216), trivial⟩ (by omega) (by omega) (by omega) (by omega) hF)
  have k10239 : (0 : Int32).toInt = 0 := rfl
  have n10238a : 5 - 0 < (FU : Int) := by have := FU_eq; omega
  have n10238b : 0 < FU := by have := FU_eq; omega
  exact lp10230 FU 0 I A Md.rf Md.rf hIv (by omega) (by omega) n10238a n10238b hF
noncomputable def fX11_hold (I : Nat → Int32) (A : Nat → Nat → Int32) (z1 : Int32) : Int32 × (Nat → Int32) × (Nat → Nat → Int32) := if z1.toInt < 0 then (0, I, A) else if z1.toInt < 3 then if z1.toInt = 0 then f_bdX (fX6_copyInto I A) fun _ I10050 A10050 => f_bdX (fX7_takeFrom_2 I10050 A10050) fun _ I10079 A10079 => (1, (upd I10079 23 1), A10079) else if z1.toInt = 1 then f_bdX (fX6_copyInto_2 I A) fun _ I10131 A10131 => f_bdX (fX7_takeFrom_3 I10131 A10131) fun _ I10160 A10160 => (1, (upd I10160 25 1), A10160) else if z1.toInt = 2 then f_bdX (fX6_copyInto_3 I A) fun _ I10212 A10212 => f_bdX (fX7_takeFrom_4 I10212 A10212) fun _ I10241 A10241 => (1, (upd I10241 27 1), A10241) else dfX else (0, I, A)
def wo_k311_X11_hold : List Cond := [Cond.fieldLink RX11 56 "WarpDesk" "slots" "[LWarpDesk$Stand;", Cond.fieldLink RX11 28 "WarpDesk" "series" "LWarpDesk$Series;", Cond.methodLink RX11 362 yX6_copyInto, Cond.instanceMethod yX6_copyInto, Cond.selects RX6 yX6_copyInto yX6_copyInto, Cond.initialized RX6, Cond.fieldLink RX11 365 "WarpDesk$Stand" "settings" "LWarpDesk$Settings;", Cond.fieldLink RX11 42 "WarpDesk" "settings" "LWarpDesk$Settings;", Cond.methodLink RX11 366 yX7_takeFrom, Cond.instanceMethod yX7_takeFrom, Cond.selects RX7 yX7_takeFrom yX7_takeFrom, Cond.initialized RX7, Cond.fieldLink RX11 110 "WarpDesk$Stand" "held" "Z"]
def wz_k311_X11_hold : List Cond := .code yX11_hold cX11_hold 3 (some .boolean) :: (wo_k311_X11_hold ++ (wsX80 ++ (wsX110 ++ (wz_k312_X6_copyInto ++ (wz_k173_X7_takeFrom ++ (wz_k312_X6_copyInto ++ (wz_k173_X7_takeFrom ++ (wz_k312_X6_copyInto ++ (wz_k173_X7_takeFrom ++ ([] : List Cond))))))))))
theorem zg_k311_X11_hold : ∀ w ∈ wz_k311_X11_hold, goodWord w = true := zg_cons rfl (zg_app (by decide +kernel) (zg_app zgU_wsX80 (zg_app zgU_wsX110 (zg_app zg_k312_X6_copyInto (zg_app zg_k173_X7_takeFrom (zg_app zg_k312_X6_copyInto (zg_app zg_k173_X7_takeFrom (zg_app zg_k312_X6_copyInto (zg_app zg_k173_X7_takeFrom zg_nil)))))))))
theorem zi_k311_X11_hold : ∀ w ∈ wz_k311_X11_hold, w ∈ lw_tbl := zi_cons zw_1329 (zi_app (zi_cons zw_493 (zi_cons zw_489 (zi_cons zw_1330 (zi_cons zw_1331 (zi_cons zw_1332 (zi_cons zw_109 (zi_cons zw_200 (zi_cons zw_491 (zi_cons zw_781 (zi_cons zw_782 (zi_cons zw_783 (zi_cons zw_107 (zi_cons zw_201 zi_nil))))))))))))) (zi_app inX8 (zi_app inX11 (zi_app zi_k312_X6_copyInto (zi_app zi_k173_X7_takeFrom (zi_app zi_k312_X6_copyInto (zi_app zi_k173_X7_takeFrom (zi_app zi_k312_X6_copyInto (zi_app zi_k173_X7_takeFrom zi_nil)))))))))
set_option maxHeartbeats 4000000 in
set_option maxRecDepth 100000 in
theorem k311_X11_hold (l : Launch) (D : va_G) (zt : Nat × Nat × Nat × (Nat → Nat) × (Nat → Nat)) (q : Nat → Nat) (d : Nat → ClassId) (I : Nat → Int32) (A : Nat → Nat → Int32) (z1 : Int32) (hIv : IvX I A) : GM l D zt (tyX d) yX11_hold wz_k311_X11_hold ({ frames := 2, cells := 0, slots := 0, locals := 43 } : Room) [.ref (q 0), .int z1] (wX q d I A) (fun v _ w' => ∃ (I' : Nat → Int32) (A' : Nat → Nat → Int32), Md [22, 23, 24, 25, 26, 27] I I' ∧ Md [15, 16, 17, 18, 19, 20] A A' ∧ IvX I' A' ∧ ∃ y0 : Int32, ((0 ≤ z1.toInt ∧ z1.toInt ≤ 2 ∧ y0.toInt = 1) ∨ ((z1.toInt < 0 ∨ 2 < z1.toInt) ∧ y0.toInt = 0)) ∧ (0 ≤ y0.toInt) ∧ (y0.toInt ≤ 1) ∧ FE (fX11_hold I A z1) (y0, I', A') ∧ v = some (.int y0) ∧ w' = wX q d I' A') 0 0 := by
  refine GM.of (cc := cX11_hold) (maxL := 3) (ret := (some .boolean)) (own := RX11) (lv := [(0, .ref (q 0)), (1, .int z1)]) (by decide) rfl rfl (Nat.le_of_ble_eq_true rfl) rfl (fun κ sz hk hR hN => ?_)
  have hin8 : ∀ w ∈ u_ws RX8 TX8 4, w ∈ wz_k311_X11_hold := fun w h => (List.mem_cons_of_mem _ (List.mem_append_right _ (List.mem_append_left _ h)))
  have hin11 : ∀ w ∈ u_ws RX11 TX11 10, w ∈ wz_k311_X11_hold := fun w h => (List.mem_cons_of_mem _ (List.mem_append_right _ (List.mem_append_right _ (List.mem_append_left _ h))))
  have hF : FE (fX11_hold I A z1) (fX11_hold I A z1) := FE.rf
  refine g_iload_n hk dX11_hold_0 rfl ?_
  have b9996l := Int32.le_toInt z1
  have b9996h := Int32.toInt_lt z1
  refine g_if_lt (tgt := 13) (a := z1.toInt) hk dX11_hold_1 (by decide) rfl (fun c9997 => ?_) (fun c9997 => ?_)
  · skip
    replace hF := FE.pos hF c9997
    refine g_iconst (v := 0) hk dX11_hold_13 (by decide) ?_
    have k9998 : (0 : Int32).toInt = 0 := rfl
    exact g_iret hk hR rfl ⟨I, A, (show Md [22, 23, 24, 25, 26, 27] I I from Md.rf), (show Md [15, 16, 17, 18, 19, 20] A A from Md.rf), hIv, 0, (show (0 ≤ z1.toInt ∧ z1.toInt ≤ 2 ∧ (0 : Int32).toInt = 1) ∨ ((z1.toInt < 0 ∨ 2 < z1.toInt) ∧ (0 : Int32).toInt = 0) from by omega), (by decide), (by decide), hF, rfl, rfl⟩ dX11_hold_14
  · skip
    replace hF := FE.neg hF c9997
    refine g_iload_n hk dX11_hold_4 rfl ?_
    refine g_aload_n hk dX11_hold_5 rfl ?_
    refine gX_r0_6 hk hin11 (List.mem_cons_of_mem _ (List.mem_append_left _ (List.mem_of_getElem? (i := 0) rfl))) dX11_hold_6 ?_
    refine nX_14 hk dX11_hold_9 ?_
    refine g_icmp_lt (tgt := 15) (a := z1.toInt) (b := 3) hk dX11_hold_10 (by decide) rfl rfl (fun c9999 => ?_) (fun c9999 => ?_)
    · skip
      replace hF := FE.pos hF c9999
      refine g_aload_n hk dX11_hold_15 rfl ?_
      refine gX_r0_6 hk hin11 (List.mem_cons_of_mem _ (List.mem_append_left _ (List.mem_of_getElem? (i := 0) rfl))) dX11_hold_16 ?_
      refine g_iload_n hk dX11_hold_19 rfl ?_
      by_cases c10000 : z1.toInt = 0
      · have ec10000 : z1 = 0 := Int32.toInt_inj.mp c10000
        replace hF := FE.pos hF c10000
        rw [ec10000]
        show GW κ 3 0 0 (wX q d I A) 20 [(0, .ref (q 0)), (1, .int 0)] [.int 0, .ref (q 24)]
        refine lX_14 hk (vp_in_iff.mpr ⟨by decide, by decide⟩) rfl dX11_hold_20 ?_
        refine g_astore_n (lv' := [(2, .ref (q 25)), (0, .ref (q 0)), (1, .int 0)]) hk dX11_hold_21 (by decide) rfl ?_
        refine g_aload_n hk dX11_hold_22 rfl ?_
        refine gX_r0_2 hk hin11 (List.mem_cons_of_mem _ (List.mem_append_left _ (List.mem_of_getElem? (i := 1) rfl))) dX11_hold_23 ?_
        refine g_aload_n hk dX11_hold_26 rfl ?_
        refine g_callV (n := 1) hk (k312_X6_copyInto l D zt q d I A  hIv) (SP.same _) (fun _ h => h) (gi_V (List.mem_cons_of_mem _ (List.mem_append_left _ (List.mem_of_getElem? (i := 2) rfl))) (List.mem_cons_of_mem _ (List.mem_append_left _ (List.mem_of_getElem? (i := 3) rfl))) (List.mem_cons_of_mem _ (List.mem_append_left _ (List.mem_of_getElem? (i := 4) rfl))) (List.mem_cons_of_mem _ (List.mem_append_left _ (List.mem_of_getElem? (i := 5) rfl))) (gi_sub (fun w h => (List.mem_cons_of_mem _ (List.mem_append_right _ (List.mem_append_right _ (List.mem_append_right _ (List.mem_append_left _ h)))))) zg_k312_X6_copyInto)) rfl rfl rfl (by decide +kernel) ⟨Nat.le_of_ble_eq_true rfl, Nat.le_of_ble_eq_true rfl⟩ 13 rfl rfl rfl rfl (Nat.le_of_ble_eq_true rfl) ⟨Nat.le_of_ble_eq_true rfl, Nat.le_of_ble_eq_true rfl⟩ dX11_hold_27 (fun v ty' w' hp hk' => ?_)
        obtain ⟨I10050, A10050, hI10050, hA10050, hV10050, hC, rfl, rfl⟩ := hp
        replace hF := FE.bdX hF hC
        show GW κ 3 0 0 (wX q d I10050 A10050) 30 [(2, .ref (q 25)), (0, .ref (q 0)), (1, .int 0)] []
        refine g_aload_n hk dX11_hold_30 rfl ?_
        refine gX_r25_2 hk hin8 (List.mem_cons_of_mem _ (List.mem_append_left _ (List.mem_of_getElem? (i := 6) rfl))) dX11_hold_31 ?_
        refine g_aload_n hk dX11_hold_34 rfl ?_
        refine gX_r0_4 hk hin11 (List.mem_cons_of_mem _ (List.mem_append_left _ (List.mem_of_getElem? (i := 7) rfl))) dX11_hold_35 ?_
        refine g_callV (n := 1) hk (k314_X7_takeFrom l D zt q d I10050 A10050  hV10050) (SP.same _) (fun _ h => h) (gi_V (List.mem_cons_of_mem _ (List.mem_append_left _ (List.mem_of_getElem? (i := 8) rfl))) (List.mem_cons_of_mem _ (List.mem_append_left _ (List.mem_of_getElem? (i := 9) rfl))) (List.mem_cons_of_mem _ (List.mem_append_left _ (List.mem_of_getElem? (i := 10) rfl))) (List.mem_cons_of_mem _ (List.mem_append_left _ (List.mem_of_getElem? (i := 11) rfl))) (gi_sub (fun w h => (List.mem_cons_of_mem _ (List.mem_append_right _ (List.mem_append_right _ (List.mem_append_right _ (List.mem_append_right _ (List.mem_append_left _ h))))))) zg_k173_X7_takeFrom)) rfl rfl rfl (by decide +kernel) ⟨Nat.le_of_ble_eq_true rfl, Nat.le_of_ble_eq_true rfl⟩ 27 rfl rfl rfl rfl (Nat.le_of_ble_eq_true rfl) ⟨Nat.le_of_ble_eq_true rfl, Nat.le_of_ble_eq_true rfl⟩ dX11_hold_38 (fun v ty' w' hp hk' => ?_)
        obtain ⟨I10079, A10079, hI10079, hA10079, hV10079, hC, rfl, rfl⟩ := hp
        replace hF := FE.bdX hF hC
        show GW κ 3 0 0 (wX q d I10079 A10079) 41 [(2, .ref (q 25)), (0, .ref (q 0)), (1, .int 0)] []
        refine g_aload_n hk dX11_hold_41 rfl ?_
        refine g_iconst (v := 1) hk dX11_hold_42 (by decide) ?_
        refine pX_i23 hk hin8 (List.mem_cons_of_mem _ (List.mem_append_left _ (List.mem_of_getElem? (i := 12) rfl))) ⟨rfl, rfl⟩ dX11_hold_43 ?_
        refine g_iconst (v := 1) hk dX11_hold_46 (by decide) ?_
        have k10080 : (1 : Int32).toInt = 1 := rfl
        exact g_iret hk hR rfl ⟨(upd I10079 23 1), A10079, (show Md [22, 23, 24, 25, 26, 27] I (upd I10079 23 1) from (Md.up (Md.tr (Md.tr Md.rf hI10050 rfl) hI10079 rfl) rfl)), (show Md [15, 16, 17, 18, 19, 20] A A10079 from (Md.tr (Md.tr Md.rf hA10050 rfl) hA10079 rfl)), ⟨(IvX_f0 (I := I10079) (A := A10079) hV10079), (IvX_f18 (I := I10079) (A := A10079) hV10079), (IvX_f30 (I := I10079) (A := A10079) hV10079), (IvX_f31 (I := I10079) (A := A10079) hV10079), (IvX_a4 (I := I10079) (A := A10079) hV10079), (IvX_a9 (I := I10079) (A := A10079) hV10079), trivial⟩, 1, (show (0 ≤ z1.toInt ∧ z1.toInt ≤ 2 ∧ (1 : Int32).toInt = 1) ∨ ((z1.toInt < 0 ∨ 2 < z1.toInt) ∧ (1 : Int32).toInt = 0) from by omega), (by decide), (by decide), hF, rfl, rfl⟩ dX11_hold_47
      replace hF := FE.neg hF c10000
      by_cases c10081 : z1.toInt = 1
      · have ec10081 : z1 = 1 := Int32.toInt_inj.mp c10081
        replace hF := FE.pos hF c10081
        rw [ec10081]
        show GW κ 3 0 0 (wX q d I A) 20 [(0, .ref (q 0)), (1, .int 1)] [.int 1, .ref (q 24)]
        refine lX_14 hk (vp_in_iff.mpr ⟨by decide, by decide⟩) rfl dX11_hold_20 ?_
        refine g_astore_n (lv' := [(2, .ref (q 29)), (0, .ref (q 0)), (1, .int 1)]) hk dX11_hold_21 (by decide) rfl ?_
        refine g_aload_n hk dX11_hold_22 rfl ?_
        refine gX_r0_2 hk hin11 (List.mem_cons_of_mem _ (List.mem_append_left _ (List.mem_of_getElem? (i := 1) rfl))) dX11_hold_23 ?_
        refine g_aload_n hk dX11_hold_26 rfl ?_
        refine g_callV (n := 1) hk (k315_X6_copyInto l D zt q d I A  hIv) (SP.same _) (fun _ h => h) (gi_V (List.mem_cons_of_mem _ (List.mem_append_left _ (List.mem_of_getElem? (i := 2) rfl))) (List.mem_cons_of_mem _ (List.mem_append_left _ (List.mem_of_getElem? (i := 3) rfl))) (List.mem_cons_of_mem _ (List.mem_append_left _ (List.mem_of_getElem? (i := 4) rfl))) (List.mem_cons_of_mem _ (List.mem_append_left _ (List.mem_of_getElem? (i := 5) rfl))) (gi_sub (fun w h => (List.mem_cons_of_mem _ (List.mem_append_right _ (List.mem_append_right _ (List.mem_append_right _ (List.mem_append_right _ (List.mem_append_right _ (List.mem_append_left _ h)))))))) zg_k312_X6_copyInto)) rfl rfl rfl (by decide +kernel) ⟨Nat.le_of_ble_eq_true rfl, Nat.le_of_ble_eq_true rfl⟩ 13 rfl rfl rfl rfl (Nat.le_of_ble_eq_true rfl) ⟨Nat.le_of_ble_eq_true rfl, Nat.le_of_ble_eq_true rfl⟩ dX11_hold_27 (fun v ty' w' hp hk' => ?_)
        obtain ⟨I10131, A10131, hI10131, hA10131, hV10131, hC, rfl, rfl⟩ := hp
        replace hF := FE.bdX hF hC
        show GW κ 3 0 0 (wX q d I10131 A10131) 30 [(2, .ref (q 29)), (0, .ref (q 0)), (1, .int 1)] []
        refine g_aload_n hk dX11_hold_30 rfl ?_
        refine gX_r29_2 hk hin8 (List.mem_cons_of_mem _ (List.mem_append_left _ (List.mem_of_getElem? (i := 6) rfl))) dX11_hold_31 ?_
        refine g_aload_n hk dX11_hold_34 rfl ?_
        refine gX_r0_4 hk hin11 (List.mem_cons_of_mem _ (List.mem_append_left _ (List.mem_of_getElem? (i := 7) rfl))) dX11_hold_35 ?_
        refine g_callV (n := 1) hk (k317_X7_takeFrom l D zt q d I10131 A10131  hV10131) (SP.same _) (fun _ h => h) (gi_V (List.mem_cons_of_mem _ (List.mem_append_left _ (List.mem_of_getElem? (i := 8) rfl))) (List.mem_cons_of_mem _ (List.mem_append_left _ (List.mem_of_getElem? (i := 9) rfl))) (List.mem_cons_of_mem _ (List.mem_append_left _ (List.mem_of_getElem? (i := 10) rfl))) (List.mem_cons_of_mem _ (List.mem_append_left _ (List.mem_of_getElem? (i := 11) rfl))) (gi_sub (fun w h => (List.mem_cons_of_mem _ (List.mem_append_right _ (List.mem_append_right _ (List.mem_append_right _ (List.mem_append_right _ (List.mem_append_right _ (List.mem_append_right _ (List.mem_append_left _ h))))))))) zg_k173_X7_takeFrom)) rfl rfl rfl (by decide +kernel) ⟨Nat.le_of_ble_eq_true rfl, Nat.le_of_ble_eq_true rfl⟩ 31 rfl rfl rfl rfl (Nat.le_of_ble_eq_true rfl) ⟨Nat.le_of_ble_eq_true rfl, Nat.le_of_ble_eq_true rfl⟩ dX11_hold_38 (fun v ty' w' hp hk' => ?_)
        obtain ⟨I10160, A10160, hI10160, hA10160, hV10160, hC, rfl, rfl⟩ := hp
        replace hF := FE.bdX hF hC
        show GW κ 3 0 0 (wX q d I10160 A10160) 41 [(2, .ref (q 29)), (0, .ref (q 0)), (1, .int 1)] []
        refine g_aload_n hk dX11_hold_41 rfl ?_
        refine g_iconst (v := 1) hk dX11_hold_42 (by decide) ?_
        refine pX_i25 hk hin8 (List.mem_cons_of_mem _ (List.mem_append_left _ (List.mem_of_getElem? (i := 12) rfl))) ⟨rfl, rfl⟩ dX11_hold_43 ?_
        refine g_iconst (v := 1) hk dX11_hold_46 (by decide) ?_
        have k10161 : (1 : Int32).toInt = 1 := rfl
        exact g_iret hk hR rfl ⟨(upd I10160 25 1), A10160, (show Md [22, 23, 24, 25, 26, 27] I (upd I10160 25 1) from (Md.up (Md.tr (Md.tr Md.rf hI10131 rfl) hI10160 rfl) rfl)), (show Md [15, 16, 17, 18, 19, 20] A A10160 from (Md.tr (Md.tr Md.rf hA10131 rfl) hA10160 rfl)), ⟨(IvX_f0 (I := I10160) (A := A10160) hV10160), (IvX_f18 (I := I10160) (A := A10160) hV10160), (IvX_f30 (I := I10160) (A := A10160) hV10160), (IvX_f31 (I := I10160) (A := A10160) hV10160), (IvX_a4 (I := I10160) (A := A10160) hV10160), (IvX_a9 (I := I10160) (A := A10160) hV10160), trivial⟩, 1, (show (0 ≤ z1.toInt ∧ z1.toInt ≤ 2 ∧ (1 : Int32).toInt = 1) ∨ ((z1.toInt < 0 ∨ 2 < z1.toInt) ∧ (1 : Int32).toInt = 0) from by omega), (by decide), (by decide), hF, rfl, rfl⟩ dX11_hold_47
      replace hF := FE.neg hF c10081
      by_cases c10162 : z1.toInt = 2
      · have ec10162 : z1 = 2 := Int32.toInt_inj.mp c10162
        replace hF := FE.pos hF c10162
        rw [ec10162]
        show GW κ 3 0 0 (wX q d I A) 20 [(0, .ref (q 0)), (1, .int 2)] [.int 2, .ref (q 24)]
        refine lX_14 hk (vp_in_iff.mpr ⟨by decide, by decide⟩) rfl dX11_hold_20 ?_
        refine g_astore_n (lv' := [(2, .ref (q 33)), (0, .ref (q 0)), (1, .int 2)]) hk dX11_hold_21 (by decide) rfl ?_
        refine g_aload_n hk dX11_hold_22 rfl ?_
        refine gX_r0_2 hk hin11 (List.mem_cons_of_mem _ (List.mem_append_left _ (List.mem_of_getElem? (i := 1) rfl))) dX11_hold_23 ?_
        refine g_aload_n hk dX11_hold_26 rfl ?_
        refine g_callV (n := 1) hk (k318_X6_copyInto l D zt q d I A  hIv) (SP.same _) (fun _ h => h) (gi_V (List.mem_cons_of_mem _ (List.mem_append_left _ (List.mem_of_getElem? (i := 2) rfl))) (List.mem_cons_of_mem _ (List.mem_append_left _ (List.mem_of_getElem? (i := 3) rfl))) (List.mem_cons_of_mem _ (List.mem_append_left _ (List.mem_of_getElem? (i := 4) rfl))) (List.mem_cons_of_mem _ (List.mem_append_left _ (List.mem_of_getElem? (i := 5) rfl))) (gi_sub (fun w h => (List.mem_cons_of_mem _ (List.mem_append_right _ (List.mem_append_right _ (List.mem_append_right _ (List.mem_append_right _ (List.mem_append_right _ (List.mem_append_right _ (List.mem_append_right _ (List.mem_append_left _ h)))))))))) zg_k312_X6_copyInto)) rfl rfl rfl (by decide +kernel) ⟨Nat.le_of_ble_eq_true rfl, Nat.le_of_ble_eq_true rfl⟩ 13 rfl rfl rfl rfl (Nat.le_of_ble_eq_true rfl) ⟨Nat.le_of_ble_eq_true rfl, Nat.le_of_ble_eq_true rfl⟩ dX11_hold_27 (fun v ty' w' hp hk' => ?_)
        obtain ⟨I10212, A10212, hI10212, hA10212, hV10212, hC, rfl, rfl⟩ := hp
        replace hF := FE.bdX hF hC
        show GW κ 3 0 0 (wX q d I10212 A10212) 30 [(2, .ref (q 33)), (0, .ref (q 0)), (1, .int 2)] []
        refine g_aload_n hk dX11_hold_30 rfl ?_
        refine gX_r33_2 hk hin8 (List.mem_cons_of_mem _ (List.mem_append_left _ (List.mem_of_getElem? (i := 6) rfl))) dX11_hold_31 ?_
        refine g_aload_n hk dX11_hold_34 rfl ?_
        refine gX_r0_4 hk hin11 (List.mem_cons_of_mem _ (List.mem_append_left _ (List.mem_of_getElem? (i := 7) rfl))) dX11_hold_35 ?_
        refine g_callV (n := 1) hk (k320_X7_takeFrom l D zt q d I10212 A10212  hV10212) (SP.same _) (fun _ h => h) (gi_V (List.mem_cons_of_mem _ (List.mem_append_left _ (List.mem_of_getElem? (i := 8) rfl))) (List.mem_cons_of_mem _ (List.mem_append_left _ (List.mem_of_getElem? (i := 9) rfl))) (List.mem_cons_of_mem _ (List.mem_append_left _ (List.mem_of_getElem? (i := 10) rfl))) (List.mem_cons_of_mem _ (List.mem_append_left _ (List.mem_of_getElem? (i := 11) rfl))) (gi_sub (fun w h => (List.mem_cons_of_mem _ (List.mem_append_right _ (List.mem_append_right _ (List.mem_append_right _ (List.mem_append_right _ (List.mem_append_right _ (List.mem_append_right _ (List.mem_append_right _ (List.mem_append_right _ (List.mem_append_left _ h))))))))))) zg_k173_X7_takeFrom)) rfl rfl rfl (by decide +kernel) ⟨Nat.le_of_ble_eq_true rfl, Nat.le_of_ble_eq_true rfl⟩ 35 rfl rfl rfl rfl (Nat.le_of_ble_eq_true rfl) ⟨Nat.le_of_ble_eq_true rfl, Nat.le_of_ble_eq_true rfl⟩ dX11_hold_38 (fun v ty' w' hp hk' => ?_)
        obtain ⟨I10241, A10241, hI10241, hA10241, hV10241, hC, rfl, rfl⟩ := hp
        replace hF := FE.bdX hF hC
        show GW κ 3 0 0 (wX q d I10241 A10241) 41 [(2, .ref (q 33)), (0, .ref (q 0)), (1, .int 2)] []
        refine g_aload_n hk dX11_hold_41 rfl ?_
        refine g_iconst (v := 1) hk dX11_hold_42 (by decide) ?_
        refine pX_i27 hk hin8 (List.mem_cons_of_mem _ (List.mem_append_left _ (List.mem_of_getElem? (i := 12) rfl))) ⟨rfl, rfl⟩ dX11_hold_43 ?_
        refine g_iconst (v := 1) hk dX11_hold_46 (by decide) ?_
        have k10242 : (1 : Int32).toInt = 1 := rfl
        exact g_iret hk hR rfl ⟨(upd I10241 27 1), A10241, (show Md [22, 23, 24, 25, 26, 27] I (upd I10241 27 1) from (Md.up (Md.tr (Md.tr Md.rf hI10212 rfl) hI10241 rfl) rfl)), (show Md [15, 16, 17, 18, 19, 20] A A10241 from (Md.tr (Md.tr Md.rf hA10212 rfl) hA10241 rfl)), ⟨(IvX_f0 (I := I10241) (A := A10241) hV10241), (IvX_f18 (I := I10241) (A := A10241) hV10241), (IvX_f30 (I := I10241) (A := A10241) hV10241), (IvX_f31 (I := I10241) (A := A10241) hV10241), (IvX_a4 (I := I10241) (A := A10241) hV10241), (IvX_a9 (I := I10241) (A := A10241) hV10241), trivial⟩, 1, (show (0 ≤ z1.toInt ∧ z1.toInt ≤ 2 ∧ (1 : Int32).toInt = 1) ∨ ((z1.toInt < 0 ∨ 2 < z1.toInt) ∧ (1 : Int32).toInt = 0) from by omega), (by decide), (by decide), hF, rfl, rfl⟩ dX11_hold_47
      replace hF := FE.neg hF c10162
      exfalso; omega
    · skip
      replace hF := FE.neg hF c9999
      refine g_iconst (v := 0) hk dX11_hold_13 (by decide) ?_
      have k10243 : (0 : Int32).toInt = 0 := rfl
      exact g_iret hk hR rfl ⟨I, A, (show Md [22, 23, 24, 25, 26, 27] I I from Md.rf), (show Md [15, 16, 17, 18, 19, 20] A A from Md.rf), hIv, 0, (show (0 ≤ z1.toInt ∧ z1.toInt ≤ 2 ∧ (0 : Int32).toInt = 1) ∨ ((z1.toInt < 0 ∨ 2 < z1.toInt) ∧ (0 : Int32).toInt = 0) from by omega), (by decide), (by decide), hF, rfl, rfl⟩ dX11_hold_14
noncomputable def fX8_valueAt_2 (I : Nat → Int32) (A : Nat → Nat → Int32) (z1 : Int32) : Int32 := if z1.toInt < 0 then (-1000) else if (I 22).toInt ≤ z1.toInt then (-1000) else if 160 ≤ z1.toInt then (-1000) else (A 15 z1.toNatClampNeg)
set_option maxHeartbeats 4000000 in
set_option maxRecDepth 100000 in
theorem k324_X8_valueAt (l : Launch) (D : va_G) (zt : Nat × Nat × Nat × (Nat → Nat) × (Nat → Nat)) (q : Nat → Nat) (d : Nat → ClassId) (I : Nat → Int32) (A : Nat → Nat → Int32) (z1 : Int32) (hIv : IvX I A) : GM l D zt (tyX d) yX8_valueAt wz_k171_X8_valueAt ({ frames := 0, cells := 0, slots := 0, locals := 0 } : Room) [.ref (q 25), .int z1] (wX q d I A) (fun v _ w' => ∃ y0 : Int32, FE (fX8_valueAt_2 I A z1) y0 ∧ v = some (.int y0) ∧ w' = wX q d I A) 0 0 := by
  refine GM.of (cc := cX8_valueAt) (maxL := 2) (ret := (some .int)) (own := RX8) (lv := [(0, .ref (q 25)), (1, .int z1)]) (by decide) rfl rfl (Nat.le_of_ble_eq_true rfl) rfl (fun κ sz hk hR hN => ?_)
  have hin8 : ∀ w ∈ u_ws RX8 TX8 4, w ∈ wz_k171_X8_valueAt := fun w h => (List.mem_cons_of_mem _ (List.mem_append_right _ (List.mem_append_left _ h)))
  have hF : FE (fX8_valueAt_2 I A z1) (fX8_valueAt_2 I A z1) := FE.rf
  refine g_iload_n hk dX8_valueAt_0 rfl ?_
  have b10256l := Int32.le_toInt z1
  have b10256h := Int32.toInt_lt z1
  refine g_if_lt (tgt := 30) (a := z1.toInt) hk dX8_valueAt_1 (by decide) rfl (fun c10257 => ?_) (fun c10257 => ?_)
  · skip
    replace hF := FE.pos hF c10257
    refine g_sipush (v := (-1000)) hk dX8_valueAt_30 (by decide) ?_
    exact g_iret hk hR rfl ⟨(-1000), hF, rfl, rfl⟩ dX8_valueAt_33
  · skip
    replace hF := FE.neg hF c10257
    refine g_iload_n hk dX8_valueAt_4 rfl ?_
    refine g_aload_n hk dX8_valueAt_5 rfl ?_
    refine gX_i22 (v := (I 22)) hk hin8 (List.mem_cons_of_mem _ (List.mem_append_left _ (List.mem_of_getElem? (i := 0) rfl))) dX8_valueAt_6 rfl ?_
    have b10258l := Int32.le_toInt (I 22)
    have b10258h := Int32.toInt_lt (I 22)
    refine g_icmp_ge (tgt := 30) (a := z1.toInt) (b := (I 22).toInt) hk dX8_valueAt_9 (by decide) rfl rfl (fun c10259 => ?_) (fun c10259 => ?_)
    · skip
      replace hF := FE.pos hF c10259
      refine g_sipush (v := (-1000)) hk dX8_valueAt_30 (by decide) ?_
      exact g_iret hk hR rfl ⟨(-1000), hF, rfl, rfl⟩ dX8_valueAt_33
    · skip
      replace hF := FE.neg hF c10259
      refine g_iload_n hk dX8_valueAt_12 rfl ?_
      refine g_aload_n hk dX8_valueAt_13 rfl ?_
      refine gX_r25_0 hk hin8 (List.mem_cons_of_mem _ (List.mem_append_left _ (List.mem_of_getElem? (i := 1) rfl))) dX8_valueAt_14 ?_
      refine nX_15 hk dX8_valueAt_17 ?_
      refine g_icmp_ge (tgt := 30) (a := z1.toInt) (b := 160) hk dX8_valueAt_18 (by decide) rfl rfl (fun c10260 => ?_) (fun c10260 => ?_)
      · skip
        replace hF := FE.pos hF c10260
        refine g_sipush (v := (-1000)) hk dX8_valueAt_30 (by decide) ?_
        exact g_iret hk hR rfl ⟨(-1000), hF, rfl, rfl⟩ dX8_valueAt_33
      · skip
        replace hF := FE.neg hF c10260
        refine g_aload_n hk dX8_valueAt_21 rfl ?_
        refine gX_r25_0 hk hin8 (List.mem_cons_of_mem _ (List.mem_append_left _ (List.mem_of_getElem? (i := 1) rfl))) dX8_valueAt_22 ?_
        refine g_iload_n hk dX8_valueAt_25 rfl ?_
        refine lX_15 (v := (A 15 z1.toNatClampNeg)) hk (vp_in_iff.mpr ⟨by omega, by omega⟩) rfl dX8_valueAt_26 ?_
        refine g_goto (tgt := 33) hk dX8_valueAt_27 (by decide) ?_
        have b10261l := Int32.le_toInt (A 15 z1.toNatClampNeg)
        have b10261h := Int32.toInt_lt (A 15 z1.toNatClampNeg)
        exact g_iret hk hR rfl ⟨(A 15 z1.toNatClampNeg), hF, rfl, rfl⟩ dX8_valueAt_33
noncomputable def bX6_takeFrom_2_12 (I : Nat → Int32) : (Int32 → (Nat → Int32) → (Nat → Nat → Int32) → (Int32 × (Nat → Int32) × (Nat → Nat → Int32))) → Int32 → (Nat → Int32) → (Nat → Nat → Int32) → (Int32 × (Nat → Int32) × (Nat → Nat → Int32)) := fun kk10289 x10250 I10253 A10253 => if (I 22).toInt ≤ x10250.toInt then (0, I10253, A10253) else f_lt (fX8_valueAt_2 I10253 A10253 x10250) fun y10294 => f_bdX (fX6_append I10253 A10253 y10294) fun y10295 I10298 A10298 => f_lt (x10250 + Int32.ofInt 1) fun y10299 => kk10289 y10299 I10298 A10298
noncomputable def fX6_takeFrom_2 (I : Nat → Int32) (A : Nat → Nat → Int32) : Int32 × (Nat → Int32) × (Nat → Nat → Int32) := itr_iIA dfX (bX6_takeFrom_2_12 I) FU 0 (upd (upd I 17 0) 18 0) A
set_option maxHeartbeats 4000000 in
set_option maxRecDepth 100000 in
theorem k323_X6_takeFrom (l : Launch) (D : va_G) (zt : Nat × Nat × Nat × (Nat → Nat) × (Nat → Nat)) (q : Nat → Nat) (d : Nat → ClassId) (I : Nat → Int32) (A : Nat → Nat → Int32) (hIv : IvX I A) : GM l D zt (tyX d) yX6_takeFrom wz_k170_X6_takeFrom ({ frames := 1, cells := 0, slots := 0, locals := 21 } : Room) [.ref (q 13), .ref (q 25)] (wX q d I A) (fun v _ w' => ∃ (I' : Nat → Int32) (A' : Nat → Nat → Int32), Md [17, 18] I I' ∧ Md [7] A A' ∧ IvX I' A' ∧ FE (fX6_takeFrom_2 I A) (0, I', A') ∧ v = none ∧ w' = wX q d I' A') 0 0 := by
  refine GM.of (cc := cX6_takeFrom) (maxL := 3) (ret := none) (own := RX6) (lv := [(0, .ref (q 13)), (1, .ref (q 25))]) (by decide) rfl rfl (Nat.le_of_ble_eq_true rfl) rfl (fun κ sz hk hR hN => ?_)
  have hin6 : ∀ w ∈ u_ws RX6 TX6 3, w ∈ wz_k170_X6_takeFrom := fun w h => (List.mem_cons_of_mem _ (List.mem_append_right _ (List.mem_append_left _ h)))
  have hin8 : ∀ w ∈ u_ws RX8 TX8 4, w ∈ wz_k170_X6_takeFrom := fun w h => (List.mem_cons_of_mem _ (List.mem_append_right _ (List.mem_append_right _ (List.mem_append_left _ h))))
  have hF : FE (fX6_takeFrom_2 I A) (fX6_takeFrom_2 I A) := FE.rf
  refine g_aload_n hk dX6_takeFrom_0 rfl ?_
  refine g_iconst (v := 0) hk dX6_takeFrom_1 (by decide) ?_
  refine pX_i17 hk hin6 (List.mem_cons_of_mem _ (List.mem_append_left _ (List.mem_of_getElem? (i := 0) rfl))) dX6_takeFrom_2 ?_
  refine g_aload_n hk dX6_takeFrom_5 rfl ?_
  refine g_iconst (v := 0) hk dX6_takeFrom_6 (by decide) ?_
  refine pX_i18 hk hin6 (List.mem_cons_of_mem _ (List.mem_append_left _ (List.mem_of_getElem? (i := 1) rfl))) dX6_takeFrom_7 ?_
  refine g_iconst (v := 0) hk dX6_takeFrom_10 (by decide) ?_
  refine g_istore_n (lv' := [(2, .int 0), (0, .ref (q 13)), (1, .ref (q 25))]) hk dX6_takeFrom_11 (by decide) rfl ?_
  have lp10286 : ∀ (n10287 : Nat) (x10250 : Int32) (I10253 : Nat → Int32) (A10253 : Nat → Nat → Int32), (Md [17, 18] (upd (upd I 17 0) 18 0) I10253) → (Md [7] A A10253) → (IvX I10253 A10253) → (0 ≤ x10250.toInt) → ((I 22).toInt + 1 - x10250.toInt < (n10287 : Int)) → (0 < n10287) → (FE (fX6_takeFrom_2 I A) (itr_iIA dfX (bX6_takeFrom_2_12 I) n10287 x10250 I10253 A10253)) → GW κ 3 0 0 (wX q d I10253 A10253) 12 [(2, .int x10250), (0, .ref (q 13)), (1, .ref (q 25))] [] := by
    intro n10287
    induction n10287 with
    | zero =>
      intro x10250 I10253 A10253 hI10253 hA10253 hV10253 h10285 m10288 m10288z hF
      exact absurd m10288z (Nat.lt_irrefl 0)
    | succ n10287 ih10290 =>
      intro x10250 I10253 A10253 hI10253 hA10253 hV10253 h10285 m10288 m10288z hF
      replace hF := FE.itr_iIA hF
      refine g_iload_n hk dX6_takeFrom_12 rfl ?_
      refine g_aload_n hk dX6_takeFrom_13 rfl ?_
      refine gX_i22 (v := (I 22)) hk hin8 (List.mem_cons_of_mem _ (List.mem_append_left _ (List.mem_of_getElem? (i := 2) rfl))) dX6_takeFrom_14 (hI10253 22 rfl) ?_
      have b10291l := Int32.le_toInt x10250
      have b10291h := Int32.toInt_lt x10250
      have b10292l := Int32.le_toInt (I 22)
      have b10292h := Int32.toInt_lt (I 22)
      refine g_icmp_ge (tgt := 36) (a := x10250.toInt) (b := (I 22).toInt) hk dX6_takeFrom_17 (by decide) rfl rfl (fun c10293 => ?_) (fun c10293 => ?_)
      · skip
        replace hF := FE.pos hF c10293
        exact g_vret hk hR ⟨I10253, A10253, (show Md [17, 18] I I10253 from (Md.tr (Md.up (Md.up Md.rf rfl) rfl) hI10253 rfl)), (show Md [7] A A10253 from (Md.tr Md.rf hA10253 rfl)), hV10253, hF, rfl, rfl⟩ dX6_takeFrom_36
      · skip
        replace hF := FE.neg hF c10293
        refine g_aload_n hk dX6_takeFrom_20 rfl ?_
        refine g_aload_n hk dX6_takeFrom_21 rfl ?_
        refine g_iload_n hk dX6_takeFrom_22 rfl ?_
        refine g_callV (n := 1) hk (k324_X8_valueAt l D zt q d I10253 A10253 x10250 hV10253) (SP.same _) (fun _ h => h) (gi_V (List.mem_cons_of_mem _ (List.mem_append_left _ (List.mem_of_getElem? (i := 3) rfl))) (List.mem_cons_of_mem _ (List.mem_append_left _ (List.mem_of_getElem? (i := 4) rfl))) (List.mem_cons_of_mem _ (List.mem_append_left _ (List.mem_of_getElem? (i := 5) rfl))) (List.mem_cons_of_mem _ (List.mem_append_left _ (List.mem_of_getElem? (i := 6) rfl))) (gi_sub (fun w h => (List.mem_cons_of_mem _ (List.mem_append_right _ (List.mem_append_right _ (List.mem_append_right _ (List.mem_append_left _ h)))))) zg_k171_X8_valueAt)) rfl rfl rfl (by decide +kernel) ⟨Nat.le_of_ble_eq_true rfl, Nat.le_of_ble_eq_true rfl⟩ 25 rfl rfl rfl rfl (Nat.le_of_ble_eq_true rfl) ⟨Nat.le_of_ble_eq_true rfl, Nat.le_of_ble_eq_true rfl⟩ dX6_takeFrom_23 (fun v ty' w' hp hk' => ?_)
        obtain ⟨y10294, hC, rfl, rfl⟩ := hp
        replace hF := FE.lt hF (fe_s hC)
        show GW κ 3 0 0 (wX q d I10253 A10253) 26 [(2, .int x10250), (0, .ref (q 13)), (1, .ref (q 25))] [.int y10294, .ref (q 13)]
        refine g_callV (n := 1) hk (k172_X6_append l D zt q d I10253 A10253 y10294 hV10253) (SP.same _) (fun _ h => h) (gi_V (List.mem_cons_of_mem _ (List.mem_append_left _ (List.mem_of_getElem? (i := 7) rfl))) (List.mem_cons_of_mem _ (List.mem_append_left _ (List.mem_of_getElem? (i := 8) rfl))) (List.mem_cons_of_mem _ (List.mem_append_left _ (List.mem_of_getElem? (i := 9) rfl))) (List.mem_cons_of_mem _ (List.mem_append_left _ (List.mem_of_getElem? (i := 10) rfl))) (gi_sub (fun w h => (List.mem_cons_of_mem _ (List.mem_append_right _ (List.mem_append_right _ (List.mem_append_right _ (List.mem_append_right _ (List.mem_append_left _ h))))))) zg_k172_X6_append)) rfl rfl rfl (by decide +kernel) ⟨Nat.le_of_ble_eq_true rfl, Nat.le_of_ble_eq_true rfl⟩ 13 rfl rfl rfl rfl (Nat.le_of_ble_eq_true rfl) ⟨Nat.le_of_ble_eq_true rfl, Nat.le_of_ble_eq_true rfl⟩ dX6_takeFrom_26 (fun v ty' w' hp hk' => ?_)
        obtain ⟨I10298, A10298, hI10298, hA10298, hV10298, y10295, c10296, c10297, hC, rfl, rfl⟩ := hp
        replace hF := FE.bdX hF hC
        show GW κ 3 0 0 (wX q d I10298 A10298) 29 [(2, .int x10250), (0, .ref (q 13)), (1, .ref (q 25))] [.int y10295]
        refine g_pop hk dX6_takeFrom_29 rfl ?_
        obtain ⟨y10299, ey10299⟩ : ∃ y : Int32, y = x10250 + Int32.ofInt 1 := ⟨_, rfl⟩
        replace hF := FE.lt hF ey10299
        have hy10299 : y10299.toInt = x10250.toInt + 1 := i32_add ey10299 rfl (by decide) (by omega) (by omega)
        refine g_iinc (v := y10299) (lv' := [(2, .int y10299), (0, .ref (q 13)), (1, .ref (q 25))]) hk 0 dX6_takeFrom_30 rfl ey10299.symm (by decide) rfl ?_
        refine g_goto (tgt := 12) hk dX6_takeFrom_33 (by decide) ?_
        exact g_lv (List.forall_mem_cons.mpr ⟨List.mem_of_getElem? (i := 0) rfl, (List.forall_mem_cons.mpr ⟨List.mem_of_getElem? (i := 1) rfl, (List.forall_mem_cons.mpr ⟨List.mem_of_getElem? (i := 2) rfl, (fun _ h => absurd h List.not_mem_nil)⟩)⟩)⟩) (ih10290 y10299 I10298 A10298 (show Md [17, 18] (upd (upd I 17 0) 18 0) I10298 from Md.tr hI10253 (show Md [17, 18] I10253 I10298 from (Md.tr Md.rf hI10298 rfl)) rfl) (show Md [7] A A10298 from Md.tr hA10253 (show Md [7] A10253 A10298 from (Md.tr Md.rf hA10298 rfl)) rfl) hV10298 (by omega) (by omega) (by omega) hF)
  have k10301 : (0 : Int32).toInt = 0 := rfl
  have b10302 := Int32.le_toInt (I 22)
  have b10303 := Int32.toInt_lt (I 22)
  have n10300a : (I 22).toInt + 1 - 0 < (FU : Int) := by have := FU_eq; omega
  have n10300b : 0 < FU := by have := FU_eq; omega
  exact lp10286 FU 0 (upd (upd I 17 0) 18 0) A Md.rf Md.rf ⟨(IvX_f0 (I := I) (A := A) hIv), (show 0 ≤ (0 : Int32).toInt ∧ (0 : Int32).toInt ≤ 160 from ⟨by decide, by decide⟩), (IvX_f30 (I := I) (A := A) hIv), (IvX_f31 (I := I) (A := A) hIv), (IvX_a4 (I := I) (A := A) hIv), (IvX_a9 (I := I) (A := A) hIv), trivial⟩ (by omega) n10300a n10300b hF
noncomputable def fX7_valueOf_3 (I : Nat → Int32) (A : Nat → Nat → Int32) (z1 : Int32) : Int32 := if z1.toInt < 0 then (-1) else if 4 ≤ z1.toInt then (-1) else (A 16 z1.toNatClampNeg)
set_option maxHeartbeats 4000000 in
set_option maxRecDepth 100000 in
theorem k326_X7_valueOf (l : Launch) (D : va_G) (zt : Nat × Nat × Nat × (Nat → Nat) × (Nat → Nat)) (q : Nat → Nat) (d : Nat → ClassId) (I : Nat → Int32) (A : Nat → Nat → Int32) (z1 : Int32) (hIv : IvX I A) : GM l D zt (tyX d) yX7_valueOf wz_k174_X7_valueOf ({ frames := 0, cells := 0, slots := 0, locals := 0 } : Room) [.ref (q 27), .int z1] (wX q d I A) (fun v _ w' => ∃ y0 : Int32, FE (fX7_valueOf_3 I A z1) y0 ∧ v = some (.int y0) ∧ w' = wX q d I A) 0 0 := by
  refine GM.of (cc := cX7_valueOf) (maxL := 2) (ret := (some .int)) (own := RX7) (lv := [(0, .ref (q 27)), (1, .int z1)]) (by decide) rfl rfl (Nat.le_of_ble_eq_true rfl) rfl (fun κ sz hk hR hN => ?_)
  have hin7 : ∀ w ∈ u_ws RX7 TX7 1, w ∈ wz_k174_X7_valueOf := fun w h => (List.mem_cons_of_mem _ (List.mem_append_right _ (List.mem_append_left _ h)))
  have hF : FE (fX7_valueOf_3 I A z1) (fX7_valueOf_3 I A z1) := FE.rf
  refine g_iload_n hk dX7_valueOf_0 rfl ?_
  have b10310l := Int32.le_toInt z1
  have b10310h := Int32.toInt_lt z1
  refine g_if_lt (tgt := 22) (a := z1.toInt) hk dX7_valueOf_1 (by decide) rfl (fun c10311 => ?_) (fun c10311 => ?_)
  · skip
    replace hF := FE.pos hF c10311
    refine g_iconst (v := (-1)) hk dX7_valueOf_22 (by decide) ?_
    exact g_iret hk hR rfl ⟨(-1), hF, rfl, rfl⟩ dX7_valueOf_23
  · skip
    replace hF := FE.neg hF c10311
    refine g_iload_n hk dX7_valueOf_4 rfl ?_
    refine g_aload_n hk dX7_valueOf_5 rfl ?_
    refine gX_r27_0 hk hin7 (List.mem_cons_of_mem _ (List.mem_append_left _ (List.mem_of_getElem? (i := 0) rfl))) dX7_valueOf_6 ?_
    refine nX_16 hk dX7_valueOf_9 ?_
    refine g_icmp_ge (tgt := 22) (a := z1.toInt) (b := 4) hk dX7_valueOf_10 (by decide) rfl rfl (fun c10312 => ?_) (fun c10312 => ?_)
    · skip
      replace hF := FE.pos hF c10312
      refine g_iconst (v := (-1)) hk dX7_valueOf_22 (by decide) ?_
      exact g_iret hk hR rfl ⟨(-1), hF, rfl, rfl⟩ dX7_valueOf_23
    · skip
      replace hF := FE.neg hF c10312
      refine g_aload_n hk dX7_valueOf_13 rfl ?_
      refine gX_r27_0 hk hin7 (List.mem_cons_of_mem _ (List.mem_append_left _ (List.mem_of_getElem? (i := 0) rfl))) dX7_valueOf_14 ?_
      refine g_iload_n hk dX7_valueOf_17 rfl ?_
      refine lX_16 (v := (A 16 z1.toNatClampNeg)) hk (vp_in_iff.mpr ⟨by omega, by omega⟩) rfl dX7_valueOf_18 ?_
      refine g_goto (tgt := 23) hk dX7_valueOf_19 (by decide) ?_
      have b10313l := Int32.le_toInt (A 16 z1.toNatClampNeg)
      have b10313h := Int32.toInt_lt (A 16 z1.toNatClampNeg)
      exact g_iret hk hR rfl ⟨(A 16 z1.toNatClampNeg), hF, rfl, rfl⟩ dX7_valueOf_23
noncomputable def bX7_takeFrom_5_2 : (Int32 → (Nat → Int32) → (Nat → Nat → Int32) → (Int32 × (Nat → Int32) × (Nat → Nat → Int32))) → Int32 → (Nat → Int32) → (Nat → Nat → Int32) → (Int32 × (Nat → Int32) × (Nat → Nat → Int32)) := fun kk10330 x10306 I10309 A10309 => if 4 ≤ x10306.toInt then (0, I10309, A10309) else f_lt (fX7_valueOf_3 I10309 A10309 x10306) fun y10333 => f_lt (x10306 + Int32.ofInt 1) fun y10334 => kk10330 y10334 I10309 (up3 A10309 10 (x10306.toNatClampNeg) y10333)
noncomputable def fX7_takeFrom_5 (I : Nat → Int32) (A : Nat → Nat → Int32) : Int32 × (Nat → Int32) × (Nat → Nat → Int32) := itr_iIA dfX (bX7_takeFrom_5_2) FU 0 I A
set_option maxHeartbeats 4000000 in
set_option maxRecDepth 100000 in
theorem k325_X7_takeFrom (l : Launch) (D : va_G) (zt : Nat × Nat × Nat × (Nat → Nat) × (Nat → Nat)) (q : Nat → Nat) (d : Nat → ClassId) (I : Nat → Int32) (A : Nat → Nat → Int32) (hIv : IvX I A) : GM l D zt (tyX d) yX7_takeFrom wz_k173_X7_takeFrom ({ frames := 1, cells := 0, slots := 0, locals := 21 } : Room) [.ref (q 18), .ref (q 27)] (wX q d I A) (fun v _ w' => ∃ (I' : Nat → Int32) (A' : Nat → Nat → Int32), Md [] I I' ∧ Md [10] A A' ∧ IvX I' A' ∧ FE (fX7_takeFrom_5 I A) (0, I', A') ∧ v = none ∧ w' = wX q d I' A') 0 0 := by
  refine GM.of (cc := cX7_takeFrom) (maxL := 3) (ret := none) (own := RX7) (lv := [(0, .ref (q 18)), (1, .ref (q 27))]) (by decide) rfl rfl (Nat.le_of_ble_eq_true rfl) rfl (fun κ sz hk hR hN => ?_)
  have hin7 : ∀ w ∈ u_ws RX7 TX7 1, w ∈ wz_k173_X7_takeFrom := fun w h => (List.mem_cons_of_mem _ (List.mem_append_right _ (List.mem_append_left _ h)))
  have hF : FE (fX7_takeFrom_5 I A) (fX7_takeFrom_5 I A) := FE.rf
  refine g_iconst (v := 0) hk dX7_takeFrom_0 (by decide) ?_
  refine g_istore_n (lv' := [(2, .int 0), (0, .ref (q 18)), (1, .ref (q 27))]) hk dX7_takeFrom_1 (by decide) rfl ?_
  have lp10327 : ∀ (n10328 : Nat) (x10306 : Int32) (I10309 : Nat → Int32) (A10309 : Nat → Nat → Int32), (Md [] I I10309) → (Md [10] A A10309) → (IvX I10309 A10309) → (0 ≤ x10306.toInt) → (x10306.toInt ≤ 4) → (5 - x10306.toInt < (n10328 : Int)) → (0 < n10328) → (FE (fX7_takeFrom_5 I A) (itr_iIA dfX (bX7_takeFrom_5_2) n10328 x10306 I10309 A10309)) → GW κ 3 0 0 (wX q d I10309 A10309) 2 [(2, .int x10306), (0, .ref (q 18)), (1, .ref (q 27))] [] := by
    intro n10328
    induction n10328 with
    | zero =>
      intro x10306 I10309 A10309 hI10309 hA10309 hV10309 h10325 h10326 m10329 m10329z hF
      exact absurd m10329z (Nat.lt_irrefl 0)
    | succ n10328 ih10331 =>
      intro x10306 I10309 A10309 hI10309 hA10309 hV10309 h10325 h10326 m10329 m10329z hF
      replace hF := FE.itr_iIA hF
      refine g_iload_n hk dX7_takeFrom_2 rfl ?_
      refine g_aload_n hk dX7_takeFrom_3 rfl ?_
      refine gX_r18_0 hk hin7 (List.mem_cons_of_mem _ (List.mem_append_left _ (List.mem_of_getElem? (i := 0) rfl))) dX7_takeFrom_4 ?_
      refine nX_10 hk dX7_takeFrom_7 ?_
      refine g_icmp_ge (tgt := 28) (a := x10306.toInt) (b := 4) hk dX7_takeFrom_8 (by decide) rfl rfl (fun c10332 => ?_) (fun c10332 => ?_)
      · skip
        replace hF := FE.pos hF c10332
        exact g_vret hk hR ⟨I10309, A10309, (show Md [] I I10309 from (Md.tr Md.rf hI10309 rfl)), (show Md [10] A A10309 from (Md.tr Md.rf hA10309 rfl)), hV10309, hF, rfl, rfl⟩ dX7_takeFrom_28
      · skip
        replace hF := FE.neg hF c10332
        refine g_aload_n hk dX7_takeFrom_11 rfl ?_
        refine gX_r18_0 hk hin7 (List.mem_cons_of_mem _ (List.mem_append_left _ (List.mem_of_getElem? (i := 0) rfl))) dX7_takeFrom_12 ?_
        refine g_iload_n hk dX7_takeFrom_15 rfl ?_
        refine g_aload_n hk dX7_takeFrom_16 rfl ?_
        refine g_iload_n hk dX7_takeFrom_17 rfl ?_
        refine g_callV (n := 1) hk (k326_X7_valueOf l D zt q d I10309 A10309 x10306 hV10309) (SP.same _) (fun _ h => h) (gi_V (List.mem_cons_of_mem _ (List.mem_append_left _ (List.mem_of_getElem? (i := 1) rfl))) (List.mem_cons_of_mem _ (List.mem_append_left _ (List.mem_of_getElem? (i := 2) rfl))) (List.mem_cons_of_mem _ (List.mem_append_left _ (List.mem_of_getElem? (i := 3) rfl))) (List.mem_cons_of_mem _ (List.mem_append_left _ (List.mem_of_getElem? (i := 4) rfl))) (gi_sub (fun w h => (List.mem_cons_of_mem _ (List.mem_append_right _ (List.mem_append_right _ (List.mem_append_left _ h))))) zg_k174_X7_valueOf)) rfl rfl rfl (by decide +kernel) ⟨Nat.le_of_ble_eq_true rfl, Nat.le_of_ble_eq_true rfl⟩ 27 rfl rfl rfl rfl (Nat.le_of_ble_eq_true rfl) ⟨Nat.le_of_ble_eq_true rfl, Nat.le_of_ble_eq_true rfl⟩ dX7_takeFrom_18 (fun v ty' w' hp hk' => ?_)
        obtain ⟨y10333, hC, rfl, rfl⟩ := hp
        replace hF := FE.lt hF (fe_s hC)
        show GW κ 3 0 0 (wX q d I10309 A10309) 21 [(2, .int x10306), (0, .ref (q 18)), (1, .ref (q 27))] [.int y10333, .int x10306, .ref (q 19)]
        refine sX_10 (j := x10306.toNatClampNeg) hk (vp_in_iff.mpr ⟨by omega, by omega⟩) rfl dX7_takeFrom_21 ?_
        obtain ⟨y10334, ey10334⟩ : ∃ y : Int32, y = x10306 + Int32.ofInt 1 := ⟨_, rfl⟩
        replace hF := FE.lt hF ey10334
        have hy10334 : y10334.toInt = x10306.toInt + 1 := i32_add ey10334 rfl (by decide) (by omega) (by omega)
        refine g_iinc (v := y10334) (lv' := [(2, .int y10334), (0, .ref (q 18)), (1, .ref (q 27))]) hk 0 dX7_takeFrom_22 rfl ey10334.symm (by decide) rfl ?_
        refine g_goto (tgt := 2) hk dX7_takeFrom_25 (by decide) ?_
        exact g_lv (List.forall_mem_cons.mpr ⟨List.mem_of_getElem? (i := 0) rfl, (List.forall_mem_cons.mpr ⟨List.mem_of_getElem? (i := 1) rfl, (List.forall_mem_cons.mpr ⟨List.mem_of_getElem? (i := 2) rfl, (fun _ h => absurd h List.not_mem_nil)⟩)⟩)⟩) (ih10331 y10334 I10309 (up3 A10309 10 (x10306.toNatClampNeg) y10333) (show Md [] I I10309 from Md.tr hI10309 (show Md [] I10309 I10309 from Md.rf) rfl) (show Md [10] A (up3 A10309 10 (x10306.toNatClampNeg) y10333) from Md.tr hA10309 (show Md [10] A10309 (up3 A10309 10 (x10306.toNatClampNeg) y10333) from (Md.up3 Md.rf rfl)) rfl) ⟨(IvX_f0 (I := I10309) (A := A10309) hV10309), (IvX_f18 (I := I10309) (A := A10309) hV10309), (IvX_f30 (I := I10309) (A := A10309) hV10309), (IvX_f31 (I := I10309) (A := A10309) hV10309), (IvX_a4 (I := I10309) (A := A10309) hV10309), (IvX_a9 (I := I10309) (A := A10309) hV10309), trivial⟩ (by omega) (by omega) (by omega) (by omega) hF)
  have k10336 : (0 : Int32).toInt = 0 := rfl
  have n10335a : 5 - 0 < (FU : Int) := by have := FU_eq; omega
  have n10335b : 0 < FU := by have := FU_eq; omega
  exact lp10327 FU 0 I A Md.rf Md.rf hIv (by omega) (by omega) n10335a n10335b hF
noncomputable def fX11_goOnFrom_2 (I : Nat → Int32) (A : Nat → Nat → Int32) : Int32 × (Nat → Int32) × (Nat → Nat → Int32) := f_bdX (fX6_takeFrom_2 I A) fun _ I10305 A10305 => f_bdX (fX7_takeFrom_5 I10305 A10305) fun _ I10338 A10338 => f_bdX (fX3_forget I10338 A10338) fun _ I10340 A10340 => (0, I10340, A10340)
set_option maxHeartbeats 4000000 in
set_option maxRecDepth 100000 in
theorem k322_X11_goOnFrom (l : Launch) (D : va_G) (zt : Nat × Nat × Nat × (Nat → Nat) × (Nat → Nat)) (q : Nat → Nat) (d : Nat → ClassId) (I : Nat → Int32) (A : Nat → Nat → Int32) (hIv : IvX I A) : GM l D zt (tyX d) yX11_goOnFrom wz_k169_X11_goOnFrom ({ frames := 2, cells := 0, slots := 0, locals := 43 } : Room) [.ref (q 0), .ref (q 25)] (wX q d I A) (fun v _ w' => ∃ (I' : Nat → Int32) (A' : Nat → Nat → Int32), Md [17, 18, 21] I I' ∧ Md [7, 10] A A' ∧ IvX I' A' ∧ FE (fX11_goOnFrom_2 I A) (0, I', A') ∧ v = none ∧ w' = wX q d I' A') 0 0 := by
  refine GM.of (cc := cX11_goOnFrom) (maxL := 2) (ret := none) (own := RX11) (lv := [(0, .ref (q 0)), (1, .ref (q 25))]) (by decide) rfl rfl (Nat.le_of_ble_eq_true rfl) rfl (fun κ sz hk hR hN => ?_)
  have hin8 : ∀ w ∈ u_ws RX8 TX8 4, w ∈ wz_k169_X11_goOnFrom := fun w h => (List.mem_cons_of_mem _ (List.mem_append_right _ (List.mem_append_left _ h)))
  have hin11 : ∀ w ∈ u_ws RX11 TX11 10, w ∈ wz_k169_X11_goOnFrom := fun w h => (List.mem_cons_of_mem _ (List.mem_append_right _ (List.mem_append_right _ (List.mem_append_left _ h))))
  have hF : FE (fX11_goOnFrom_2 I A) (fX11_goOnFrom_2 I A) := FE.rf
  refine g_aload_n hk dX11_goOnFrom_0 rfl ?_
  refine gX_r0_2 hk hin11 (List.mem_cons_of_mem _ (List.mem_append_left _ (List.mem_of_getElem? (i := 0) rfl))) dX11_goOnFrom_1 ?_
  refine g_aload_n hk dX11_goOnFrom_4 rfl ?_
  refine g_callV (n := 1) hk (k323_X6_takeFrom l D zt q d I A  hIv) (SP.same _) (fun _ h => h) (gi_V (List.mem_cons_of_mem _ (List.mem_append_left _ (List.mem_of_getElem? (i := 1) rfl))) (List.mem_cons_of_mem _ (List.mem_append_left _ (List.mem_of_getElem? (i := 2) rfl))) (List.mem_cons_of_mem _ (List.mem_append_left _ (List.mem_of_getElem? (i := 3) rfl))) (List.mem_cons_of_mem _ (List.mem_append_left _ (List.mem_of_getElem? (i := 4) rfl))) (gi_sub (fun w h => (List.mem_cons_of_mem _ (List.mem_append_right _ (List.mem_append_right _ (List.mem_append_right _ (List.mem_append_left _ h)))))) zg_k170_X6_takeFrom)) rfl rfl rfl (by decide +kernel) ⟨Nat.le_of_ble_eq_true rfl, Nat.le_of_ble_eq_true rfl⟩ 13 rfl rfl rfl rfl (Nat.le_of_ble_eq_true rfl) ⟨Nat.le_of_ble_eq_true rfl, Nat.le_of_ble_eq_true rfl⟩ dX11_goOnFrom_5 (fun v ty' w' hp hk' => ?_)
  obtain ⟨I10305, A10305, hI10305, hA10305, hV10305, hC, rfl, rfl⟩ := hp
  replace hF := FE.bdX hF hC
  show GW κ 2 0 0 (wX q d I10305 A10305) 8 [(0, .ref (q 0)), (1, .ref (q 25))] []
  refine g_aload_n hk dX11_goOnFrom_8 rfl ?_
  refine gX_r0_4 hk hin11 (List.mem_cons_of_mem _ (List.mem_append_left _ (List.mem_of_getElem? (i := 5) rfl))) dX11_goOnFrom_9 ?_
  refine g_aload_n hk dX11_goOnFrom_12 rfl ?_
  refine gX_r25_2 hk hin8 (List.mem_cons_of_mem _ (List.mem_append_left _ (List.mem_of_getElem? (i := 6) rfl))) dX11_goOnFrom_13 ?_
  refine g_callV (n := 1) hk (k325_X7_takeFrom l D zt q d I10305 A10305  hV10305) (SP.same _) (fun _ h => h) (gi_V (List.mem_cons_of_mem _ (List.mem_append_left _ (List.mem_of_getElem? (i := 7) rfl))) (List.mem_cons_of_mem _ (List.mem_append_left _ (List.mem_of_getElem? (i := 8) rfl))) (List.mem_cons_of_mem _ (List.mem_append_left _ (List.mem_of_getElem? (i := 9) rfl))) (List.mem_cons_of_mem _ (List.mem_append_left _ (List.mem_of_getElem? (i := 10) rfl))) (gi_sub (fun w h => (List.mem_cons_of_mem _ (List.mem_append_right _ (List.mem_append_right _ (List.mem_append_right _ (List.mem_append_right _ (List.mem_append_left _ h))))))) zg_k173_X7_takeFrom)) rfl rfl rfl (by decide +kernel) ⟨Nat.le_of_ble_eq_true rfl, Nat.le_of_ble_eq_true rfl⟩ 18 rfl rfl rfl rfl (Nat.le_of_ble_eq_true rfl) ⟨Nat.le_of_ble_eq_true rfl, Nat.le_of_ble_eq_true rfl⟩ dX11_goOnFrom_16 (fun v ty' w' hp hk' => ?_)
  obtain ⟨I10338, A10338, hI10338, hA10338, hV10338, hC, rfl, rfl⟩ := hp
  replace hF := FE.bdX hF hC
  show GW κ 2 0 0 (wX q d I10338 A10338) 19 [(0, .ref (q 0)), (1, .ref (q 25))] []
  refine g_aload_n hk dX11_goOnFrom_19 rfl ?_
  refine gX_r0_5 hk hin11 (List.mem_cons_of_mem _ (List.mem_append_left _ (List.mem_of_getElem? (i := 11) rfl))) dX11_goOnFrom_20 ?_
  refine g_callV (n := 0) hk (k175_X3_forget l D zt q d I10338 A10338  hV10338) (SP.same _) (fun _ h => h) (gi_V (List.mem_cons_of_mem _ (List.mem_append_left _ (List.mem_of_getElem? (i := 12) rfl))) (List.mem_cons_of_mem _ (List.mem_append_left _ (List.mem_of_getElem? (i := 13) rfl))) (List.mem_cons_of_mem _ (List.mem_append_left _ (List.mem_of_getElem? (i := 14) rfl))) (List.mem_cons_of_mem _ (List.mem_append_left _ (List.mem_of_getElem? (i := 15) rfl))) (gi_sub (fun w h => (List.mem_cons_of_mem _ (List.mem_append_right _ (List.mem_append_right _ (List.mem_append_right _ (List.mem_append_right _ (List.mem_append_right _ (List.mem_append_left _ h)))))))) zg_k175_X3_forget)) rfl rfl rfl (by decide +kernel) ⟨Nat.le_of_ble_eq_true rfl, Nat.le_of_ble_eq_true rfl⟩ 20 rfl rfl rfl rfl (Nat.le_of_ble_eq_true rfl) ⟨Nat.le_of_ble_eq_true rfl, Nat.le_of_ble_eq_true rfl⟩ dX11_goOnFrom_23 (fun v ty' w' hp hk' => ?_)
  obtain ⟨I10340, A10340, hI10340, hA10340, hV10340, hC, rfl, rfl⟩ := hp
  replace hF := FE.bdX hF hC
  show GW κ 2 0 0 (wX q d I10340 A10340) 26 [(0, .ref (q 0)), (1, .ref (q 25))] []
  exact g_vret hk hR ⟨I10340, A10340, (show Md [17, 18, 21] I I10340 from (Md.tr (Md.tr (Md.tr Md.rf hI10305 rfl) hI10338 rfl) hI10340 rfl)), (show Md [7, 10] A A10340 from (Md.tr (Md.tr (Md.tr Md.rf hA10305 rfl) hA10338 rfl) hA10340 rfl)), hV10340, hF, rfl, rfl⟩ dX11_goOnFrom_26
noncomputable def fX8_valueAt_3 (I : Nat → Int32) (A : Nat → Nat → Int32) (z1 : Int32) : Int32 := if z1.toInt < 0 then (-1000) else if (I 24).toInt ≤ z1.toInt then (-1000) else if 160 ≤ z1.toInt then (-1000) else (A 17 z1.toNatClampNeg)
set_option maxHeartbeats 4000000 in
set_option maxRecDepth 100000 in
theorem k329_X8_valueAt (l : Launch) (D : va_G) (zt : Nat × Nat × Nat × (Nat → Nat) × (Nat → Nat)) (q : Nat → Nat) (d : Nat → ClassId) (I : Nat → Int32) (A : Nat → Nat → Int32) (z1 : Int32) (hIv : IvX I A) : GM l D zt (tyX d) yX8_valueAt wz_k171_X8_valueAt ({ frames := 0, cells := 0, slots := 0, locals := 0 } : Room) [.ref (q 29), .int z1] (wX q d I A) (fun v _ w' => ∃ y0 : Int32, FE (fX8_valueAt_3 I A z1) y0 ∧ v = some (.int y0) ∧ w' = wX q d I A) 0 0 := by
  refine GM.of (cc := cX8_valueAt) (maxL := 2) (ret := (some .int)) (own := RX8) (lv := [(0, .ref (q 29)), (1, .int z1)]) (by decide) rfl rfl (Nat.le_of_ble_eq_true rfl) rfl (fun κ sz hk hR hN => ?_)
  have hin8 : ∀ w ∈ u_ws RX8 TX8 4, w ∈ wz_k171_X8_valueAt := fun w h => (List.mem_cons_of_mem _ (List.mem_append_right _ (List.mem_append_left _ h)))
  have hF : FE (fX8_valueAt_3 I A z1) (fX8_valueAt_3 I A z1) := FE.rf
  refine g_iload_n hk dX8_valueAt_0 rfl ?_
  have b10352l := Int32.le_toInt z1
  have b10352h := Int32.toInt_lt z1
  refine g_if_lt (tgt := 30) (a := z1.toInt) hk dX8_valueAt_1 (by decide) rfl (fun c10353 => ?_) (fun c10353 => ?_)
  · skip
    replace hF := FE.pos hF c10353
    refine g_sipush (v := (-1000)) hk dX8_valueAt_30 (by decide) ?_
    exact g_iret hk hR rfl ⟨(-1000), hF, rfl, rfl⟩ dX8_valueAt_33
  · skip
    replace hF := FE.neg hF c10353
    refine g_iload_n hk dX8_valueAt_4 rfl ?_
    refine g_aload_n hk dX8_valueAt_5 rfl ?_
    refine gX_i24 (v := (I 24)) hk hin8 (List.mem_cons_of_mem _ (List.mem_append_left _ (List.mem_of_getElem? (i := 0) rfl))) dX8_valueAt_6 rfl ?_
    have b10354l := Int32.le_toInt (I 24)
    have b10354h := Int32.toInt_lt (I 24)
    refine g_icmp_ge (tgt := 30) (a := z1.toInt) (b := (I 24).toInt) hk dX8_valueAt_9 (by decide) rfl rfl (fun c10355 => ?_) (fun c10355 => ?_)
    · skip
      replace hF := FE.pos hF c10355
      refine g_sipush (v := (-1000)) hk dX8_valueAt_30 (by decide) ?_
      exact g_iret hk hR rfl ⟨(-1000), hF, rfl, rfl⟩ dX8_valueAt_33
    · skip
      replace hF := FE.neg hF c10355
      refine g_iload_n hk dX8_valueAt_12 rfl ?_
      refine g_aload_n hk dX8_valueAt_13 rfl ?_
      refine gX_r29_0 hk hin8 (List.mem_cons_of_mem _ (List.mem_append_left _ (List.mem_of_getElem? (i := 1) rfl))) dX8_valueAt_14 ?_
      refine nX_17 hk dX8_valueAt_17 ?_
      refine g_icmp_ge (tgt := 30) (a := z1.toInt) (b := 160) hk dX8_valueAt_18 (by decide) rfl rfl (fun c10356 => ?_) (fun c10356 => ?_)
      · skip
        replace hF := FE.pos hF c10356
        refine g_sipush (v := (-1000)) hk dX8_valueAt_30 (by decide) ?_
        exact g_iret hk hR rfl ⟨(-1000), hF, rfl, rfl⟩ dX8_valueAt_33
      · skip
        replace hF := FE.neg hF c10356
        refine g_aload_n hk dX8_valueAt_21 rfl ?_
        refine gX_r29_0 hk hin8 (List.mem_cons_of_mem _ (List.mem_append_left _ (List.mem_of_getElem? (i := 1) rfl))) dX8_valueAt_22 ?_
        refine g_iload_n hk dX8_valueAt_25 rfl ?_
        refine lX_17 (v := (A 17 z1.toNatClampNeg)) hk (vp_in_iff.mpr ⟨by omega, by omega⟩) rfl dX8_valueAt_26 ?_
        refine g_goto (tgt := 33) hk dX8_valueAt_27 (by decide) ?_
        have b10357l := Int32.le_toInt (A 17 z1.toNatClampNeg)
        have b10357h := Int32.toInt_lt (A 17 z1.toNatClampNeg)
        exact g_iret hk hR rfl ⟨(A 17 z1.toNatClampNeg), hF, rfl, rfl⟩ dX8_valueAt_33
noncomputable def bX6_takeFrom_3_12 (I : Nat → Int32) : (Int32 → (Nat → Int32) → (Nat → Nat → Int32) → (Int32 × (Nat → Int32) × (Nat → Nat → Int32))) → Int32 → (Nat → Int32) → (Nat → Nat → Int32) → (Int32 × (Nat → Int32) × (Nat → Nat → Int32)) := fun kk10385 x10346 I10349 A10349 => if (I 24).toInt ≤ x10346.toInt then (0, I10349, A10349) else f_lt (fX8_valueAt_3 I10349 A10349 x10346) fun y10390 => f_bdX (fX6_append I10349 A10349 y10390) fun y10391 I10394 A10394 => f_lt (x10346 + Int32.ofInt 1) fun y10395 => kk10385 y10395 I10394 A10394
noncomputable def fX6_takeFrom_3 (I : Nat → Int32) (A : Nat → Nat → Int32) : Int32 × (Nat → Int32) × (Nat → Nat → Int32) := itr_iIA dfX (bX6_takeFrom_3_12 I) FU 0 (upd (upd I 17 0) 18 0) A
set_option maxHeartbeats 4000000 in
set_option maxRecDepth 100000 in
theorem k328_X6_takeFrom (l : Launch) (D : va_G) (zt : Nat × Nat × Nat × (Nat → Nat) × (Nat → Nat)) (q : Nat → Nat) (d : Nat → ClassId) (I : Nat → Int32) (A : Nat → Nat → Int32) (hIv : IvX I A) : GM l D zt (tyX d) yX6_takeFrom wz_k170_X6_takeFrom ({ frames := 1, cells := 0, slots := 0, locals := 21 } : Room) [.ref (q 13), .ref (q 29)] (wX q d I A) (fun v _ w' => ∃ (I' : Nat → Int32) (A' : Nat → Nat → Int32), Md [17, 18] I I' ∧ Md [7] A A' ∧ IvX I' A' ∧ FE (fX6_takeFrom_3 I A) (0, I', A') ∧ v = none ∧ w' = wX q d I' A') 0 0 := by
  refine GM.of (cc := cX6_takeFrom) (maxL := 3) (ret := none) (own := RX6) (lv := [(0, .ref (q 13)), (1, .ref (q 29))]) (by decide) rfl rfl (Nat.le_of_ble_eq_true rfl) rfl (fun κ sz hk hR hN => ?_)
  have hin6 : ∀ w ∈ u_ws RX6 TX6 3, w ∈ wz_k170_X6_takeFrom := fun w h => (List.mem_cons_of_mem _ (List.mem_append_right _ (List.mem_append_left _ h)))
  have hin8 : ∀ w ∈ u_ws RX8 TX8 4, w ∈ wz_k170_X6_takeFrom := fun w h => (List.mem_cons_of_mem _ (List.mem_append_right _ (List.mem_append_right _ (List.mem_append_left _ h))))
  have hF : FE (fX6_takeFrom_3 I A) (fX6_takeFrom_3 I A) := FE.rf
  refine g_aload_n hk dX6_takeFrom_0 rfl ?_
  refine g_iconst (v := 0) hk dX6_takeFrom_1 (by decide) ?_
  refine pX_i17 hk hin6 (List.mem_cons_of_mem _ (List.mem_append_left _ (List.mem_of_getElem? (i := 0) rfl))) dX6_takeFrom_2 ?_
  refine g_aload_n hk dX6_takeFrom_5 rfl ?_
  refine g_iconst (v := 0) hk dX6_takeFrom_6 (by decide) ?_
  refine pX_i18 hk hin6 (List.mem_cons_of_mem _ (List.mem_append_left _ (List.mem_of_getElem? (i := 1) rfl))) dX6_takeFrom_7 ?_
  refine g_iconst (v := 0) hk dX6_takeFrom_10 (by decide) ?_
  refine g_istore_n (lv' := [(2, .int 0), (0, .ref (q 13)), (1, .ref (q 29))]) hk dX6_takeFrom_11 (by decide) rfl ?_
  have lp10382 : ∀ (n10383 : Nat) (x10346 : Int32) (I10349 : Nat → Int32) (A10349 : Nat → Nat → Int32), (Md [17, 18] (upd (upd I 17 0) 18 0) I10349) → (Md [7] A A10349) → (IvX I10349 A10349) → (0 ≤ x10346.toInt) → ((I 24).toInt + 1 - x10346.toInt < (n10383 : Int)) → (0 < n10383) → (FE (fX6_takeFrom_3 I A) (itr_iIA dfX (bX6_takeFrom_3_12 I) n10383 x10346 I10349 A10349)) → GW κ 3 0 0 (wX q d I10349 A10349) 12 [(2, .int x10346), (0, .ref (q 13)), (1, .ref (q 29))] [] := by
    intro n10383
    induction n10383 with
    | zero =>
      intro x10346 I10349 A10349 hI10349 hA10349 hV10349 h10381 m10384 m10384z hF
      exact absurd m10384z (Nat.lt_irrefl 0)
    | succ n10383 ih10386 =>
      intro x10346 I10349 A10349 hI10349 hA10349 hV10349 h10381 m10384 m10384z hF
      replace hF := FE.itr_iIA hF
      refine g_iload_n hk dX6_takeFrom_12 rfl ?_
      refine g_aload_n hk dX6_takeFrom_13 rfl ?_
      refine gX_i24 (v := (I 24)) hk hin8 (List.mem_cons_of_mem _ (List.mem_append_left _ (List.mem_of_getElem? (i := 2) rfl))) dX6_takeFrom_14 (hI10349 24 rfl) ?_
      have b10387l := Int32.le_toInt x10346
      have b10387h := Int32.toInt_lt x10346
      have b10388l := Int32.le_toInt (I 24)
      have b10388h := Int32.toInt_lt (I 24)
      refine g_icmp_ge (tgt := 36) (a := x10346.toInt) (b := (I 24).toInt) hk dX6_takeFrom_17 (by decide) rfl rfl (fun c10389 => ?_) (fun c10389 => ?_)
      · skip
        replace hF := FE.pos hF c10389
        exact g_vret hk hR ⟨I10349, A10349, (show Md [17, 18] I I10349 from (Md.tr (Md.up (Md.up Md.rf rfl) rfl) hI10349 rfl)), (show Md [7] A A10349 from (Md.tr Md.rf hA10349 rfl)), hV10349, hF, rfl, rfl⟩ dX6_takeFrom_36
      · skip
        replace hF := FE.neg hF c10389
        refine g_aload_n hk dX6_takeFrom_20 rfl ?_
        refine g_aload_n hk dX6_takeFrom_21 rfl ?_
        refine g_iload_n hk dX6_takeFrom_22 rfl ?_
        refine g_callV (n := 1) hk (k329_X8_valueAt l D zt q d I10349 A10349 x10346 hV10349) (SP.same _) (fun _ h => h) (gi_V (List.mem_cons_of_mem _ (List.mem_append_left _ (List.mem_of_getElem? (i := 3) rfl))) (List.mem_cons_of_mem _ (List.mem_append_left _ (List.mem_of_getElem? (i := 4) rfl))) (List.mem_cons_of_mem _ (List.mem_append_left _ (List.mem_of_getElem? (i := 5) rfl))) (List.mem_cons_of_mem _ (List.mem_append_left _ (List.mem_of_getElem? (i := 6) rfl))) (gi_sub (fun w h => (List.mem_cons_of_mem _ (List.mem_append_right _ (List.mem_append_right _ (List.mem_append_right _ (List.mem_append_left _ h)))))) zg_k171_X8_valueAt)) rfl rfl rfl (by decide +kernel) ⟨Nat.le_of_ble_eq_true rfl, Nat.le_of_ble_eq_true rfl⟩ 29 rfl rfl rfl rfl (Nat.le_of_ble_eq_true rfl) ⟨Nat.le_of_ble_eq_true rfl, Nat.le_of_ble_eq_true rfl⟩ dX6_takeFrom_23 (fun v ty' w' hp hk' => ?_)
        obtain ⟨y10390, hC, rfl, rfl⟩ := hp
        replace hF := FE.lt hF (fe_s hC)
        show GW κ 3 0 0 (wX q d I10349 A10349) 26 [(2, .int x10346), (0, .ref (q 13)), (1, .ref (q 29))] [.int y10390, .ref (q 13)]
        refine g_callV (n := 1) hk (k172_X6_append l D zt q d I10349 A10349 y10390 hV10349) (SP.same _) (fun _ h => h) (gi_V (List.mem_cons_of_mem _ (List.mem_append_left _ (List.mem_of_getElem? (i := 7) rfl))) (List.mem_cons_of_mem _ (List.mem_append_left _ (List.mem_of_getElem? (i := 8) rfl))) (List.mem_cons_of_mem _ (List.mem_append_left _ (List.mem_of_getElem? (i := 9) rfl))) (List.mem_cons_of_mem _ (List.mem_append_left _ (List.mem_of_getElem? (i := 10) rfl))) (gi_sub (fun w h => (List.mem_cons_of_mem _ (List.mem_append_right _ (List.mem_append_right _ (List.mem_append_right _ (List.mem_append_right _ (List.mem_append_left _ h))))))) zg_k172_X6_append)) rfl rfl rfl (by decide +kernel) ⟨Nat.le_of_ble_eq_true rfl, Nat.le_of_ble_eq_true rfl⟩ 13 rfl rfl rfl rfl (Nat.le_of_ble_eq_true rfl) ⟨Nat.le_of_ble_eq_true rfl, Nat.le_of_ble_eq_true rfl⟩ dX6_takeFrom_26 (fun v ty' w' hp hk' => ?_)
        obtain ⟨I10394, A10394, hI10394, hA10394, hV10394, y10391, c10392, c10393, hC, rfl, rfl⟩ := hp
        replace hF := FE.bdX hF hC
        show GW κ 3 0 0 (wX q d I10394 A10394) 29 [(2, .int x10346), (0, .ref (q 13)), (1, .ref (q 29))] [.int y10391]
        refine g_pop hk dX6_takeFrom_29 rfl ?_
        obtain ⟨y10395, ey10395⟩ : ∃ y : Int32, y = x10346 + Int32.ofInt 1 := ⟨_, rfl⟩
        replace hF := FE.lt hF ey10395
        have hy10395 : y10395.toInt = x10346.toInt + 1 := i32_add ey10395 rfl (by decide) (by omega) (by omega)
        refine g_iinc (v := y10395) (lv' := [(2, .int y10395), (0, .ref (q 13)), (1, .ref (q 29))]) hk 0 dX6_takeFrom_30 rfl ey10395.symm (by decide) rfl ?_
        refine g_goto (tgt := 12) hk dX6_takeFrom_33 (by decide) ?_
        exact g_lv (List.forall_mem_cons.mpr ⟨List.mem_of_getElem? (i := 0) rfl, (List.forall_mem_cons.mpr ⟨List.mem_of_getElem? (i := 1) rfl, (List.forall_mem_cons.mpr ⟨List.mem_of_getElem? (i := 2) rfl, (fun _ h => absurd h List.not_mem_nil)⟩)⟩)⟩) (ih10386 y10395 I10394 A10394 (show Md [17, 18] (upd (upd I 17 0) 18 0) I10394 from Md.tr hI10349 (show Md [17, 18] I10349 I10394 from (Md.tr Md.rf hI10394 rfl)) rfl) (show Md [7] A A10394 from Md.tr hA10349 (show Md [7] A10349 A10394 from (Md.tr Md.rf hA10394 rfl)) rfl) hV10394 (by omega) (by omega) (by omega) hF)
  have k10397 : (0 : Int32).toInt = 0 := rfl
  have b10398 := Int32.le_toInt (I 24)
  have b10399 := Int32.toInt_lt (I 24)
  have n10396a : (I 24).toInt + 1 - 0 < (FU : Int) := by have := FU_eq; omega
  have n10396b : 0 < FU := by have := FU_eq; omega
  exact lp10382 FU 0 (upd (upd I 17 0) 18 0) A Md.rf Md.rf ⟨(IvX_f0 (I := I) (A := A) hIv), (show 0 ≤ (0 : Int32).toInt ∧ (0 : Int32).toInt ≤ 160 from ⟨by decide, by decide⟩), (IvX_f30 (I := I) (A := A) hIv), (IvX_f31 (I := I) (A := A) hIv), (IvX_a4 (I := I) (A := A) hIv), (IvX_a9 (I := I) (A := A) hIv), trivial⟩ (by omega) n10396a n10396b hF
noncomputable def fX7_valueOf_4 (I : Nat → Int32) (A : Nat → Nat → Int32) (z1 : Int32) : Int32 := if z1.toInt < 0 then (-1) else if 4 ≤ z1.toInt then (-1) else (A 18 z1.toNatClampNeg)
set_option maxHeartbeats 4000000 in
set_option maxRecDepth 100000 in
theorem k331_X7_valueOf (l : Launch) (D : va_G) (zt : Nat × Nat × Nat × (Nat → Nat) × (Nat → Nat)) (q : Nat → Nat) (d : Nat → ClassId) (I : Nat → Int32) (A : Nat → Nat → Int32) (z1 : Int32) (hIv : IvX I A) : GM l D zt (tyX d) yX7_valueOf wz_k174_X7_valueOf ({ frames := 0, cells := 0, slots := 0, locals := 0 } : Room) [.ref (q 31), .int z1] (wX q d I A) (fun v _ w' => ∃ y0 : Int32, FE (fX7_valueOf_4 I A z1) y0 ∧ v = some (.int y0) ∧ w' = wX q d I A) 0 0 := by
  refine GM.of (cc := cX7_valueOf) (maxL := 2) (ret := (some .int)) (own := RX7) (lv := [(0, .ref (q 31)), (1, .int z1)]) (by decide) rfl rfl (Nat.le_of_ble_eq_true rfl) rfl (fun κ sz hk hR hN => ?_)
  have hin7 : ∀ w ∈ u_ws RX7 TX7 1, w ∈ wz_k174_X7_valueOf := fun w h => (List.mem_cons_of_mem _ (List.mem_append_right _ (List.mem_append_left _ h)))
  have hF : FE (fX7_valueOf_4 I A z1) (fX7_valueOf_4 I A z1) := FE.rf
  refine g_iload_n hk dX7_valueOf_0 rfl ?_
  have b10406l := Int32.le_toInt z1
  have b10406h := Int32.toInt_lt z1
  refine g_if_lt (tgt := 22) (a := z1.toInt) hk dX7_valueOf_1 (by decide) rfl (fun c10407 => ?_) (fun c10407 => ?_)
  · skip
    replace hF := FE.pos hF c10407
    refine g_iconst (v := (-1)) hk dX7_valueOf_22 (by decide) ?_
    exact g_iret hk hR rfl ⟨(-1), hF, rfl, rfl⟩ dX7_valueOf_23
  · skip
    replace hF := FE.neg hF c10407
    refine g_iload_n hk dX7_valueOf_4 rfl ?_
    refine g_aload_n hk dX7_valueOf_5 rfl ?_
    refine gX_r31_0 hk hin7 (List.mem_cons_of_mem _ (List.mem_append_left _ (List.mem_of_getElem? (i := 0) rfl))) dX7_valueOf_6 ?_
    refine nX_18 hk dX7_valueOf_9 ?_
    refine g_icmp_ge (tgt := 22) (a := z1.toInt) (b := 4) hk dX7_valueOf_10 (by decide) rfl rfl (fun c10408 => ?_) (fun c10408 => ?_)
    · skip
      replace hF := FE.pos hF c10408
      refine g_iconst (v := (-1)) hk dX7_valueOf_22 (by decide) ?_
      exact g_iret hk hR rfl ⟨(-1), hF, rfl, rfl⟩ dX7_valueOf_23
    · skip
      replace hF := FE.neg hF c10408
      refine g_aload_n hk dX7_valueOf_13 rfl ?_
      refine gX_r31_0 hk hin7 (List.mem_cons_of_mem _ (List.mem_append_left _ (List.mem_of_getElem? (i := 0) rfl))) dX7_valueOf_14 ?_
      refine g_iload_n hk dX7_valueOf_17 rfl ?_
      refine lX_18 (v := (A 18 z1.toNatClampNeg)) hk (vp_in_iff.mpr ⟨by omega, by omega⟩) rfl dX7_valueOf_18 ?_
      refine g_goto (tgt := 23) hk dX7_valueOf_19 (by decide) ?_
      have b10409l := Int32.le_toInt (A 18 z1.toNatClampNeg)
      have b10409h := Int32.toInt_lt (A 18 z1.toNatClampNeg)
      exact g_iret hk hR rfl ⟨(A 18 z1.toNatClampNeg), hF, rfl, rfl⟩ dX7_valueOf_23
noncomputable def bX7_takeFrom_6_2 : (Int32 → (Nat → Int32) → (Nat → Nat → Int32) → (Int32 × (Nat → Int32) × (Nat → Nat → Int32))) → Int32 → (Nat → Int32) → (Nat → Nat → Int32) → (Int32 × (Nat → Int32) × (Nat → Nat → Int32)) := fun kk10426 x10402 I10405 A10405 => if 4 ≤ x10402.toInt then (0, I10405, A10405) else f_lt (fX7_valueOf_4 I10405 A10405 x10402) fun y10429 => f_lt (x10402 + Int32.ofInt 1) fun y10430 => kk10426 y10430 I10405 (up3 A10405 10 (x10402.toNatClampNeg) y10429)
noncomputable def fX7_takeFrom_6 (I : Nat → Int32) (A : Nat → Nat → Int32) : Int32 × (Nat → Int32) × (Nat → Nat → Int32) := itr_iIA dfX (bX7_takeFrom_6_2) FU 0 I A
set_option maxHeartbeats 4000000 in
set_option maxRecDepth 100000 in
theorem k330_X7_takeFrom (l : Launch) (D : va_G) (zt : Nat × Nat × Nat × (Nat → Nat) × (Nat → Nat)) (q : Nat → Nat) (d : Nat → ClassId) (I : Nat → Int32) (A : Nat → Nat → Int32) (hIv : IvX I A) : GM l D zt (tyX d) yX7_takeFrom wz_k173_X7_takeFrom ({ frames := 1, cells := 0, slots := 0, locals := 21 } : Room) [.ref (q 18), .ref (q 31)] (wX q d I A) (fun v _ w' => ∃ (I' : Nat → Int32) (A' : Nat → Nat → Int32), Md [] I I' ∧ Md [10] A A' ∧ IvX I' A' ∧ FE (fX7_takeFrom_6 I A) (0, I', A') ∧ v = none ∧ w' = wX q d I' A') 0 0 := by
  refine GM.of (cc := cX7_takeFrom) (maxL := 3) (ret := none) (own := RX7) (lv := [(0, .ref (q 18)), (1, .ref (q 31))]) (by decide) rfl rfl (Nat.le_of_ble_eq_true rfl) rfl (fun κ sz hk hR hN => ?_)
  have hin7 : ∀ w ∈ u_ws RX7 TX7 1, w ∈ wz_k173_X7_takeFrom := fun w h => (List.mem_cons_of_mem _ (List.mem_append_right _ (List.mem_append_left _ h)))
  have hF : FE (fX7_takeFrom_6 I A) (fX7_takeFrom_6 I A) := FE.rf
  refine g_iconst (v := 0) hk dX7_takeFrom_0 (by decide) ?_
  refine g_istore_n (lv' := [(2, .int 0), (0, .ref (q 18)), (1, .ref (q 31))]) hk dX7_takeFrom_1 (by decide) rfl ?_
  have lp10423 : ∀ (n10424 : Nat) (x10402 : Int32) (I10405 : Nat → Int32) (A10405 : Nat → Nat → Int32), (Md [] I I10405) → (Md [10] A A10405) → (IvX I10405 A10405) → (0 ≤ x10402.toInt) → (x10402.toInt ≤ 4) → (5 - x10402.toInt < (n10424 : Int)) → (0 < n10424) → (FE (fX7_takeFrom_6 I A) (itr_iIA dfX (bX7_takeFrom_6_2) n10424 x10402 I10405 A10405)) → GW κ 3 0 0 (wX q d I10405 A10405) 2 [(2, .int x10402), (0, .ref (q 18)), (1, .ref (q 31))] [] := by
    intro n10424
    induction n10424 with
    | zero =>
      intro x10402 I10405 A10405 hI10405 hA10405 hV10405 h10421 h10422 m10425 m10425z hF
      exact absurd m10425z (Nat.lt_irrefl 0)
    | succ n10424 ih10427 =>
      intro x10402 I10405 A10405 hI10405 hA10405 hV10405 h10421 h10422 m10425 m10425z hF
      replace hF := FE.itr_iIA hF
      refine g_iload_n hk dX7_takeFrom_2 rfl ?_
      refine g_aload_n hk dX7_takeFrom_3 rfl ?_
      refine gX_r18_0 hk hin7 (List.mem_cons_of_mem _ (List.mem_append_left _ (List.mem_of_getElem? (i := 0) rfl))) dX7_takeFrom_4 ?_
      refine nX_10 hk dX7_takeFrom_7 ?_
      refine g_icmp_ge (tgt := 28) (a := x10402.toInt) (b := 4) hk dX7_takeFrom_8 (by decide) rfl rfl (fun c10428 => ?_) (fun c10428 => ?_)
      · skip
        replace hF := FE.pos hF c10428
        exact g_vret hk hR ⟨I10405, A10405, (show Md [] I I10405 from (Md.tr Md.rf hI10405 rfl)), (show Md [10] A A10405 from (Md.tr Md.rf hA10405 rfl)), hV10405, hF, rfl, rfl⟩ dX7_takeFrom_28
      · skip
        replace hF := FE.neg hF c10428
        refine g_aload_n hk dX7_takeFrom_11 rfl ?_
        refine gX_r18_0 hk hin7 (List.mem_cons_of_mem _ (List.mem_append_left _ (List.mem_of_getElem? (i := 0) rfl))) dX7_takeFrom_12 ?_
        refine g_iload_n hk dX7_takeFrom_15 rfl ?_
        refine g_aload_n hk dX7_takeFrom_16 rfl ?_
        refine g_iload_n hk dX7_takeFrom_17 rfl ?_
        refine g_callV (n := 1) hk (k331_X7_valueOf l D zt q d I10405 A10405 x10402 hV10405) (SP.same _) (fun _ h => h) (gi_V (List.mem_cons_of_mem _ (List.mem_append_left _ (List.mem_of_getElem? (i := 1) rfl))) (List.mem_cons_of_mem _ (List.mem_append_left _ (List.mem_of_getElem? (i := 2) rfl))) (List.mem_cons_of_mem _ (List.mem_append_left _ (List.mem_of_getElem? (i := 3) rfl))) (List.mem_cons_of_mem _ (List.mem_append_left _ (List.mem_of_getElem? (i := 4) rfl))) (gi_sub (fun w h => (List.mem_cons_of_mem _ (List.mem_append_right _ (List.mem_append_right _ (List.mem_append_left _ h))))) zg_k174_X7_valueOf)) rfl rfl rfl (by decide +kernel) ⟨Nat.le_of_ble_eq_true rfl, Nat.le_of_ble_eq_true rfl⟩ 31 rfl rfl rfl rfl (Nat.le_of_ble_eq_true rfl) ⟨Nat.le_of_ble_eq_true rfl, Nat.le_of_ble_eq_true rfl⟩ dX7_takeFrom_18 (fun v ty' w' hp hk' => ?_)
        obtain ⟨y10429, hC, rfl, rfl⟩ := hp
        replace hF := FE.lt hF (fe_s hC)
        show GW κ 3 0 0 (wX q d I10405 A10405) 21 [(2, .int x10402), (0, .ref (q 18)), (1, .ref (q 31))] [.int y10429, .int x10402, .ref (q 19)]
        refine sX_10 (j := x10402.toNatClampNeg) hk (vp_in_iff.mpr ⟨by omega, by omega⟩) rfl dX7_takeFrom_21 ?_
        obtain ⟨y10430, ey10430⟩ : ∃ y : Int32, y = x10402 + Int32.ofInt 1 := ⟨_, rfl⟩
        replace hF := FE.lt hF ey10430
        have hy10430 : y10430.toInt = x10402.toInt + 1 := i32_add ey10430 rfl (by decide) (by omega) (by omega)
        refine g_iinc (v := y10430) (lv' := [(2, .int y10430), (0, .ref (q 18)), (1, .ref (q 31))]) hk 0 dX7_takeFrom_22 rfl ey10430.symm (by decide) rfl ?_
        refine g_goto (tgt := 2) hk dX7_takeFrom_25 (by decide) ?_
        exact g_lv (List.forall_mem_cons.mpr ⟨List.mem_of_getElem? (i := 0) rfl, (List.forall_mem_cons.mpr ⟨List.mem_of_getElem? (i := 1) rfl, (List.forall_mem_cons.mpr ⟨List.mem_of_getElem? (i := 2) rfl, (fun _ h => absurd h List.not_mem_nil)⟩)⟩)⟩) (ih10427 y10430 I10405 (up3 A10405 10 (x10402.toNatClampNeg) y10429) (show Md [] I I10405 from Md.tr hI10405 (show Md [] I10405 I10405 from Md.rf) rfl) (show Md [10] A (up3 A10405 10 (x10402.toNatClampNeg) y10429) from Md.tr hA10405 (show Md [10] A10405 (up3 A10405 10 (x10402.toNatClampNeg) y10429) from (Md.up3 Md.rf rfl)) rfl) ⟨(IvX_f0 (I := I10405) (A := A10405) hV10405), (IvX_f18 (I := I10405) (A := A10405) hV10405), (IvX_f30 (I := I10405) (A := A10405) hV10405), (IvX_f31 (I := I10405) (A := A10405) hV10405), (IvX_a4 (I := I10405) (A := A10405) hV10405), (IvX_a9 (I := I10405) (A := A10405) hV10405), trivial⟩ (by omega) (by omega) (by omega) (by omega) hF)
  have k10432 : (0 : Int32).toInt = 0 := rfl
  have n10431a : 5 - 0 < (FU : Int) := by have := FU_eq; omega
  have n10431b : 0 < FU := by have := FU_eq; omega
  exact lp10423 FU 0 I A Md.rf Md.rf hIv (by omega) (by omega) n10431a n10431b hF
noncomputable def fX11_goOnFrom_3 (I : Nat → Int32) (A : Nat → Nat → Int32) : Int32 × (Nat → Int32) × (Nat → Nat → Int32) := f_bdX (fX6_takeFrom_3 I A) fun _ I10401 A10401 => f_bdX (fX7_takeFrom_6 I10401 A10401) fun _ I10434 A10434 => f_bdX (fX3_forget I10434 A10434) fun _ I10436 A10436 => (0, I10436, A10436)
set_option maxHeartbeats 4000000 in
set_option maxRecDepth 100000 in
theorem k327_X11_goOnFrom (l : Launch) (D : va_G) (zt : Nat × Nat × Nat × (Nat → Nat) × (Nat → Nat)) (q : Nat → Nat) (d : Nat → ClassId) (I : Nat → Int32) (A : Nat → Nat → Int32) (hIv : IvX I A) : GM l D zt (tyX d) yX11_goOnFrom wz_k169_X11_goOnFrom ({ frames := 2, cells := 0, slots := 0, locals := 43 } : Room) [.ref (q 0), .ref (q 29)] (wX q d I A) (fun v _ w' => ∃ (I' : Nat → Int32) (A' : Nat → Nat → Int32), Md [17, 18, 21] I I' ∧ Md [7, 10] A A' ∧ IvX I' A' ∧ FE (fX11_goOnFrom_3 I A) (0, I', A') ∧ v = none ∧ w' = wX q d I' A') 0 0 := by
  refine GM.of (cc := cX11_goOnFrom) (maxL := 2) (ret := none) (own := RX11) (lv := [(0, .ref (q 0)), (1, .ref (q 29))]) (by decide) rfl rfl (Nat.le_of_ble_eq_true rfl) rfl (fun κ sz hk hR hN => ?_)
  have hin8 : ∀ w ∈ u_ws RX8 TX8 4, w ∈ wz_k169_X11_goOnFrom := fun w h => (List.mem_cons_of_mem _ (List.mem_append_right _ (List.mem_append_left _ h)))
  have hin11 : ∀ w ∈ u_ws RX11 TX11 10, w ∈ wz_k169_X11_goOnFrom := fun w h => (List.mem_cons_of_mem _ (List.mem_append_right _ (List.mem_append_right _ (List.mem_append_left _ h))))
  have hF : FE (fX11_goOnFrom_3 I A) (fX11_goOnFrom_3 I A) := FE.rf
  refine g_aload_n hk dX11_goOnFrom_0 rfl ?_
  refine gX_r0_2 hk hin11 (List.mem_cons_of_mem _ (List.mem_append_left _ (List.mem_of_getElem? (i := 0) rfl))) dX11_goOnFrom_1 ?_
  refine g_aload_n hk dX11_goOnFrom_4 rfl ?_
  refine g_callV (n := 1) hk (k328_X6_takeFrom l D zt q d I A  hIv) (SP.same _) (fun _ h => h) (gi_V (List.mem_cons_of_mem _ (List.mem_append_left _ (List.mem_of_getElem? (i := 1) rfl))) (List.mem_cons_of_mem _ (List.mem_append_left _ (List.mem_of_getElem? (i := 2) rfl))) (List.mem_cons_of_mem _ (List.mem_append_left _ (List.mem_of_getElem? (i := 3) rfl))) (List.mem_cons_of_mem _ (List.mem_append_left _ (List.mem_of_getElem? (i := 4) rfl))) (gi_sub (fun w h => (List.mem_cons_of_mem _ (List.mem_append_right _ (List.mem_append_right _ (List.mem_append_right _ (List.mem_append_left _ h)))))) zg_k170_X6_takeFrom)) rfl rfl rfl (by decide +kernel) ⟨Nat.le_of_ble_eq_true rfl, Nat.le_of_ble_eq_true rfl⟩ 13 rfl rfl rfl rfl (Nat.le_of_ble_eq_true rfl) ⟨Nat.le_of_ble_eq_true rfl, Nat.le_of_ble_eq_true rfl⟩ dX11_goOnFrom_5 (fun v ty' w' hp hk' => ?_)
  obtain ⟨I10401, A10401, hI10401, hA10401, hV10401, hC, rfl, rfl⟩ := hp
  replace hF := FE.bdX hF hC
  show GW κ 2 0 0 (wX q d I10401 A10401) 8 [(0, .ref (q 0)), (1, .ref (q 29))] []
  refine g_aload_n hk dX11_goOnFrom_8 rfl ?_
  refine gX_r0_4 hk hin11 (List.mem_cons_of_mem _ (List.mem_append_left _ (List.mem_of_getElem? (i := 5) rfl))) dX11_goOnFrom_9 ?_
  refine g_aload_n hk dX11_goOnFrom_12 rfl ?_
  refine gX_r29_2 hk hin8 (List.mem_cons_of_mem _ (List.mem_append_left _ (List.mem_of_getElem? (i := 6) rfl))) dX11_goOnFrom_13 ?_
  refine g_callV (n := 1) hk (k330_X7_takeFrom l D zt q d I10401 A10401  hV10401) (SP.same _) (fun _ h => h) (gi_V (List.mem_cons_of_mem _ (List.mem_append_left _ (List.mem_of_getElem? (i := 7) rfl))) (List.mem_cons_of_mem _ (List.mem_append_left _ (List.mem_of_getElem? (i := 8) rfl))) (List.mem_cons_of_mem _ (List.mem_append_left _ (List.mem_of_getElem? (i := 9) rfl))) (List.mem_cons_of_mem _ (List.mem_append_left _ (List.mem_of_getElem? (i := 10) rfl))) (gi_sub (fun w h => (List.mem_cons_of_mem _ (List.mem_append_right _ (List.mem_append_right _ (List.mem_append_right _ (List.mem_append_right _ (List.mem_append_left _ h))))))) zg_k173_X7_takeFrom)) rfl rfl rfl (by decide +kernel) ⟨Nat.le_of_ble_eq_true rfl, Nat.le_of_ble_eq_true rfl⟩ 18 rfl rfl rfl rfl (Nat.le_of_ble_eq_true rfl) ⟨Nat.le_of_ble_eq_true rfl, Nat.le_of_ble_eq_true rfl⟩ dX11_goOnFrom_16 (fun v ty' w' hp hk' => ?_)
  obtain ⟨I10434, A10434, hI10434, hA10434, hV10434, hC, rfl, rfl⟩ := hp
  replace hF := FE.bdX hF hC
  show GW κ 2 0 0 (wX q d I10434 A10434) 19 [(0, .ref (q 0)), (1, .ref (q 29))] []
  refine g_aload_n hk dX11_goOnFrom_19 rfl ?_
  refine gX_r0_5 hk hin11 (List.mem_cons_of_mem _ (List.mem_append_left _ (List.mem_of_getElem? (i := 11) rfl))) dX11_goOnFrom_20 ?_
  refine g_callV (n := 0) hk (k175_X3_forget l D zt q d I10434 A10434  hV10434) (SP.same _) (fun _ h => h) (gi_V (List.mem_cons_of_mem _ (List.mem_append_left _ (List.mem_of_getElem? (i := 12) rfl))) (List.mem_cons_of_mem _ (List.mem_append_left _ (List.mem_of_getElem? (i := 13) rfl))) (List.mem_cons_of_mem _ (List.mem_append_left _ (List.mem_of_getElem? (i := 14) rfl))) (List.mem_cons_of_mem _ (List.mem_append_left _ (List.mem_of_getElem? (i := 15) rfl))) (gi_sub (fun w h => (List.mem_cons_of_mem _ (List.mem_append_right _ (List.mem_append_right _ (List.mem_append_right _ (List.mem_append_right _ (List.mem_append_right _ (List.mem_append_left _ h)))))))) zg_k175_X3_forget)) rfl rfl rfl (by decide +kernel) ⟨Nat.le_of_ble_eq_true rfl, Nat.le_of_ble_eq_true rfl⟩ 20 rfl rfl rfl rfl (Nat.le_of_ble_eq_true rfl) ⟨Nat.le_of_ble_eq_true rfl, Nat.le_of_ble_eq_true rfl⟩ dX11_goOnFrom_23 (fun v ty' w' hp hk' => ?_)
  obtain ⟨I10436, A10436, hI10436, hA10436, hV10436, hC, rfl, rfl⟩ := hp
  replace hF := FE.bdX hF hC
  show GW κ 2 0 0 (wX q d I10436 A10436) 26 [(0, .ref (q 0)), (1, .ref (q 29))] []
  exact g_vret hk hR ⟨I10436, A10436, (show Md [17, 18, 21] I I10436 from (Md.tr (Md.tr (Md.tr Md.rf hI10401 rfl) hI10434 rfl) hI10436 rfl)), (show Md [7, 10] A A10436 from (Md.tr (Md.tr (Md.tr Md.rf hA10401 rfl) hA10434 rfl) hA10436 rfl)), hV10436, hF, rfl, rfl⟩ dX11_goOnFrom_26
noncomputable def fX8_valueAt_4 (I : Nat → Int32) (A : Nat → Nat → Int32) (z1 : Int32) : Int32 := if z1.toInt < 0 then (-1000) else if (I 26).toInt ≤ z1.toInt then (-1000) else if 160 ≤ z1.toInt then (-1000) else (A 19 z1.toNatClampNeg)
set_option maxHeartbeats 4000000 in
set_option maxRecDepth 100000 in
theorem k334_X8_valueAt (l : Launch) (D : va_G) (zt : Nat × Nat × Nat × (Nat → Nat) × (Nat → Nat)) (q : Nat → Nat) (d : Nat → ClassId) (I : Nat → Int32) (A : Nat → Nat → Int32) (z1 : Int32) (hIv : IvX I A) : GM l D zt (tyX d) yX8_valueAt wz_k171_X8_valueAt ({ frames := 0, cells := 0, slots := 0, locals := 0 } : Room) [.ref (q 33), .int z1] (wX q d I A) (fun v _ w' => ∃ y0 : Int32, FE (fX8_valueAt_4 I A z1) y0 ∧ v = some (.int y0) ∧ w' = wX q d I A) 0 0 := by
  refine GM.of (cc := cX8_valueAt) (maxL := 2) (ret := (some .int)) (own := RX8) (lv := [(0, .ref (q 33)), (1, .int z1)]) (by decide) rfl rfl (Nat.le_of_ble_eq_true rfl) rfl (fun κ sz hk hR hN => ?_)
  have hin8 : ∀ w ∈ u_ws RX8 TX8 4, w ∈ wz_k171_X8_valueAt := fun w h => (List.mem_cons_of_mem _ (List.mem_append_right _ (List.mem_append_left _ h)))
  have hF : FE (fX8_valueAt_4 I A z1) (fX8_valueAt_4 I A z1) := FE.rf
  refine g_iload_n hk dX8_valueAt_0 rfl ?_
  have b10448l := Int32.le_toInt z1
  have b10448h := Int32.toInt_lt z1
  refine g_if_lt (tgt := 30) (a := z1.toInt) hk dX8_valueAt_1 (by decide) rfl (fun c10449 => ?_) (fun c10449 => ?_)
  · skip
    replace hF := FE.pos hF c10449
    refine g_sipush (v := (-1000)) hk dX8_valueAt_30 (by decide) ?_
    exact g_iret hk hR rfl ⟨(-1000), hF, rfl, rfl⟩ dX8_valueAt_33
  · skip
    replace hF := FE.neg hF c10449
    refine g_iload_n hk dX8_valueAt_4 rfl ?_
    refine g_aload_n hk dX8_valueAt_5 rfl ?_
    refine gX_i26 (v := (I 26)) hk hin8 (List.mem_cons_of_mem _ (List.mem_append_left _ (List.mem_of_getElem? (i := 0) rfl))) dX8_valueAt_6 rfl ?_
    have b10450l := Int32.le_toInt (I 26)
    have b10450h := Int32.toInt_lt (I 26)
    refine g_icmp_ge (tgt := 30) (a := z1.toInt) (b := (I 26).toInt) hk dX8_valueAt_9 (by decide) rfl rfl (fun c10451 => ?_) (fun c10451 => ?_)
    · skip
      replace hF := FE.pos hF c10451
      refine g_sipush (v := (-1000)) hk dX8_valueAt_30 (by decide) ?_
      exact g_iret hk hR rfl ⟨(-1000), hF, rfl, rfl⟩ dX8_valueAt_33
    · skip
      replace hF := FE.neg hF c10451
      refine g_iload_n hk dX8_valueAt_12 rfl ?_
      refine g_aload_n hk dX8_valueAt_13 rfl ?_
      refine gX_r33_0 hk hin8 (List.mem_cons_of_mem _ (List.mem_append_left _ (List.mem_of_getElem? (i := 1) rfl))) dX8_valueAt_14 ?_
      refine nX_19 hk dX8_valueAt_17 ?_
      refine g_icmp_ge (tgt := 30) (a := z1.toInt) (b := 160) hk dX8_valueAt_18 (by decide) rfl rfl (fun c10452 => ?_) (fun c10452 => ?_)
      · skip
        replace hF := FE.pos hF c10452
        refine g_sipush (v := (-1000)) hk dX8_valueAt_30 (by decide) ?_
        exact g_iret hk hR rfl ⟨(-1000), hF, rfl, rfl⟩ dX8_valueAt_33
      · skip
        replace hF := FE.neg hF c10452
        refine g_aload_n hk dX8_valueAt_21 rfl ?_
        refine gX_r33_0 hk hin8 (List.mem_cons_of_mem _ (List.mem_append_left _ (List.mem_of_getElem? (i := 1) rfl))) dX8_valueAt_22 ?_
        refine g_iload_n hk dX8_valueAt_25 rfl ?_
        refine lX_19 (v := (A 19 z1.toNatClampNeg)) hk (vp_in_iff.mpr ⟨by omega, by omega⟩) rfl dX8_valueAt_26 ?_
        refine g_goto (tgt := 33) hk dX8_valueAt_27 (by decide) ?_
        have b10453l := Int32.le_toInt (A 19 z1.toNatClampNeg)
        have b10453h := Int32.toInt_lt (A 19 z1.toNatClampNeg)
        exact g_iret hk hR rfl ⟨(A 19 z1.toNatClampNeg), hF, rfl, rfl⟩ dX8_valueAt_33
noncomputable def bX6_takeFrom_4_12 (I : Nat → Int32) : (Int32 → (Nat → Int32) → (Nat → Nat → Int32) → (Int32 × (Nat → Int32) × (Nat → Nat → Int32))) → Int32 → (Nat → Int32) → (Nat → Nat → Int32) → (Int32 × (Nat → Int32) × (Nat → Nat → Int32)) := fun kk10481 x10442 I10445 A10445 => if (I 26).toInt ≤ x10442.toInt then (0, I10445, A10445) else f_lt (fX8_valueAt_4 I10445 A10445 x10442) fun y10486 => f_bdX (fX6_append I10445 A10445 y10486) fun y10487 I10490 A10490 => f_lt (x10442 + Int32.ofInt 1) fun y10491 => kk10481 y10491 I10490 A10490
noncomputable def fX6_takeFrom_4 (I : Nat → Int32) (A : Nat → Nat → Int32) : Int32 × (Nat → Int32) × (Nat → Nat → Int32) := itr_iIA dfX (bX6_takeFrom_4_12 I) FU 0 (upd (upd I 17 0) 18 0) A
set_option maxHeartbeats 4000000 in
set_option maxRecDepth 100000 in
theorem k333_X6_takeFrom (l : Launch) (D : va_G) (zt : Nat × Nat × Nat × (Nat → Nat) × (Nat → Nat)) (q : Nat → Nat) (d : Nat → ClassId) (I : Nat → Int32) (A : Nat → Nat → Int32) (hIv : IvX I A) : GM l D zt (tyX d) yX6_takeFrom wz_k170_X6_takeFrom ({ frames := 1, cells := 0, slots := 0, locals := 21 } : Room) [.ref (q 13), .ref (q 33)] (wX q d I A) (fun v _ w' => ∃ (I' : Nat → Int32) (A' : Nat → Nat → Int32), Md [17, 18] I I' ∧ Md [7] A A' ∧ IvX I' A' ∧ FE (fX6_takeFrom_4 I A) (0, I', A') ∧ v = none ∧ w' = wX q d I' A') 0 0 := by
  refine GM.of (cc := cX6_takeFrom) (maxL := 3) (ret := none) (own := RX6) (lv := [(0, .ref (q 13)), (1, .ref (q 33))]) (by decide) rfl rfl (Nat.le_of_ble_eq_true rfl) rfl (fun κ sz hk hR hN => ?_)
  have hin6 : ∀ w ∈ u_ws RX6 TX6 3, w ∈ wz_k170_X6_takeFrom := fun w h => (List.mem_cons_of_mem _ (List.mem_append_right _ (List.mem_append_left _ h)))
  have hin8 : ∀ w ∈ u_ws RX8 TX8 4, w ∈ wz_k170_X6_takeFrom := fun w h => (List.mem_cons_of_mem _ (List.mem_append_right _ (List.mem_append_right _ (List.mem_append_left _ h))))
  have hF : FE (fX6_takeFrom_4 I A) (fX6_takeFrom_4 I A) := FE.rf
  refine g_aload_n hk dX6_takeFrom_0 rfl ?_
  refine g_iconst (v := 0) hk dX6_takeFrom_1 (by decide) ?_
  refine pX_i17 hk hin6 (List.mem_cons_of_mem _ (List.mem_append_left _ (List.mem_of_getElem? (i := 0) rfl))) dX6_takeFrom_2 ?_
  refine g_aload_n hk dX6_takeFrom_5 rfl ?_
  refine g_iconst (v := 0) hk dX6_takeFrom_6 (by decide) ?_
  refine pX_i18 hk hin6 (List.mem_cons_of_mem _ (List.mem_append_left _ (List.mem_of_getElem? (i := 1) rfl))) dX6_takeFrom_7 ?_
  refine g_iconst (v := 0) hk dX6_takeFrom_10 (by decide) ?_
  refine g_istore_n (lv' := [(2, .int 0), (0, .ref (q 13)), (1, .ref (q 33))]) hk dX6_takeFrom_11 (by decide) rfl ?_
  have lp10478 : ∀ (n10479 : Nat) (x10442 : Int32) (I10445 : Nat → Int32) (A10445 : Nat → Nat → Int32), (Md [17, 18] (upd (upd I 17 0) 18 0) I10445) → (Md [7] A A10445) → (IvX I10445 A10445) → (0 ≤ x10442.toInt) → ((I 26).toInt + 1 - x10442.toInt < (n10479 : Int)) → (0 < n10479) → (FE (fX6_takeFrom_4 I A) (itr_iIA dfX (bX6_takeFrom_4_12 I) n10479 x10442 I10445 A10445)) → GW κ 3 0 0 (wX q d I10445 A10445) 12 [(2, .int x10442), (0, .ref (q 13)), (1, .ref (q 33))] [] := by
    intro n10479
    induction n10479 with
    | zero =>
      intro x10442 I10445 A10445 hI10445 hA10445 hV10445 h10477 m10480 m10480z hF
      exact absurd m10480z (Nat.lt_irrefl 0)
    | succ n10479 ih10482 =>
      intro x10442 I10445 A10445 hI10445 hA10445 hV10445 h10477 m10480 m10480z hF
      replace hF := FE.itr_iIA hF
      refine g_iload_n hk dX6_takeFrom_12 rfl ?_
      refine g_aload_n hk dX6_takeFrom_13 rfl ?_
      refine gX_i26 (v := (I 26)) hk hin8 (List.mem_cons_of_mem _ (List.mem_append_left _ (List.mem_of_getElem? (i := 2) rfl))) dX6_takeFrom_14 (hI10445 26 rfl) ?_
      have b10483l := Int32.le_toInt x10442
      have b10483h := Int32.toInt_lt x10442
      have b10484l := Int32.le_toInt (I 26)
      have b10484h := Int32.toInt_lt (I 26)
      refine g_icmp_ge (tgt := 36) (a := x10442.toInt) (b := (I 26).toInt) hk dX6_takeFrom_17 (by decide) rfl rfl (fun c10485 => ?_) (fun c10485 => ?_)
      · skip
        replace hF := FE.pos hF c10485
        exact g_vret hk hR ⟨I10445, A10445, (show Md [17, 18] I I10445 from (Md.tr (Md.up (Md.up Md.rf rfl) rfl) hI10445 rfl)), (show Md [7] A A10445 from (Md.tr Md.rf hA10445 rfl)), hV10445, hF, rfl, rfl⟩ dX6_takeFrom_36
      · skip
        replace hF := FE.neg hF c10485
        refine g_aload_n hk dX6_takeFrom_20 rfl ?_
        refine g_aload_n hk dX6_takeFrom_21 rfl ?_
        refine g_iload_n hk dX6_takeFrom_22 rfl ?_
        refine g_callV (n := 1) hk (k334_X8_valueAt l D zt q d I10445 A10445 x10442 hV10445) (SP.same _) (fun _ h => h) (gi_V (List.mem_cons_of_mem _ (List.mem_append_left _ (List.mem_of_getElem? (i := 3) rfl))) (List.mem_cons_of_mem _ (List.mem_append_left _ (List.mem_of_getElem? (i := 4) rfl))) (List.mem_cons_of_mem _ (List.mem_append_left _ (List.mem_of_getElem? (i := 5) rfl))) (List.mem_cons_of_mem _ (List.mem_append_left _ (List.mem_of_getElem? (i := 6) rfl))) (gi_sub (fun w h => (List.mem_cons_of_mem _ (List.mem_append_right _ (List.mem_append_right _ (List.mem_append_right _ (List.mem_append_left _ h)))))) zg_k171_X8_valueAt)) rfl rfl rfl (by decide +kernel) ⟨Nat.le_of_ble_eq_true rfl, Nat.le_of_ble_eq_true rfl⟩ 33 rfl rfl rfl rfl (Nat.le_of_ble_eq_true rfl) ⟨Nat.le_of_ble_eq_true rfl, Nat.le_of_ble_eq_true rfl⟩ dX6_takeFrom_23 (fun v ty' w' hp hk' => ?_)
        obtain ⟨y10486, hC, rfl, rfl⟩ := hp
        replace hF := FE.lt hF (fe_s hC)
        show GW κ 3 0 0 (wX q d I10445 A10445) 26 [(2, .int x10442), (0, .ref (q 13)), (1, .ref (q 33))] [.int y10486, .ref (q 13)]
        refine g_callV (n := 1) hk (k172_X6_append l D zt q d I10445 A10445 y10486 hV10445) (SP.same _) (fun _ h => h) (gi_V (List.mem_cons_of_mem _ (List.mem_append_left _ (List.mem_of_getElem? (i := 7) rfl))) (List.mem_cons_of_mem _ (List.mem_append_left _ (List.mem_of_getElem? (i := 8) rfl))) (List.mem_cons_of_mem _ (List.mem_append_left _ (List.mem_of_getElem? (i := 9) rfl))) (List.mem_cons_of_mem _ (List.mem_append_left _ (List.mem_of_getElem? (i := 10) rfl))) (gi_sub (fun w h => (List.mem_cons_of_mem _ (List.mem_append_right _ (List.mem_append_right _ (List.mem_append_right _ (List.mem_append_right _ (List.mem_append_left _ h))))))) zg_k172_X6_append)) rfl rfl rfl (by decide +kernel) ⟨Nat.le_of_ble_eq_true rfl, Nat.le_of_ble_eq_true rfl⟩ 13 rfl rfl rfl rfl (Nat.le_of_ble_eq_true rfl) ⟨Nat.le_of_ble_eq_true rfl, Nat.le_of_ble_eq_true rfl⟩ dX6_takeFrom_26 (fun v ty' w' hp hk' => ?_)
        obtain ⟨I10490, A10490, hI10490, hA10490, hV10490, y10487, c10488, c10489, hC, rfl, rfl⟩ := hp
        replace hF := FE.bdX hF hC
        show GW κ 3 0 0 (wX q d I10490 A10490) 29 [(2, .int x10442), (0, .ref (q 13)), (1, .ref (q 33))] [.int y10487]
        refine g_pop hk dX6_takeFrom_29 rfl ?_
        obtain ⟨y10491, ey10491⟩ : ∃ y : Int32, y = x10442 + Int32.ofInt 1 := ⟨_, rfl⟩
        replace hF := FE.lt hF ey10491
        have hy10491 : y10491.toInt = x10442.toInt + 1 := i32_add ey10491 rfl (by decide) (by omega) (by omega)
        refine g_iinc (v := y10491) (lv' := [(2, .int y10491), (0, .ref (q 13)), (1, .ref (q 33))]) hk 0 dX6_takeFrom_30 rfl ey10491.symm (by decide) rfl ?_
        refine g_goto (tgt := 12) hk dX6_takeFrom_33 (by decide) ?_
        exact g_lv (List.forall_mem_cons.mpr ⟨List.mem_of_getElem? (i := 0) rfl, (List.forall_mem_cons.mpr ⟨List.mem_of_getElem? (i := 1) rfl, (List.forall_mem_cons.mpr ⟨List.mem_of_getElem? (i := 2) rfl, (fun _ h => absurd h List.not_mem_nil)⟩)⟩)⟩) (ih10482 y10491 I10490 A10490 (show Md [17, 18] (upd (upd I 17 0) 18 0) I10490 from Md.tr hI10445 (show Md [17, 18] I10445 I10490 from (Md.tr Md.rf hI10490 rfl)) rfl) (show Md [7] A A10490 from Md.tr hA10445 (show Md [7] A10445 A10490 from (Md.tr Md.rf hA10490 rfl)) rfl) hV10490 (by omega) (by omega) (by omega) hF)
  have k10493 : (0 : Int32).toInt = 0 := rfl
  have b10494 := Int32.le_toInt (I 26)
  have b10495 := Int32.toInt_lt (I 26)
  have n10492a : (I 26).toInt + 1 - 0 < (FU : Int) := by have := FU_eq; omega
  have n10492b : 0 < FU := by have := FU_eq; omega
  exact lp10478 FU 0 (upd (upd I 17 0) 18 0) A Md.rf Md.rf ⟨(IvX_f0 (I := I) (A := A) hIv), (show 0 ≤ (0 : Int32).toInt ∧ (0 : Int32).toInt ≤ 160 from ⟨by decide, by decide⟩), (IvX_f30 (I := I) (A := A) hIv), (IvX_f31 (I := I) (A := A) hIv), (IvX_a4 (I := I) (A := A) hIv), (IvX_a9 (I := I) (A := A) hIv), trivial⟩ (by omega) n10492a n10492b hF
noncomputable def fX7_valueOf_5 (I : Nat → Int32) (A : Nat → Nat → Int32) (z1 : Int32) : Int32 := if z1.toInt < 0 then (-1) else if 4 ≤ z1.toInt then (-1) else (A 20 z1.toNatClampNeg)
set_option maxHeartbeats 4000000 in
set_option maxRecDepth 100000 in
theorem k336_X7_valueOf (l : Launch) (D : va_G) (zt : Nat × Nat × Nat × (Nat → Nat) × (Nat → Nat)) (q : Nat → Nat) (d : Nat → ClassId) (I : Nat → Int32) (A : Nat → Nat → Int32) (z1 : Int32) (hIv : IvX I A) : GM l D zt (tyX d) yX7_valueOf wz_k174_X7_valueOf ({ frames := 0, cells := 0, slots := 0, locals := 0 } : Room) [.ref (q 35), .int z1] (wX q d I A) (fun v _ w' => ∃ y0 : Int32, FE (fX7_valueOf_5 I A z1) y0 ∧ v = some (.int y0) ∧ w' = wX q d I A) 0 0 := by
  refine GM.of (cc := cX7_valueOf) (maxL := 2) (ret := (some .int)) (own := RX7) (lv := [(0, .ref (q 35)), (1, .int z1)]) (by decide) rfl rfl (Nat.le_of_ble_eq_true rfl) rfl (fun κ sz hk hR hN => ?_)
  have hin7 : ∀ w ∈ u_ws RX7 TX7 1, w ∈ wz_k174_X7_valueOf := fun w h => (List.mem_cons_of_mem _ (List.mem_append_right _ (List.mem_append_left _ h)))
  have hF : FE (fX7_valueOf_5 I A z1) (fX7_valueOf_5 I A z1) := FE.rf
  refine g_iload_n hk dX7_valueOf_0 rfl ?_
  have b10502l := Int32.le_toInt z1
  have b10502h := Int32.toInt_lt z1
  refine g_if_lt (tgt := 22) (a := z1.toInt) hk dX7_valueOf_1 (by decide) rfl (fun c10503 => ?_) (fun c10503 => ?_)
  · skip
    replace hF := FE.pos hF c10503
    refine g_iconst (v := (-1)) hk dX7_valueOf_22 (by decide) ?_
    exact g_iret hk hR rfl ⟨(-1), hF, rfl, rfl⟩ dX7_valueOf_23
  · skip
    replace hF := FE.neg hF c10503
    refine g_iload_n hk dX7_valueOf_4 rfl ?_
    refine g_aload_n hk dX7_valueOf_5 rfl ?_
    refine gX_r35_0 hk hin7 (List.mem_cons_of_mem _ (List.mem_append_left _ (List.mem_of_getElem? (i := 0) rfl))) dX7_valueOf_6 ?_
    refine nX_20 hk dX7_valueOf_9 ?_
    refine g_icmp_ge (tgt := 22) (a := z1.toInt) (b := 4) hk dX7_valueOf_10 (by decide) rfl rfl (fun c10504 => ?_) (fun c10504 => ?_)
    · skip
      replace hF := FE.pos hF c10504
      refine g_iconst (v := (-1)) hk dX7_valueOf_22 (by decide) ?_
      exact g_iret hk hR rfl ⟨(-1), hF, rfl, rfl⟩ dX7_valueOf_23
    · skip
      replace hF := FE.neg hF c10504
      refine g_aload_n hk dX7_valueOf_13 rfl ?_
      refine gX_r35_0 hk hin7 (List.mem_cons_of_mem _ (List.mem_append_left _ (List.mem_of_getElem? (i := 0) rfl))) dX7_valueOf_14 ?_
      refine g_iload_n hk dX7_valueOf_17 rfl ?_
      refine lX_20 (v := (A 20 z1.toNatClampNeg)) hk (vp_in_iff.mpr ⟨by omega, by omega⟩) rfl dX7_valueOf_18 ?_
      refine g_goto (tgt := 23) hk dX7_valueOf_19 (by decide) ?_
      have b10505l := Int32.le_toInt (A 20 z1.toNatClampNeg)
      have b10505h := Int32.toInt_lt (A 20 z1.toNatClampNeg)
      exact g_iret hk hR rfl ⟨(A 20 z1.toNatClampNeg), hF, rfl, rfl⟩ dX7_valueOf_23
noncomputable def bX7_takeFrom_7_2 : (Int32 → (Nat → Int32) → (Nat → Nat → Int32) → (Int32 × (Nat → Int32) × (Nat → Nat → Int32))) → Int32 → (Nat → Int32) → (Nat → Nat → Int32) → (Int32 × (Nat → Int32) × (Nat → Nat → Int32)) := fun kk10522 x10498 I10501 A10501 => if 4 ≤ x10498.toInt then (0, I10501, A10501) else f_lt (fX7_valueOf_5 I10501 A10501 x10498) fun y10525 => f_lt (x10498 + Int32.ofInt 1) fun y10526 => kk10522 y10526 I10501 (up3 A10501 10 (x10498.toNatClampNeg) y10525)
noncomputable def fX7_takeFrom_7 (I : Nat → Int32) (A : Nat → Nat → Int32) : Int32 × (Nat → Int32) × (Nat → Nat → Int32) := itr_iIA dfX (bX7_takeFrom_7_2) FU 0 I A
set_option maxHeartbeats 4000000 in
set_option maxRecDepth 100000 in
theorem k335_X7_takeFrom (l : Launch) (D : va_G) (zt : Nat × Nat × Nat × (Nat → Nat) × (Nat → Nat)) (q : Nat → Nat) (d : Nat → ClassId) (I : Nat → Int32) (A : Nat → Nat → Int32) (hIv : IvX I A) : GM l D zt (tyX d) yX7_takeFrom wz_k173_X7_takeFrom ({ frames := 1, cells := 0, slots := 0, locals := 21 } : Room) [.ref (q 18), .ref (q 35)] (wX q d I A) (fun v _ w' => ∃ (I' : Nat → Int32) (A' : Nat → Nat → Int32), Md [] I I' ∧ Md [10] A A' ∧ IvX I' A' ∧ FE (fX7_takeFrom_7 I A) (0, I', A') ∧ v = none ∧ w' = wX q d I' A') 0 0 := by
  refine GM.of (cc := cX7_takeFrom) (maxL := 3) (ret := none) (own := RX7) (lv := [(0, .ref (q 18)), (1, .ref (q 35))]) (by decide) rfl rfl (Nat.le_of_ble_eq_true rfl) rfl (fun κ sz hk hR hN => ?_)
  have hin7 : ∀ w ∈ u_ws RX7 TX7 1, w ∈ wz_k173_X7_takeFrom := fun w h => (List.mem_cons_of_mem _ (List.mem_append_right _ (List.mem_append_left _ h)))
  have hF : FE (fX7_takeFrom_7 I A) (fX7_takeFrom_7 I A) := FE.rf
  refine g_iconst (v := 0) hk dX7_takeFrom_0 (by decide) ?_
  refine g_istore_n (lv' := [(2, .int 0), (0, .ref (q 18)), (1, .ref (q 35))]) hk dX7_takeFrom_1 (by decide) rfl ?_
  have lp10519 : ∀ (n10520 : Nat) (x10498 : Int32) (I10501 : Nat → Int32) (A10501 : Nat → Nat → Int32), (Md [] I I10501) → (Md [10] A A10501) → (IvX I10501 A10501) → (0 ≤ x10498.toInt) → (x10498.toInt ≤ 4) → (5 - x10498.toInt < (n10520 : Int)) → (0 < n10520) → (FE (fX7_takeFrom_7 I A) (itr_iIA dfX (bX7_takeFrom_7_2) n10520 x10498 I10501 A10501)) → GW κ 3 0 0 (wX q d I10501 A10501) 2 [(2, .int x10498), (0, .ref (q 18)), (1, .ref (q 35))] [] := by
    intro n10520
    induction n10520 with
    | zero =>
      intro x10498 I10501 A10501 hI10501 hA10501 hV10501 h10517 h10518 m10521 m10521z hF
      exact absurd m10521z (Nat.lt_irrefl 0)
    | succ n10520 ih10523 =>
      intro x10498 I10501 A10501 hI10501 hA10501 hV10501 h10517 h10518 m10521 m10521z hF
      replace hF := FE.itr_iIA hF
      refine g_iload_n hk dX7_takeFrom_2 rfl ?_
      refine g_aload_n hk dX7_takeFrom_3 rfl ?_
      refine gX_r18_0 hk hin7 (List.mem_cons_of_mem _ (List.mem_append_left _ (List.mem_of_getElem? (i := 0) rfl))) dX7_takeFrom_4 ?_
      refine nX_10 hk dX7_takeFrom_7 ?_
      refine g_icmp_ge (tgt := 28) (a := x10498.toInt) (b := 4) hk dX7_takeFrom_8 (by decide) rfl rfl (fun c10524 => ?_) (fun c10524 => ?_)
      · skip
        replace hF := FE.pos hF c10524
        exact g_vret hk hR ⟨I10501, A10501, (show Md [] I I10501 from (Md.tr Md.rf hI10501 rfl)), (show Md [10] A A10501 from (Md.tr Md.rf hA10501 rfl)), hV10501, hF, rfl, rfl⟩ dX7_takeFrom_28
      · skip
        replace hF := FE.neg hF c10524
        refine g_aload_n hk dX7_takeFrom_11 rfl ?_
        refine gX_r18_0 hk hin7 (List.mem_cons_of_mem _ (List.mem_append_left _ (List.mem_of_getElem? (i := 0) rfl))) dX7_takeFrom_12 ?_
        refine g_iload_n hk dX7_takeFrom_15 rfl ?_
        refine g_aload_n hk dX7_takeFrom_16 rfl ?_
        refine g_iload_n hk dX7_takeFrom_17 rfl ?_
        refine g_callV (n := 1) hk (k336_X7_valueOf l D zt q d I10501 A10501 x10498 hV10501) (SP.same _) (fun _ h => h) (gi_V (List.mem_cons_of_mem _ (List.mem_append_left _ (List.mem_of_getElem? (i := 1) rfl))) (List.mem_cons_of_mem _ (List.mem_append_left _ (List.mem_of_getElem? (i := 2) rfl))) (List.mem_cons_of_mem _ (List.mem_append_left _ (List.mem_of_getElem? (i := 3) rfl))) (List.mem_cons_of_mem _ (List.mem_append_left _ (List.mem_of_getElem? (i := 4) rfl))) (gi_sub (fun w h => (List.mem_cons_of_mem _ (List.mem_append_right _ (List.mem_append_right _ (List.mem_append_left _ h))))) zg_k174_X7_valueOf)) rfl rfl rfl (by decide +kernel) ⟨Nat.le_of_ble_eq_true rfl, Nat.le_of_ble_eq_true rfl⟩ 35 rfl rfl rfl rfl (Nat.le_of_ble_eq_true rfl) ⟨Nat.le_of_ble_eq_true rfl, Nat.le_of_ble_eq_true rfl⟩ dX7_takeFrom_18 (fun v ty' w' hp hk' => ?_)
        obtain ⟨y10525, hC, rfl, rfl⟩ := hp
        replace hF := FE.lt hF (fe_s hC)
        show GW κ 3 0 0 (wX q d I10501 A10501) 21 [(2, .int x10498), (0, .ref (q 18)), (1, .ref (q 35))] [.int y10525, .int x10498, .ref (q 19)]
        refine sX_10 (j := x10498.toNatClampNeg) hk (vp_in_iff.mpr ⟨by omega, by omega⟩) rfl dX7_takeFrom_21 ?_
        obtain ⟨y10526, ey10526⟩ : ∃ y : Int32, y = x10498 + Int32.ofInt 1 := ⟨_, rfl⟩
        replace hF := FE.lt hF ey10526
        have hy10526 : y10526.toInt = x10498.toInt + 1 := i32_add ey10526 rfl (by decide) (by omega) (by omega)
        refine g_iinc (v := y10526) (lv' := [(2, .int y10526), (0, .ref (q 18)), (1, .ref (q 35))]) hk 0 dX7_takeFrom_22 rfl ey10526.symm (by decide) rfl ?_
        refine g_goto (tgt := 2) hk dX7_takeFrom_25 (by decide) ?_
        exact g_lv (List.forall_mem_cons.mpr ⟨List.mem_of_getElem? (i := 0) rfl, (List.forall_mem_cons.mpr ⟨List.mem_of_getElem? (i := 1) rfl, (List.forall_mem_cons.mpr ⟨List.mem_of_getElem? (i := 2) rfl, (fun _ h => absurd h List.not_mem_nil)⟩)⟩)⟩) (ih10523 y10526 I10501 (up3 A10501 10 (x10498.toNatClampNeg) y10525) (show Md [] I I10501 from Md.tr hI10501 (show Md [] I10501 I10501 from Md.rf) rfl) (show Md [10] A (up3 A10501 10 (x10498.toNatClampNeg) y10525) from Md.tr hA10501 (show Md [10] A10501 (up3 A10501 10 (x10498.toNatClampNeg) y10525) from (Md.up3 Md.rf rfl)) rfl) ⟨(IvX_f0 (I := I10501) (A := A10501) hV10501), (IvX_f18 (I := I10501) (A := A10501) hV10501), (IvX_f30 (I := I10501) (A := A10501) hV10501), (IvX_f31 (I := I10501) (A := A10501) hV10501), (IvX_a4 (I := I10501) (A := A10501) hV10501), (IvX_a9 (I := I10501) (A := A10501) hV10501), trivial⟩ (by omega) (by omega) (by omega) (by omega) hF)
  have k10528 : (0 : Int32).toInt = 0 := rfl
  have n10527a : 5 - 0 < (FU : Int) := by have := FU_eq; omega
  have n10527b : 0 < FU := by have := FU_eq; omega
  exact lp10519 FU 0 I A Md.rf Md.rf hIv (by omega) (by omega) n10527a n10527b hF
noncomputable def fX11_goOnFrom_4 (I : Nat → Int32) (A : Nat → Nat → Int32) : Int32 × (Nat → Int32) × (Nat → Nat → Int32) := f_bdX (fX6_takeFrom_4 I A) fun _ I10497 A10497 => f_bdX (fX7_takeFrom_7 I10497 A10497) fun _ I10530 A10530 => f_bdX (fX3_forget I10530 A10530) fun _ I10532 A10532 => (0, I10532, A10532)
set_option maxHeartbeats 4000000 in
set_option maxRecDepth 100000 in
theorem k332_X11_goOnFrom (l : Launch) (D : va_G) (zt : Nat × Nat × Nat × (Nat → Nat) × (Nat → Nat)) (q : Nat → Nat) (d : Nat → ClassId) (I : Nat → Int32) (A : Nat → Nat → Int32) (hIv : IvX I A) : GM l D zt (tyX d) yX11_goOnFrom wz_k169_X11_goOnFrom ({ frames := 2, cells := 0, slots := 0, locals := 43 } : Room) [.ref (q 0), .ref (q 33)] (wX q d I A) (fun v _ w' => ∃ (I' : Nat → Int32) (A' : Nat → Nat → Int32), Md [17, 18, 21] I I' ∧ Md [7, 10] A A' ∧ IvX I' A' ∧ FE (fX11_goOnFrom_4 I A) (0, I', A') ∧ v = none ∧ w' = wX q d I' A') 0 0 := by
  refine GM.of (cc := cX11_goOnFrom) (maxL := 2) (ret := none) (own := RX11) (lv := [(0, .ref (q 0)), (1, .ref (q 33))]) (by decide) rfl rfl (Nat.le_of_ble_eq_true rfl) rfl (fun κ sz hk hR hN => ?_)
  have hin8 : ∀ w ∈ u_ws RX8 TX8 4, w ∈ wz_k169_X11_goOnFrom := fun w h => (List.mem_cons_of_mem _ (List.mem_append_right _ (List.mem_append_left _ h)))
  have hin11 : ∀ w ∈ u_ws RX11 TX11 10, w ∈ wz_k169_X11_goOnFrom := fun w h => (List.mem_cons_of_mem _ (List.mem_append_right _ (List.mem_append_right _ (List.mem_append_left _ h))))
  have hF : FE (fX11_goOnFrom_4 I A) (fX11_goOnFrom_4 I A) := FE.rf
  refine g_aload_n hk dX11_goOnFrom_0 rfl ?_
  refine gX_r0_2 hk hin11 (List.mem_cons_of_mem _ (List.mem_append_left _ (List.mem_of_getElem? (i := 0) rfl))) dX11_goOnFrom_1 ?_
  refine g_aload_n hk dX11_goOnFrom_4 rfl ?_
  refine g_callV (n := 1) hk (k333_X6_takeFrom l D zt q d I A  hIv) (SP.same _) (fun _ h => h) (gi_V (List.mem_cons_of_mem _ (List.mem_append_left _ (List.mem_of_getElem? (i := 1) rfl))) (List.mem_cons_of_mem _ (List.mem_append_left _ (List.mem_of_getElem? (i := 2) rfl))) (List.mem_cons_of_mem _ (List.mem_append_left _ (List.mem_of_getElem? (i := 3) rfl))) (List.mem_cons_of_mem _ (List.mem_append_left _ (List.mem_of_getElem? (i := 4) rfl))) (gi_sub (fun w h => (List.mem_cons_of_mem _ (List.mem_append_right _ (List.mem_append_right _ (List.mem_append_right _ (List.mem_append_left _ h)))))) zg_k170_X6_takeFrom)) rfl rfl rfl (by decide +kernel) ⟨Nat.le_of_ble_eq_true rfl, Nat.le_of_ble_eq_true rfl⟩ 13 rfl rfl rfl rfl (Nat.le_of_ble_eq_true rfl) ⟨Nat.le_of_ble_eq_true rfl, Nat.le_of_ble_eq_true rfl⟩ dX11_goOnFrom_5 (fun v ty' w' hp hk' => ?_)
  obtain ⟨I10497, A10497, hI10497, hA10497, hV10497, hC, rfl, rfl⟩ := hp
  replace hF := FE.bdX hF hC
  show GW κ 2 0 0 (wX q d I10497 A10497) 8 [(0, .ref (q 0)), (1, .ref (q 33))] []
  refine g_aload_n hk dX11_goOnFrom_8 rfl ?_
  refine gX_r0_4 hk hin11 (List.mem_cons_of_mem _ (List.mem_append_left _ (List.mem_of_getElem? (i := 5) rfl))) dX11_goOnFrom_9 ?_
  refine g_aload_n hk dX11_goOnFrom_12 rfl ?_
  refine gX_r33_2 hk hin8 (List.mem_cons_of_mem _ (List.mem_append_left _ (List.mem_of_getElem? (i := 6) rfl))) dX11_goOnFrom_13 ?_
  refine g_callV (n := 1) hk (k335_X7_takeFrom l D zt q d I10497 A10497  hV10497) (SP.same _) (fun _ h => h) (gi_V (List.mem_cons_of_mem _ (List.mem_append_left _ (List.mem_of_getElem? (i := 7) rfl))) (List.mem_cons_of_mem _ (List.mem_append_left _ (List.mem_of_getElem? (i := 8) rfl))) (List.mem_cons_of_mem _ (List.mem_append_left _ (List.mem_of_getElem? (i := 9) rfl))) (List.mem_cons_of_mem _ (List.mem_append_left _ (List.mem_of_getElem? (i := 10) rfl))) (gi_sub (fun w h => (List.mem_cons_of_mem _ (List.mem_append_right _ (List.mem_append_right _ (List.mem_append_right _ (List.mem_append_right _ (List.mem_append_left _ h))))))) zg_k173_X7_takeFrom)) rfl rfl rfl (by decide +kernel) ⟨Nat.le_of_ble_eq_true rfl, Nat.le_of_ble_eq_true rfl⟩ 18 rfl rfl rfl rfl (Nat.le_of_ble_eq_true rfl) ⟨Nat.le_of_ble_eq_true rfl, Nat.le_of_ble_eq_true rfl⟩ dX11_goOnFrom_16 (fun v ty' w' hp hk' => ?_)
  obtain ⟨I10530, A10530, hI10530, hA10530, hV10530, hC, rfl, rfl⟩ := hp
  replace hF := FE.bdX hF hC
  show GW κ 2 0 0 (wX q d I10530 A10530) 19 [(0, .ref (q 0)), (1, .ref (q 33))] []
  refine g_aload_n hk dX11_goOnFrom_19 rfl ?_
  refine gX_r0_5 hk hin11 (List.mem_cons_of_mem _ (List.mem_append_left _ (List.mem_of_getElem? (i := 11) rfl))) dX11_goOnFrom_20 ?_
  refine g_callV (n := 0) hk (k175_X3_forget l D zt q d I10530 A10530  hV10530) (SP.same _) (fun _ h => h) (gi_V (List.mem_cons_of_mem _ (List.mem_append_left _ (List.mem_of_getElem? (i := 12) rfl))) (List.mem_cons_of_mem _ (List.mem_append_left _ (List.mem_of_getElem? (i := 13) rfl))) (List.mem_cons_of_mem _ (List.mem_append_left _ (List.mem_of_getElem? (i := 14) rfl))) (List.mem_cons_of_mem _ (List.mem_append_left _ (List.mem_of_getElem? (i := 15) rfl))) (gi_sub (fun w h => (List.mem_cons_of_mem _ (List.mem_append_right _ (List.mem_append_right _ (List.mem_append_right _ (List.mem_append_right _ (List.mem_append_right _ (List.mem_append_left _ h)))))))) zg_k175_X3_forget)) rfl rfl rfl (by decide +kernel) ⟨Nat.le_of_ble_eq_true rfl, Nat.le_of_ble_eq_true rfl⟩ 20 rfl rfl rfl rfl (Nat.le_of_ble_eq_true rfl) ⟨Nat.le_of_ble_eq_true rfl, Nat.le_of_ble_eq_true rfl⟩ dX11_goOnFrom_23 (fun v ty' w' hp hk' => ?_)
  obtain ⟨I10532, A10532, hI10532, hA10532, hV10532, hC, rfl, rfl⟩ := hp
  replace hF := FE.bdX hF hC
  show GW κ 2 0 0 (wX q d I10532 A10532) 26 [(0, .ref (q 0)), (1, .ref (q 33))] []
  exact g_vret hk hR ⟨I10532, A10532, (show Md [17, 18, 21] I I10532 from (Md.tr (Md.tr (Md.tr Md.rf hI10497 rfl) hI10530 rfl) hI10532 rfl)), (show Md [7, 10] A A10532 from (Md.tr (Md.tr (Md.tr Md.rf hA10497 rfl) hA10530 rfl) hA10532 rfl)), hV10532, hF, rfl, rfl⟩ dX11_goOnFrom_26
noncomputable def fX11_restore (I : Nat → Int32) (A : Nat → Nat → Int32) (z1 : Int32) : Int32 × (Nat → Int32) × (Nat → Nat → Int32) := if z1.toInt < 0 then (0, I, A) else if 3 ≤ z1.toInt then (0, I, A) else if z1.toInt = 0 then if (I 23).toInt ≠ 0 then f_bdX (fX11_goOnFrom_2 I A) fun _ I10342 A10342 => (1, I10342, A10342) else (0, I, A) else if z1.toInt = 1 then if (I 25).toInt ≠ 0 then f_bdX (fX11_goOnFrom_3 I A) fun _ I10438 A10438 => (1, I10438, A10438) else (0, I, A) else if z1.toInt = 2 then if (I 27).toInt ≠ 0 then f_bdX (fX11_goOnFrom_4 I A) fun _ I10534 A10534 => (1, I10534, A10534) else (0, I, A) else dfX
def wo_k321_X11_restore : List Cond := [Cond.fieldLink RX11 56 "WarpDesk" "slots" "[LWarpDesk$Stand;", Cond.fieldLink RX11 110 "WarpDesk$Stand" "held" "Z", Cond.methodLink RX11 106 yX11_goOnFrom, Cond.instanceMethod yX11_goOnFrom, Cond.selects RX11 yX11_goOnFrom yX11_goOnFrom, Cond.initialized RX11]
def wz_k321_X11_restore : List Cond := .code yX11_restore cX11_restore 2 (some .boolean) :: (wo_k321_X11_restore ++ (wsX80 ++ (wsX110 ++ (wz_k169_X11_goOnFrom ++ (wz_k169_X11_goOnFrom ++ (wz_k169_X11_goOnFrom ++ ([] : List Cond)))))))
theorem zg_k321_X11_restore : ∀ w ∈ wz_k321_X11_restore, goodWord w = true := zg_cons rfl (zg_app (by decide +kernel) (zg_app zgU_wsX80 (zg_app zgU_wsX110 (zg_app zg_k169_X11_goOnFrom (zg_app zg_k169_X11_goOnFrom (zg_app zg_k169_X11_goOnFrom zg_nil))))))
theorem zi_k321_X11_restore : ∀ w ∈ wz_k321_X11_restore, w ∈ lw_tbl := zi_cons zw_1338 (zi_app (zi_cons zw_493 (zi_cons zw_201 (zi_cons zw_765 (zi_cons zw_767 (zi_cons zw_22 (zi_cons zw_103 zi_nil)))))) (zi_app inX8 (zi_app inX11 (zi_app zi_k169_X11_goOnFrom (zi_app zi_k169_X11_goOnFrom (zi_app zi_k169_X11_goOnFrom zi_nil))))))
set_option maxHeartbeats 4000000 in
set_option maxRecDepth 100000 in
theorem k321_X11_restore (l : Launch) (D : va_G) (zt : Nat × Nat × Nat × (Nat → Nat) × (Nat → Nat)) (q : Nat → Nat) (d : Nat → ClassId) (I : Nat → Int32) (A : Nat → Nat → Int32) (z1 : Int32) (hIv : IvX I A) : GM l D zt (tyX d) yX11_restore wz_k321_X11_restore ({ frames := 3, cells := 0, slots := 0, locals := 64 } : Room) [.ref (q 0), .int z1] (wX q d I A) (fun v _ w' => ∃ (I' : Nat → Int32) (A' : Nat → Nat → Int32), Md [17, 18, 21] I I' ∧ Md [7, 10] A A' ∧ IvX I' A' ∧ ∃ y0 : Int32, (0 ≤ y0.toInt) ∧ (y0.toInt ≤ 1) ∧ FE (fX11_restore I A z1) (y0, I', A') ∧ v = some (.int y0) ∧ w' = wX q d I' A') 0 0 := by
  refine GM.of (cc := cX11_restore) (maxL := 2) (ret := (some .boolean)) (own := RX11) (lv := [(0, .ref (q 0)), (1, .int z1)]) (by decide) rfl rfl (Nat.le_of_ble_eq_true rfl) rfl (fun κ sz hk hR hN => ?_)
  have hin8 : ∀ w ∈ u_ws RX8 TX8 4, w ∈ wz_k321_X11_restore := fun w h => (List.mem_cons_of_mem _ (List.mem_append_right _ (List.mem_append_left _ h)))
  have hin11 : ∀ w ∈ u_ws RX11 TX11 10, w ∈ wz_k321_X11_restore := fun w h => (List.mem_cons_of_mem _ (List.mem_append_right _ (List.mem_append_right _ (List.mem_append_left _ h))))
  have hF : FE (fX11_restore I A z1) (fX11_restore I A z1) := FE.rf
  refine g_iload_n hk dX11_restore_0 rfl ?_
  have b10244l := Int32.le_toInt z1
  have b10244h := Int32.toInt_lt z1
  refine g_if_lt (tgt := 25) (a := z1.toInt) hk dX11_restore_1 (by decide) rfl (fun c10245 => ?_) (fun c10245 => ?_)
  · skip
    replace hF := FE.pos hF c10245
    refine g_iconst (v := 0) hk dX11_restore_25 (by decide) ?_
    exact g_iret hk hR rfl ⟨I, A, (show Md [17, 18, 21] I I from Md.rf), (show Md [7, 10] A A from Md.rf), hIv, 0, (by decide), (by decide), hF, rfl, rfl⟩ dX11_restore_26
  · skip
    replace hF := FE.neg hF c10245
    refine g_iload_n hk dX11_restore_4 rfl ?_
    refine g_aload_n hk dX11_restore_5 rfl ?_
    refine gX_r0_6 hk hin11 (List.mem_cons_of_mem _ (List.mem_append_left _ (List.mem_of_getElem? (i := 0) rfl))) dX11_restore_6 ?_
    refine nX_14 hk dX11_restore_9 ?_
    refine g_icmp_ge (tgt := 25) (a := z1.toInt) (b := 3) hk dX11_restore_10 (by decide) rfl rfl (fun c10246 => ?_) (fun c10246 => ?_)
    · skip
      replace hF := FE.pos hF c10246
      refine g_iconst (v := 0) hk dX11_restore_25 (by decide) ?_
      exact g_iret hk hR rfl ⟨I, A, (show Md [17, 18, 21] I I from Md.rf), (show Md [7, 10] A A from Md.rf), hIv, 0, (by decide), (by decide), hF, rfl, rfl⟩ dX11_restore_26
    · skip
      replace hF := FE.neg hF c10246
      refine g_aload_n hk dX11_restore_13 rfl ?_
      refine gX_r0_6 hk hin11 (List.mem_cons_of_mem _ (List.mem_append_left _ (List.mem_of_getElem? (i := 0) rfl))) dX11_restore_14 ?_
      refine g_iload_n hk dX11_restore_17 rfl ?_
      by_cases c10247 : z1.toInt = 0
      · have ec10247 : z1 = 0 := Int32.toInt_inj.mp c10247
        replace hF := FE.pos hF c10247
        rw [ec10247]
        show GW κ 2 0 0 (wX q d I A) 18 [(0, .ref (q 0)), (1, .int 0)] [.int 0, .ref (q 24)]
        refine lX_14 hk (vp_in_iff.mpr ⟨by decide, by decide⟩) rfl dX11_restore_18 ?_
        refine gX_i23 (v := (I 23)) hk hin8 (List.mem_cons_of_mem _ (List.mem_append_left _ (List.mem_of_getElem? (i := 1) rfl))) dX11_restore_19 rfl ?_
        have b10248l := Int32.le_toInt (I 23)
        have b10248h := Int32.toInt_lt (I 23)
        refine g_if_ne (tgt := 27) (a := (I 23).toInt) hk dX11_restore_22 (by decide) rfl (fun c10249 => ?_) (fun c10249 => ?_)
        · skip
          replace hF := FE.pos hF c10249
          refine g_aload_n hk dX11_restore_27 rfl ?_
          refine g_aload_n hk dX11_restore_28 rfl ?_
          refine gX_r0_6 hk hin11 (List.mem_cons_of_mem _ (List.mem_append_left _ (List.mem_of_getElem? (i := 0) rfl))) dX11_restore_29 ?_
          refine g_iload_n hk dX11_restore_32 rfl ?_
          refine lX_14 hk (vp_in_iff.mpr ⟨by decide, by decide⟩) rfl dX11_restore_33 ?_
          refine g_callV (n := 1) hk (k322_X11_goOnFrom l D zt q d I A  hIv) (SP.same _) (fun _ h => h) (gi_V (List.mem_cons_of_mem _ (List.mem_append_left _ (List.mem_of_getElem? (i := 2) rfl))) (List.mem_cons_of_mem _ (List.mem_append_left _ (List.mem_of_getElem? (i := 3) rfl))) (List.mem_cons_of_mem _ (List.mem_append_left _ (List.mem_of_getElem? (i := 4) rfl))) (List.mem_cons_of_mem _ (List.mem_append_left _ (List.mem_of_getElem? (i := 5) rfl))) (gi_sub (fun w h => (List.mem_cons_of_mem _ (List.mem_append_right _ (List.mem_append_right _ (List.mem_append_right _ (List.mem_append_left _ h)))))) zg_k169_X11_goOnFrom)) rfl rfl rfl (by decide +kernel) ⟨Nat.le_of_ble_eq_true rfl, Nat.le_of_ble_eq_true rfl⟩ 0 rfl rfl rfl rfl (Nat.le_of_ble_eq_true rfl) ⟨Nat.le_of_ble_eq_true rfl, Nat.le_of_ble_eq_true rfl⟩ dX11_restore_34 (fun v ty' w' hp hk' => ?_)
          obtain ⟨I10342, A10342, hI10342, hA10342, hV10342, hC, rfl, rfl⟩ := hp
          replace hF := FE.bdX hF hC
          show GW κ 2 0 0 (wX q d I10342 A10342) 37 [(0, .ref (q 0)), (1, .int 0)] []
          refine g_iconst (v := 1) hk dX11_restore_37 (by decide) ?_
          exact g_iret hk hR rfl ⟨I10342, A10342, (show Md [17, 18, 21] I I10342 from (Md.tr Md.rf hI10342 rfl)), (show Md [7, 10] A A10342 from (Md.tr Md.rf hA10342 rfl)), hV10342, 1, (by decide), (by decide), hF, rfl, rfl⟩ dX11_restore_38
        · skip
          replace hF := FE.neg hF c10249
          refine g_iconst (v := 0) hk dX11_restore_25 (by decide) ?_
          exact g_iret hk hR rfl ⟨I, A, (show Md [17, 18, 21] I I from Md.rf), (show Md [7, 10] A A from Md.rf), hIv, 0, (by decide), (by decide), hF, rfl, rfl⟩ dX11_restore_26
      replace hF := FE.neg hF c10247
      by_cases c10343 : z1.toInt = 1
      · have ec10343 : z1 = 1 := Int32.toInt_inj.mp c10343
        replace hF := FE.pos hF c10343
        rw [ec10343]
        show GW κ 2 0 0 (wX q d I A) 18 [(0, .ref (q 0)), (1, .int 1)] [.int 1, .ref (q 24)]
        refine lX_14 hk (vp_in_iff.mpr ⟨by decide, by decide⟩) rfl dX11_restore_18 ?_
        refine gX_i25 (v := (I 25)) hk hin8 (List.mem_cons_of_mem _ (List.mem_append_left _ (List.mem_of_getElem? (i := 1) rfl))) dX11_restore_19 rfl ?_
        have b10344l := Int32.le_toInt (I 25)
        have b10344h := Int32.toInt_lt (I 25)
        refine g_if_ne (tgt := 27) (a := (I 25).toInt) hk dX11_restore_22 (by decide) rfl (fun c10345 => ?_) (fun c10345 => ?_)
        · skip
          replace hF := FE.pos hF c10345
          refine g_aload_n hk dX11_restore_27 rfl ?_
          refine g_aload_n hk dX11_restore_28 rfl ?_
          refine gX_r0_6 hk hin11 (List.mem_cons_of_mem _ (List.mem_append_left _ (List.mem_of_getElem? (i := 0) rfl))) dX11_restore_29 ?_
          refine g_iload_n hk dX11_restore_32 rfl ?_
          refine lX_14 hk (vp_in_iff.mpr ⟨by decide, by decide⟩) rfl dX11_restore_33 ?_
          refine g_callV (n := 1) hk (k327_X11_goOnFrom l D zt q d I A  hIv) (SP.same _) (fun _ h => h) (gi_V (List.mem_cons_of_mem _ (List.mem_append_left _ (List.mem_of_getElem? (i := 2) rfl))) (List.mem_cons_of_mem _ (List.mem_append_left _ (List.mem_of_getElem? (i := 3) rfl))) (List.mem_cons_of_mem _ (List.mem_append_left _ (List.mem_of_getElem? (i := 4) rfl))) (List.mem_cons_of_mem _ (List.mem_append_left _ (List.mem_of_getElem? (i := 5) rfl))) (gi_sub (fun w h => (List.mem_cons_of_mem _ (List.mem_append_right _ (List.mem_append_right _ (List.mem_append_right _ (List.mem_append_right _ (List.mem_append_left _ h))))))) zg_k169_X11_goOnFrom)) rfl rfl rfl (by decide +kernel) ⟨Nat.le_of_ble_eq_true rfl, Nat.le_of_ble_eq_true rfl⟩ 0 rfl rfl rfl rfl (Nat.le_of_ble_eq_true rfl) ⟨Nat.le_of_ble_eq_true rfl, Nat.le_of_ble_eq_true rfl⟩ dX11_restore_34 (fun v ty' w' hp hk' => ?_)
          obtain ⟨I10438, A10438, hI10438, hA10438, hV10438, hC, rfl, rfl⟩ := hp
          replace hF := FE.bdX hF hC
          show GW κ 2 0 0 (wX q d I10438 A10438) 37 [(0, .ref (q 0)), (1, .int 1)] []
          refine g_iconst (v := 1) hk dX11_restore_37 (by decide) ?_
          exact g_iret hk hR rfl ⟨I10438, A10438, (show Md [17, 18, 21] I I10438 from (Md.tr Md.rf hI10438 rfl)), (show Md [7, 10] A A10438 from (Md.tr Md.rf hA10438 rfl)), hV10438, 1, (by decide), (by decide), hF, rfl, rfl⟩ dX11_restore_38
        · skip
          replace hF := FE.neg hF c10345
          refine g_iconst (v := 0) hk dX11_restore_25 (by decide) ?_
          exact g_iret hk hR rfl ⟨I, A, (show Md [17, 18, 21] I I from Md.rf), (show Md [7, 10] A A from Md.rf), hIv, 0, (by decide), (by decide), hF, rfl, rfl⟩ dX11_restore_26
      replace hF := FE.neg hF c10343
      by_cases c10439 : z1.toInt = 2
      · have ec10439 : z1 = 2 := Int32.toInt_inj.mp c10439
        replace hF := FE.pos hF c10439
        rw [ec10439]
        show GW κ 2 0 0 (wX q d I A) 18 [(0, .ref (q 0)), (1, .int 2)] [.int 2, .ref (q 24)]
        refine lX_14 hk (vp_in_iff.mpr ⟨by decide, by decide⟩) rfl dX11_restore_18 ?_
        refine gX_i27 (v := (I 27)) hk hin8 (List.mem_cons_of_mem _ (List.mem_append_left _ (List.mem_of_getElem? (i := 1) rfl))) dX11_restore_19 rfl ?_
        have b10440l := Int32.le_toInt (I 27)
        have b10440h := Int32.toInt_lt (I 27)
        refine g_if_ne (tgt := 27) (a := (I 27).toInt) hk dX11_restore_22 (by decide) rfl (fun c10441 => ?_) (fun c10441 => ?_)
        · skip
          replace hF := FE.pos hF c10441
          refine g_aload_n hk dX11_restore_27 rfl ?_
          refine g_aload_n hk dX11_restore_28 rfl ?_
          refine gX_r0_6 hk hin11 (List.mem_cons_of_mem _ (List.mem_append_left _ (List.mem_of_getElem? (i := 0) rfl))) dX11_restore_29 ?_
          refine g_iload_n hk dX11_restore_32 rfl ?_
          refine lX_14 hk (vp_in_iff.mpr ⟨by decide, by decide⟩) rfl dX11_restore_33 ?_
          refine g_callV (n := 1) hk (k332_X11_goOnFrom l D zt q d I A  hIv) (SP.same _) (fun _ h => h) (gi_V (List.mem_cons_of_mem _ (List.mem_append_left _ (List.mem_of_getElem? (i := 2) rfl))) (List.mem_cons_of_mem _ (List.mem_append_left _ (List.mem_of_getElem? (i := 3) rfl))) (List.mem_cons_of_mem _ (List.mem_append_left _ (List.mem_of_getElem? (i := 4) rfl))) (List.mem_cons_of_mem _ (List.mem_append_left _ (List.mem_of_getElem? (i := 5) rfl))) (gi_sub (fun w h => (List.mem_cons_of_mem _ (List.mem_append_right _ (List.mem_append_right _ (List.mem_append_right _ (List.mem_append_right _ (List.mem_append_right _ (List.mem_append_left _ h)))))))) zg_k169_X11_goOnFrom)) rfl rfl rfl (by decide +kernel) ⟨Nat.le_of_ble_eq_true rfl, Nat.le_of_ble_eq_true rfl⟩ 0 rfl rfl rfl rfl (Nat.le_of_ble_eq_true rfl) ⟨Nat.le_of_ble_eq_true rfl, Nat.le_of_ble_eq_true rfl⟩ dX11_restore_34 (fun v ty' w' hp hk' => ?_)
          obtain ⟨I10534, A10534, hI10534, hA10534, hV10534, hC, rfl, rfl⟩ := hp
          replace hF := FE.bdX hF hC
          show GW κ 2 0 0 (wX q d I10534 A10534) 37 [(0, .ref (q 0)), (1, .int 2)] []
          refine g_iconst (v := 1) hk dX11_restore_37 (by decide) ?_
          exact g_iret hk hR rfl ⟨I10534, A10534, (show Md [17, 18, 21] I I10534 from (Md.tr Md.rf hI10534 rfl)), (show Md [7, 10] A A10534 from (Md.tr Md.rf hA10534 rfl)), hV10534, 1, (by decide), (by decide), hF, rfl, rfl⟩ dX11_restore_38
        · skip
          replace hF := FE.neg hF c10441
          refine g_iconst (v := 0) hk dX11_restore_25 (by decide) ?_
          exact g_iret hk hR rfl ⟨I, A, (show Md [17, 18, 21] I I from Md.rf), (show Md [7, 10] A A from Md.rf), hIv, 0, (by decide), (by decide), hF, rfl, rfl⟩ dX11_restore_26
      replace hF := FE.neg hF c10439
      exfalso; omega
noncomputable def bX6_gapCount_4 (I : Nat → Int32) (A : Nat → Nat → Int32) : (Int32 → Int32 → (Int32)) → Int32 → Int32 → (Int32) := fun kk10585 x10538 x10539 => if (I 18).toInt ≤ x10538.toInt then x10539 else if fX6_hasReading I A x10538 = 0 then f_lt (x10539 + Int32.ofInt 1) fun y10593 => f_lt (x10538 + Int32.ofInt 1) fun y10594 => kk10585 y10594 y10593 else f_lt (x10538 + Int32.ofInt 1) fun y10595 => kk10585 y10595 x10539
noncomputable def fX6_gapCount (I : Nat → Int32) (A : Nat → Nat → Int32) : Int32 := itr_ii (0 : Int32) (bX6_gapCount_4 I A) FU 0 0
def wz_k338_X6_gapCount : List Cond := .code yX6_gapCount cX6_gapCount 3 (some .int) :: (wo_k207_X6_hasWindow ++ (wsX60 ++ (wz_k188_X6_hasReading ++ ([] : List Cond))))
theorem zg_k338_X6_gapCount : ∀ w ∈ wz_k338_X6_gapCount, goodWord w = true := zg_cons rfl (zg_app (by decide +kernel) (zg_app zgU_wsX60 (zg_app zg_k188_X6_hasReading zg_nil)))
theorem zi_k338_X6_gapCount : ∀ w ∈ wz_k338_X6_gapCount, w ∈ lw_tbl := zi_cons zw_1346 (zi_app (zi_cons zw_282 (zi_cons zw_905 (zi_cons zw_840 (zi_cons zw_841 (zi_cons zw_109 zi_nil))))) (zi_app inX6 (zi_app zi_k188_X6_hasReading zi_nil)))
set_option maxHeartbeats 4000000 in
set_option maxRecDepth 100000 in
theorem k338_X6_gapCount (l : Launch) (D : va_G) (zt : Nat × Nat × Nat × (Nat → Nat) × (Nat → Nat)) (q : Nat → Nat) (d : Nat → ClassId) (I : Nat → Int32) (A : Nat → Nat → Int32) (hIv : IvX I A) : GM l D zt (tyX d) yX6_gapCount wz_k338_X6_gapCount ({ frames := 2, cells := 0, slots := 0, locals := 42 } : Room) [.ref (q 13)] (wX q d I A) (fun v _ w' => ∃ y0 : Int32, FE (fX6_gapCount I A) y0 ∧ v = some (.int y0) ∧ w' = wX q d I A) 0 0 := by
  refine GM.of (cc := cX6_gapCount) (maxL := 3) (ret := (some .int)) (own := RX6) (lv := [(0, .ref (q 13))]) (by decide) rfl rfl (Nat.le_of_ble_eq_true rfl) rfl (fun κ sz hk hR hN => ?_)
  have hin6 : ∀ w ∈ u_ws RX6 TX6 3, w ∈ wz_k338_X6_gapCount := fun w h => (List.mem_cons_of_mem _ (List.mem_append_right _ (List.mem_append_left _ h)))
  have hF : FE (fX6_gapCount I A) (fX6_gapCount I A) := FE.rf
  refine g_iconst (v := 0) hk dX6_gapCount_0 (by decide) ?_
  refine g_istore_n (lv' := [(1, .int 0), (0, .ref (q 13))]) hk dX6_gapCount_1 (by decide) rfl ?_
  refine g_iconst (v := 0) hk dX6_gapCount_2 (by decide) ?_
  refine g_istore_n (lv' := [(2, .int 0), (1, .int 0), (0, .ref (q 13))]) hk dX6_gapCount_3 (by decide) rfl ?_
  have lp10582 : ∀ (n10583 : Nat) (x10538 : Int32) (x10539 : Int32), (0 ≤ x10538.toInt) → (x10538.toInt ≤ 160) → (161 - x10538.toInt < (n10583 : Int)) → (0 < n10583) → (FE (fX6_gapCount I A) (itr_ii (0 : Int32) (bX6_gapCount_4 I A) n10583 x10538 x10539)) → GW κ 3 0 0 (wX q d I A) 4 [(2, .int x10538), (1, .int x10539), (0, .ref (q 13))] [] := by
    intro n10583
    induction n10583 with
    | zero =>
      intro x10538 x10539 h10580 h10581 m10584 m10584z hF
      exact absurd m10584z (Nat.lt_irrefl 0)
    | succ n10583 ih10586 =>
      intro x10538 x10539 h10580 h10581 m10584 m10584z hF
      replace hF := FE.itr_ii hF
      refine g_iload_n hk dX6_gapCount_4 rfl ?_
      refine g_aload_n hk dX6_gapCount_5 rfl ?_
      refine gX_i18 (v := (I 18)) hk hin6 (List.mem_cons_of_mem _ (List.mem_append_left _ (List.mem_of_getElem? (i := 0) rfl))) dX6_gapCount_6 rfl ?_
      have f10587 := IvX_f18 hIv
      refine g_icmp_ge (tgt := 29) (a := x10538.toInt) (b := (I 18).toInt) hk dX6_gapCount_9 (by decide) rfl rfl (fun c10588 => ?_) (fun c10588 => ?_)
      · skip
        replace hF := FE.pos hF c10588
        refine g_iload_n hk dX6_gapCount_29 rfl ?_
        have b10589l := Int32.le_toInt x10539
        have b10589h := Int32.toInt_lt x10539
        exact g_iret hk hR rfl ⟨x10539, hF, rfl, rfl⟩ dX6_gapCount_30
      · skip
        replace hF := FE.neg hF c10588
        refine g_aload_n hk dX6_gapCount_12 rfl ?_
        refine g_iload_n hk dX6_gapCount_13 rfl ?_
        refine g_callV (n := 1) hk (k188_X6_hasReading l D zt q d I A x10538 hIv) (SP.same _) (fun _ h => h) (gi_V (List.mem_cons_of_mem _ (List.mem_append_left _ (List.mem_of_getElem? (i := 1) rfl))) (List.mem_cons_of_mem _ (List.mem_append_left _ (List.mem_of_getElem? (i := 2) rfl))) (List.mem_cons_of_mem _ (List.mem_append_left _ (List.mem_of_getElem? (i := 3) rfl))) (List.mem_cons_of_mem _ (List.mem_append_left _ (List.mem_of_getElem? (i := 4) rfl))) (gi_sub (fun w h => (List.mem_cons_of_mem _ (List.mem_append_right _ (List.mem_append_right _ (List.mem_append_left _ h))))) zg_k188_X6_hasReading)) rfl rfl rfl (by decide +kernel) ⟨Nat.le_of_ble_eq_true rfl, Nat.le_of_ble_eq_true rfl⟩ 13 rfl rfl rfl rfl (Nat.le_of_ble_eq_true rfl) ⟨Nat.le_of_ble_eq_true rfl, Nat.le_of_ble_eq_true rfl⟩ dX6_gapCount_14 (fun v ty' w' hp hk' => ?_)
        rcases hp with ⟨hC, rfl, rfl⟩ | ⟨hC, rfl, rfl⟩
        · skip
          replace hF := FE.pos hF hC
          show GW κ 3 0 0 (wX q d I A) 17 [(2, .int x10538), (1, .int x10539), (0, .ref (q 13))] [.int 0]
          refine g_if_ne (tgt := 23) (a := 0) hk dX6_gapCount_17 (by decide) rfl (fun z9 => absurd z9 (show ¬ ((0 : Int) ≠ (0 : Int)) from by decide)) (fun _ => ?_)
          have b10592l := Int32.le_toInt x10539
          have b10592h := Int32.toInt_lt x10539
          obtain ⟨y10593, ey10593⟩ : ∃ y : Int32, y = x10539 + Int32.ofInt 1 := ⟨_, rfl⟩
          replace hF := FE.lt hF ey10593
          refine g_iinc (v := y10593) (lv' := [(1, .int y10593), (2, .int x10538), (0, .ref (q 13))]) hk 1 dX6_gapCount_20 rfl ey10593.symm (by decide) rfl ?_
          obtain ⟨y10594, ey10594⟩ : ∃ y : Int32, y = x10538 + Int32.ofInt 1 := ⟨_, rfl⟩
          replace hF := FE.lt hF ey10594
          have hy10594 : y10594.toInt = x10538.toInt + 1 := i32_add ey10594 rfl (by decide) (by omega) (by omega)
          refine g_iinc (v := y10594) (lv' := [(2, .int y10594), (1, .int y10593), (0, .ref (q 13))]) hk 1 dX6_gapCount_23 rfl ey10594.symm (by decide) rfl ?_
          refine g_goto (tgt := 4) hk dX6_gapCount_26 (by decide) ?_
          exact g_lv (List.forall_mem_cons.mpr ⟨List.mem_of_getElem? (i := 0) rfl, (List.forall_mem_cons.mpr ⟨List.mem_of_getElem? (i := 1) rfl, (List.forall_mem_cons.mpr ⟨List.mem_of_getElem? (i := 2) rfl, (fun _ h => absurd h List.not_mem_nil)⟩)⟩)⟩) (ih10586 y10594 y10593 (by omega) (by omega) (by omega) (by omega) hF)
        · skip
          replace hF := FE.neg hF (fe_ne hC (by decide))
          show GW κ 3 0 0 (wX q d I A) 17 [(2, .int x10538), (1, .int x10539), (0, .ref (q 13))] [.int 1]
          refine g_if_ne (tgt := 23) (a := 1) hk dX6_gapCount_17 (by decide) rfl (fun _ => ?_) (fun z9 => absurd (show (1 : Int) ≠ (0 : Int) from by decide) z9)
          obtain ⟨y10595, ey10595⟩ : ∃ y : Int32, y = x10538 + Int32.ofInt 1 := ⟨_, rfl⟩
          replace hF := FE.lt hF ey10595
          have hy10595 : y10595.toInt = x10538.toInt + 1 := i32_add ey10595 rfl (by decide) (by omega) (by omega)
          refine g_iinc (v := y10595) (lv' := [(2, .int y10595), (1, .int x10539), (0, .ref (q 13))]) hk 0 dX6_gapCount_23 rfl ey10595.symm (by decide) rfl ?_
          refine g_goto (tgt := 4) hk dX6_gapCount_26 (by decide) ?_
          exact g_lv (List.forall_mem_cons.mpr ⟨List.mem_of_getElem? (i := 0) rfl, (List.forall_mem_cons.mpr ⟨List.mem_of_getElem? (i := 1) rfl, (List.forall_mem_cons.mpr ⟨List.mem_of_getElem? (i := 2) rfl, (fun _ h => absurd h List.not_mem_nil)⟩)⟩)⟩) (ih10586 y10595 x10539 (by omega) (by omega) (by omega) (by omega) hF)
  have k10597 : (0 : Int32).toInt = 0 := rfl
  have n10596a : 161 - 0 < (FU : Int) := by have := FU_eq; omega
  have n10596b : 0 < FU := by have := FU_eq; omega
  exact lp10582 FU 0 0 (by omega) (by omega) n10596a n10596b hF
noncomputable def bX6_readingsAtEnd_9 (I : Nat → Int32) (A : Nat → Nat → Int32) : (Int32 → Int32 → (Int32)) → Int32 → Int32 → (Int32) := fun kk10651 x10621 x10622 => if x10621.toInt < 0 then x10622 else if fX6_hasReading I A x10621 = 0 then x10622 else f_lt (x10622 + Int32.ofInt 1) fun y10659 => f_lt (x10621 + Int32.ofInt (-1)) fun y10660 => kk10651 y10660 y10659
noncomputable def fX6_readingsAtEnd (I : Nat → Int32) (A : Nat → Nat → Int32) : Int32 := f_lt ((I 18) - (1 : Int32)) fun y10620 => itr_ii (0 : Int32) (bX6_readingsAtEnd_9 I A) FU y10620 0
def wz_k339_X6_readingsAtEnd : List Cond := .code yX6_readingsAtEnd cX6_readingsAtEnd 3 (some .int) :: (wo_k207_X6_hasWindow ++ (wsX60 ++ (wz_k188_X6_hasReading ++ ([] : List Cond))))
theorem zg_k339_X6_readingsAtEnd : ∀ w ∈ wz_k339_X6_readingsAtEnd, goodWord w = true := zg_cons rfl (zg_app (by decide +kernel) (zg_app zgU_wsX60 (zg_app zg_k188_X6_hasReading zg_nil)))
theorem zi_k339_X6_readingsAtEnd : ∀ w ∈ wz_k339_X6_readingsAtEnd, w ∈ lw_tbl := zi_cons zw_1350 (zi_app (zi_cons zw_282 (zi_cons zw_905 (zi_cons zw_840 (zi_cons zw_841 (zi_cons zw_109 zi_nil))))) (zi_app inX6 (zi_app zi_k188_X6_hasReading zi_nil)))
set_option maxHeartbeats 4000000 in
set_option maxRecDepth 100000 in
theorem k339_X6_readingsAtEnd (l : Launch) (D : va_G) (zt : Nat × Nat × Nat × (Nat → Nat) × (Nat → Nat)) (q : Nat → Nat) (d : Nat → ClassId) (I : Nat → Int32) (A : Nat → Nat → Int32) (hIv : IvX I A) : GM l D zt (tyX d) yX6_readingsAtEnd wz_k339_X6_readingsAtEnd ({ frames := 2, cells := 0, slots := 0, locals := 42 } : Room) [.ref (q 13)] (wX q d I A) (fun v _ w' => ∃ y0 : Int32, FE (fX6_readingsAtEnd I A) y0 ∧ v = some (.int y0) ∧ w' = wX q d I A) 0 0 := by
  refine GM.of (cc := cX6_readingsAtEnd) (maxL := 3) (ret := (some .int)) (own := RX6) (lv := [(0, .ref (q 13))]) (by decide) rfl rfl (Nat.le_of_ble_eq_true rfl) rfl (fun κ sz hk hR hN => ?_)
  have hin6 : ∀ w ∈ u_ws RX6 TX6 3, w ∈ wz_k339_X6_readingsAtEnd := fun w h => (List.mem_cons_of_mem _ (List.mem_append_right _ (List.mem_append_left _ h)))
  have hF : FE (fX6_readingsAtEnd I A) (fX6_readingsAtEnd I A) := FE.rf
  refine g_iconst (v := 0) hk dX6_readingsAtEnd_0 (by decide) ?_
  refine g_istore_n (lv' := [(1, .int 0), (0, .ref (q 13))]) hk dX6_readingsAtEnd_1 (by decide) rfl ?_
  refine g_aload_n hk dX6_readingsAtEnd_2 rfl ?_
  refine gX_i18 (v := (I 18)) hk hin6 (List.mem_cons_of_mem _ (List.mem_append_left _ (List.mem_of_getElem? (i := 0) rfl))) dX6_readingsAtEnd_3 rfl ?_
  have f10619 := IvX_f18 hIv
  refine g_iconst (v := 1) hk dX6_readingsAtEnd_6 (by decide) ?_
  refine g_isub hk dX6_readingsAtEnd_7 ?_
  refine g_topi (fun y10620 ey10620 => ?_)
  replace hF := FE.lt hF ey10620
  have hy10620 : y10620.toInt = (I 18).toInt - 1 := i32_sub ey10620 rfl rfl (by omega) (by omega)
  refine g_istore_n (lv' := [(2, .int y10620), (1, .int 0), (0, .ref (q 13))]) hk dX6_readingsAtEnd_8 (by decide) rfl ?_
  have lp10648 : ∀ (n10649 : Nat) (x10621 : Int32) (x10622 : Int32), ((-1) ≤ x10621.toInt) → (x10621.toInt ≤ 159) → (x10621.toInt + 1 - 0 < (n10649 : Int)) → (0 < n10649) → (FE (fX6_readingsAtEnd I A) (itr_ii (0 : Int32) (bX6_readingsAtEnd_9 I A) n10649 x10621 x10622)) → GW κ 3 0 0 (wX q d I A) 9 [(2, .int x10621), (1, .int x10622), (0, .ref (q 13))] [] := by
    intro n10649
    induction n10649 with
    | zero =>
      intro x10621 x10622 h10646 h10647 m10650 m10650z hF
      exact absurd m10650z (Nat.lt_irrefl 0)
    | succ n10649 ih10652 =>
      intro x10621 x10622 h10646 h10647 m10650 m10650z hF
      replace hF := FE.itr_ii hF
      refine g_iload_n hk dX6_readingsAtEnd_9 rfl ?_
      refine g_if_lt (tgt := 30) (a := x10621.toInt) hk dX6_readingsAtEnd_10 (by decide) rfl (fun c10653 => ?_) (fun c10653 => ?_)
      · skip
        replace hF := FE.pos hF c10653
        refine g_iload_n hk dX6_readingsAtEnd_30 rfl ?_
        have b10654l := Int32.le_toInt x10622
        have b10654h := Int32.toInt_lt x10622
        exact g_iret hk hR rfl ⟨x10622, hF, rfl, rfl⟩ dX6_readingsAtEnd_31
      · skip
        replace hF := FE.neg hF c10653
        refine g_aload_n hk dX6_readingsAtEnd_13 rfl ?_
        refine g_iload_n hk dX6_readingsAtEnd_14 rfl ?_
        refine g_callV (n := 1) hk (k188_X6_hasReading l D zt q d I A x10621 hIv) (SP.same _) (fun _ h => h) (gi_V (List.mem_cons_of_mem _ (List.mem_append_left _ (List.mem_of_getElem? (i := 1) rfl))) (List.mem_cons_of_mem _ (List.mem_append_left _ (List.mem_of_getElem? (i := 2) rfl))) (List.mem_cons_of_mem _ (List.mem_append_left _ (List.mem_of_getElem? (i := 3) rfl))) (List.mem_cons_of_mem _ (List.mem_append_left _ (List.mem_of_getElem? (i := 4) rfl))) (gi_sub (fun w h => (List.mem_cons_of_mem _ (List.mem_append_right _ (List.mem_append_right _ (List.mem_append_left _ h))))) zg_k188_X6_hasReading)) rfl rfl rfl (by decide +kernel) ⟨Nat.le_of_ble_eq_true rfl, Nat.le_of_ble_eq_true rfl⟩ 13 rfl rfl rfl rfl (Nat.le_of_ble_eq_true rfl) ⟨Nat.le_of_ble_eq_true rfl, Nat.le_of_ble_eq_true rfl⟩ dX6_readingsAtEnd_15 (fun v ty' w' hp hk' => ?_)
        rcases hp with ⟨hC, rfl, rfl⟩ | ⟨hC, rfl, rfl⟩
        · skip
          replace hF := FE.pos hF hC
          show GW κ 3 0 0 (wX q d I A) 18 [(2, .int x10621), (1, .int x10622), (0, .ref (q 13))] [.int 0]
          refine g_if_eq (tgt := 30) (a := 0) hk dX6_readingsAtEnd_18 (by decide) rfl (fun _ => ?_) (fun z9 => absurd (show (0 : Int) = (0 : Int) from by decide) z9)
          refine g_iload_n hk dX6_readingsAtEnd_30 rfl ?_
          have b10657l := Int32.le_toInt x10622
          have b10657h := Int32.toInt_lt x10622
          exact g_iret hk hR rfl ⟨x10622, hF, rfl, rfl⟩ dX6_readingsAtEnd_31
        · skip
          replace hF := FE.neg hF (fe_ne hC (by decide))
          show GW κ 3 0 0 (wX q d I A) 18 [(2, .int x10621), (1, .int x10622), (0, .ref (q 13))] [.int 1]
          refine g_if_eq (tgt := 30) (a := 1) hk dX6_readingsAtEnd_18 (by decide) rfl (fun z9 => absurd z9 (show ¬ ((1 : Int) = (0 : Int)) from by decide)) (fun _ => ?_)
          have b10658l := Int32.le_toInt x10622
          have b10658h := Int32.toInt_lt x10622
          obtain ⟨y10659, ey10659⟩ : ∃ y : Int32, y = x10622 + Int32.ofInt 1 := ⟨_, rfl⟩
          replace hF := FE.lt hF ey10659
          refine g_iinc (v := y10659) (lv' := [(1, .int y10659), (2, .int x10621), (0, .ref (q 13))]) hk 1 dX6_readingsAtEnd_21 rfl ey10659.symm (by decide) rfl ?_
          obtain ⟨y10660, ey10660⟩ : ∃ y : Int32, y = x10621 + Int32.ofInt (-1) := ⟨_, rfl⟩
          replace hF := FE.lt hF ey10660
          have hy10660 : y10660.toInt = x10621.toInt + (-1) := i32_add ey10660 rfl (by decide) (by omega) (by omega)
          refine g_iinc (v := y10660) (lv' := [(2, .int y10660), (1, .int y10659), (0, .ref (q 13))]) hk 1 dX6_readingsAtEnd_24 rfl ey10660.symm (by decide) rfl ?_
          refine g_goto (tgt := 9) hk dX6_readingsAtEnd_27 (by decide) ?_
          exact g_lv (List.forall_mem_cons.mpr ⟨List.mem_of_getElem? (i := 0) rfl, (List.forall_mem_cons.mpr ⟨List.mem_of_getElem? (i := 1) rfl, (List.forall_mem_cons.mpr ⟨List.mem_of_getElem? (i := 2) rfl, (fun _ h => absurd h List.not_mem_nil)⟩)⟩)⟩) (ih10652 y10660 y10659 (by omega) (by omega) (by omega) (by omega) hF)
  have k10662 : (0 : Int32).toInt = 0 := rfl
  have b10663 := Int32.le_toInt y10620
  have b10664 := Int32.toInt_lt y10620
  have n10661a : y10620.toInt + 1 - 0 < (FU : Int) := by have := FU_eq; omega
  have n10661b : 0 < FU := by have := FU_eq; omega
  exact lp10648 FU y10620 0 (by omega) (by omega) n10661a n10661b hF
noncomputable def bX11_slotsHeld_4 (I : Nat → Int32) (A : Nat → Nat → Int32) : (Int32 → Int32 → (Int32)) → Int32 → Int32 → (Int32) := fun kk10727 x10677 x10678 => if 3 ≤ x10677.toInt then x10678 else if x10677.toInt = 0 then if (I 23).toInt = 0 then kk10727 1 x10678 else f_lt (x10678 + Int32.ofInt 1) fun y10736 => kk10727 1 y10736 else if x10677.toInt = 1 then if (I 25).toInt = 0 then kk10727 2 x10678 else f_lt (x10678 + Int32.ofInt 1) fun y10743 => kk10727 2 y10743 else if x10677.toInt = 2 then if (I 27).toInt = 0 then kk10727 3 x10678 else f_lt (x10678 + Int32.ofInt 1) fun y10750 => kk10727 3 y10750 else (0 : Int32)
noncomputable def fX11_slotsHeld (I : Nat → Int32) (A : Nat → Nat → Int32) : Int32 := itr_ii (0 : Int32) (bX11_slotsHeld_4 I A) FU 0 0
def wo_k340_X11_slotsHeld : List Cond := [Cond.fieldLink RX11 56 "WarpDesk" "slots" "[LWarpDesk$Stand;", Cond.fieldLink RX11 110 "WarpDesk$Stand" "held" "Z"]
def wz_k340_X11_slotsHeld : List Cond := .code yX11_slotsHeld cX11_slotsHeld 3 (some .int) :: (wo_k340_X11_slotsHeld ++ (wsX80 ++ (wsX110 ++ ([] : List Cond))))
theorem zg_k340_X11_slotsHeld : ∀ w ∈ wz_k340_X11_slotsHeld, goodWord w = true := zg_cons rfl (zg_app (by decide +kernel) (zg_app zgU_wsX80 (zg_app zgU_wsX110 zg_nil)))
theorem zi_k340_X11_slotsHeld : ∀ w ∈ wz_k340_X11_slotsHeld, w ∈ lw_tbl := zi_cons zw_1354 (zi_app (zi_cons zw_493 (zi_cons zw_201 zi_nil)) (zi_app inX8 (zi_app inX11 zi_nil)))
set_option maxHeartbeats 4000000 in
set_option maxRecDepth 100000 in
theorem k340_X11_slotsHeld (l : Launch) (D : va_G) (zt : Nat × Nat × Nat × (Nat → Nat) × (Nat → Nat)) (q : Nat → Nat) (d : Nat → ClassId) (I : Nat → Int32) (A : Nat → Nat → Int32) (hIv : IvX I A) : GM l D zt (tyX d) yX11_slotsHeld wz_k340_X11_slotsHeld ({ frames := 0, cells := 0, slots := 0, locals := 0 } : Room) [.ref (q 0)] (wX q d I A) (fun v _ w' => ∃ y0 : Int32, FE (fX11_slotsHeld I A) y0 ∧ v = some (.int y0) ∧ w' = wX q d I A) 0 0 := by
  refine GM.of (cc := cX11_slotsHeld) (maxL := 3) (ret := (some .int)) (own := RX11) (lv := [(0, .ref (q 0))]) (by decide) rfl rfl (Nat.le_of_ble_eq_true rfl) rfl (fun κ sz hk hR hN => ?_)
  have hin8 : ∀ w ∈ u_ws RX8 TX8 4, w ∈ wz_k340_X11_slotsHeld := fun w h => (List.mem_cons_of_mem _ (List.mem_append_right _ (List.mem_append_left _ h)))
  have hin11 : ∀ w ∈ u_ws RX11 TX11 10, w ∈ wz_k340_X11_slotsHeld := fun w h => (List.mem_cons_of_mem _ (List.mem_append_right _ (List.mem_append_right _ (List.mem_append_left _ h))))
  have hF : FE (fX11_slotsHeld I A) (fX11_slotsHeld I A) := FE.rf
  refine g_iconst (v := 0) hk dX11_slotsHeld_0 (by decide) ?_
  refine g_istore_n (lv' := [(1, .int 0), (0, .ref (q 0))]) hk dX11_slotsHeld_1 (by decide) rfl ?_
  refine g_iconst (v := 0) hk dX11_slotsHeld_2 (by decide) ?_
  refine g_istore_n (lv' := [(2, .int 0), (1, .int 0), (0, .ref (q 0))]) hk dX11_slotsHeld_3 (by decide) rfl ?_
  have lp10724 : ∀ (n10725 : Nat) (x10677 : Int32) (x10678 : Int32), (0 ≤ x10677.toInt) → (x10677.toInt ≤ 3) → (3 - x10677.toInt < (n10725 : Int)) → (0 < n10725) → (FE (fX11_slotsHeld I A) (itr_ii (0 : Int32) (bX11_slotsHeld_4 I A) n10725 x10677 x10678)) → GW κ 3 0 0 (wX q d I A) 4 [(2, .int x10677), (1, .int x10678), (0, .ref (q 0))] [] := by
    intro n10725
    induction n10725 with
    | zero =>
      intro x10677 x10678 h10722 h10723 m10726 m10726z hF
      exact absurd m10726z (Nat.lt_irrefl 0)
    | succ n10725 ih10728 =>
      intro x10677 x10678 h10722 h10723 m10726 m10726z hF
      replace hF := FE.itr_ii hF
      refine g_iload_n hk dX11_slotsHeld_4 rfl ?_
      refine g_aload_n hk dX11_slotsHeld_5 rfl ?_
      refine gX_r0_6 hk hin11 (List.mem_cons_of_mem _ (List.mem_append_left _ (List.mem_of_getElem? (i := 0) rfl))) dX11_slotsHeld_6 ?_
      refine nX_14 hk dX11_slotsHeld_9 ?_
      refine g_icmp_ge (tgt := 34) (a := x10677.toInt) (b := 3) hk dX11_slotsHeld_10 (by decide) rfl rfl (fun c10729 => ?_) (fun c10729 => ?_)
      · skip
        replace hF := FE.pos hF c10729
        refine g_iload_n hk dX11_slotsHeld_34 rfl ?_
        have b10730l := Int32.le_toInt x10678
        have b10730h := Int32.toInt_lt x10678
        exact g_iret hk hR rfl ⟨x10678, hF, rfl, rfl⟩ dX11_slotsHeld_35
      · skip
        replace hF := FE.neg hF c10729
        refine g_aload_n hk dX11_slotsHeld_13 rfl ?_
        refine gX_r0_6 hk hin11 (List.mem_cons_of_mem _ (List.mem_append_left _ (List.mem_of_getElem? (i := 0) rfl))) dX11_slotsHeld_14 ?_
        refine g_iload_n hk dX11_slotsHeld_17 rfl ?_
        by_cases c10731 : x10677.toInt = 0
        · have ec10731 : x10677 = 0 := Int32.toInt_inj.mp c10731
          replace hF := FE.pos hF c10731
          rw [ec10731]
          show GW κ 3 0 0 (wX q d I A) 18 [(2, .int 0), (1, .int x10678), (0, .ref (q 0))] [.int 0, .ref (q 24)]
          refine lX_14 hk (vp_in_iff.mpr ⟨by decide, by decide⟩) rfl dX11_slotsHeld_18 ?_
          refine gX_i23 (v := (I 23)) hk hin8 (List.mem_cons_of_mem _ (List.mem_append_left _ (List.mem_of_getElem? (i := 1) rfl))) dX11_slotsHeld_19 rfl ?_
          have b10732l := Int32.le_toInt (I 23)
          have b10732h := Int32.toInt_lt (I 23)
          refine g_if_eq (tgt := 28) (a := (I 23).toInt) hk dX11_slotsHeld_22 (by decide) rfl (fun c10733 => ?_) (fun c10733 => ?_)
          · skip
            replace hF := FE.pos hF c10733
            refine g_iinc (v := 1) (lv' := [(2, .int 1), (1, .int x10678), (0, .ref (q 0))]) hk 0 dX11_slotsHeld_28 rfl (by decide) (by decide) rfl ?_
            refine g_goto (tgt := 4) hk dX11_slotsHeld_31 (by decide) ?_
            have k10734 : (1 : Int32).toInt = 1 := rfl
            exact g_lv (List.forall_mem_cons.mpr ⟨List.mem_of_getElem? (i := 0) rfl, (List.forall_mem_cons.mpr ⟨List.mem_of_getElem? (i := 1) rfl, (List.forall_mem_cons.mpr ⟨List.mem_of_getElem? (i := 2) rfl, (fun _ h => absurd h List.not_mem_nil)⟩)⟩)⟩) (ih10728 1 x10678 (by omega) (by omega) (by omega) (by omega) hF)
          · skip
            replace hF := FE.neg hF c10733
            have b10735l := Int32.le_toInt x10678
            have b10735h := Int32.toInt_lt x10678
            obtain ⟨y10736, ey10736⟩ : ∃ y : Int32, y = x10678 + Int32.ofInt 1 := ⟨_, rfl⟩
            replace hF := FE.lt hF ey10736
            refine g_iinc (v := y10736) (lv' := [(1, .int y10736), (2, .int 0), (0, .ref (q 0))]) hk 1 dX11_slotsHeld_25 rfl ey10736.symm (by decide) rfl ?_
            refine g_iinc (v := 1) (lv' := [(2, .int 1), (1, .int y10736), (0, .ref (q 0))]) hk 1 dX11_slotsHeld_28 rfl (by decide) (by decide) rfl ?_
            refine g_goto (tgt := 4) hk dX11_slotsHeld_31 (by decide) ?_
            have k10737 : (1 : Int32).toInt = 1 := rfl
            exact g_lv (List.forall_mem_cons.mpr ⟨List.mem_of_getElem? (i := 0) rfl, (List.forall_mem_cons.mpr ⟨List.mem_of_getElem? (i := 1) rfl, (List.forall_mem_cons.mpr ⟨List.mem_of_getElem? (i := 2) rfl, (fun _ h => absurd h List.not_mem_nil)⟩)⟩)⟩) (ih10728 1 y10736 (by omega) (by omega) (by omega) (by omega) hF)
        replace hF := FE.neg hF c10731
        by_cases c10738 : x10677.toInt = 1
        · have ec10738 : x10677 = 1 := Int32.toInt_inj.mp c10738
          replace hF := FE.pos hF c10738
          rw [ec10738]
          show GW κ 3 0 0 (wX q d I A) 18 [(2, .int 1), (1, .int x10678), (0, .ref (q 0))] [.int 1, .ref (q 24)]
          refine lX_14 hk (vp_in_iff.mpr ⟨by decide, by decide⟩) rfl dX11_slotsHeld_18 ?_
          refine gX_i25 (v := (I 25)) hk hin8 (List.mem_cons_of_mem _ (List.mem_append_left _ (List.mem_of_getElem? (i := 1) rfl))) dX11_slotsHeld_19 rfl ?_
          have b10739l := Int32.le_toInt (I 25)
          have b10739h := Int32.toInt_lt (I 25)
          refine g_if_eq (tgt := 28) (a := (I 25).toInt) hk dX11_slotsHeld_22 (by decide) rfl (fun c10740 => ?_) (fun c10740 => ?_)
          · skip
            replace hF := FE.pos hF c10740
            refine g_iinc (v := 2) (lv' := [(2, .int 2), (1, .int x10678), (0, .ref (q 0))]) hk 0 dX11_slotsHeld_28 rfl (by decide) (by decide) rfl ?_
            refine g_goto (tgt := 4) hk dX11_slotsHeld_31 (by decide) ?_
            have k10741 : (2 : Int32).toInt = 2 := rfl
            exact g_lv (List.forall_mem_cons.mpr ⟨List.mem_of_getElem? (i := 0) rfl, (List.forall_mem_cons.mpr ⟨List.mem_of_getElem? (i := 1) rfl, (List.forall_mem_cons.mpr ⟨List.mem_of_getElem? (i := 2) rfl, (fun _ h => absurd h List.not_mem_nil)⟩)⟩)⟩) (ih10728 2 x10678 (by omega) (by omega) (by omega) (by omega) hF)
          · skip
            replace hF := FE.neg hF c10740
            have b10742l := Int32.le_toInt x10678
            have b10742h := Int32.toInt_lt x10678
            obtain ⟨y10743, ey10743⟩ : ∃ y : Int32, y = x10678 + Int32.ofInt 1 := ⟨_, rfl⟩
            replace hF := FE.lt hF ey10743
            refine g_iinc (v := y10743) (lv' := [(1, .int y10743), (2, .int 1), (0, .ref (q 0))]) hk 1 dX11_slotsHeld_25 rfl ey10743.symm (by decide) rfl ?_
            refine g_iinc (v := 2) (lv' := [(2, .int 2), (1, .int y10743), (0, .ref (q 0))]) hk 1 dX11_slotsHeld_28 rfl (by decide) (by decide) rfl ?_
            refine g_goto (tgt := 4) hk dX11_slotsHeld_31 (by decide) ?_
            have k10744 : (2 : Int32).toInt = 2 := rfl
            exact g_lv (List.forall_mem_cons.mpr ⟨List.mem_of_getElem? (i := 0) rfl, (List.forall_mem_cons.mpr ⟨List.mem_of_getElem? (i := 1) rfl, (List.forall_mem_cons.mpr ⟨List.mem_of_getElem? (i := 2) rfl, (fun _ h => absurd h List.not_mem_nil)⟩)⟩)⟩) (ih10728 2 y10743 (by omega) (by omega) (by omega) (by omega) hF)
        replace hF := FE.neg hF c10738
        by_cases c10745 : x10677.toInt = 2
        · have ec10745 : x10677 = 2 := Int32.toInt_inj.mp c10745
          replace hF := FE.pos hF c10745
          rw [ec10745]
          show GW κ 3 0 0 (wX q d I A) 18 [(2, .int 2), (1, .int x10678), (0, .ref (q 0))] [.int 2, .ref (q 24)]
          refine lX_14 hk (vp_in_iff.mpr ⟨by decide, by decide⟩) rfl dX11_slotsHeld_18 ?_
          refine gX_i27 (v := (I 27)) hk hin8 (List.mem_cons_of_mem _ (List.mem_append_left _ (List.mem_of_getElem? (i := 1) rfl))) dX11_slotsHeld_19 rfl ?_
          have b10746l := Int32.le_toInt (I 27)
          have b10746h := Int32.toInt_lt (I 27)
          refine g_if_eq (tgt := 28) (a := (I 27).toInt) hk dX11_slotsHeld_22 (by decide) rfl (fun c10747 => ?_) (fun c10747 => ?_)
          · skip
            replace hF := FE.pos hF c10747
            refine g_iinc (v := 3) (lv' := [(2, .int 3), (1, .int x10678), (0, .ref (q 0))]) hk 0 dX11_slotsHeld_28 rfl (by decide) (by decide) rfl ?_
            refine g_goto (tgt := 4) hk dX11_slotsHeld_31 (by decide) ?_
            have k10748 : (3 : Int32).toInt = 3 := rfl
            exact g_lv (List.forall_mem_cons.mpr ⟨List.mem_of_getElem? (i := 0) rfl, (List.forall_mem_cons.mpr ⟨List.mem_of_getElem? (i := 1) rfl, (List.forall_mem_cons.mpr ⟨List.mem_of_getElem? (i := 2) rfl, (fun _ h => absurd h List.not_mem_nil)⟩)⟩)⟩) (ih10728 3 x10678 (by omega) (by omega) (by omega) (by omega) hF)
          · skip
            replace hF := FE.neg hF c10747
            have b10749l := Int32.le_toInt x10678
            have b10749h := Int32.toInt_lt x10678
            obtain ⟨y10750, ey10750⟩ : ∃ y : Int32, y = x10678 + Int32.ofInt 1 := ⟨_, rfl⟩
            replace hF := FE.lt hF ey10750
            refine g_iinc (v := y10750) (lv' := [(1, .int y10750), (2, .int 2), (0, .ref (q 0))]) hk 1 dX11_slotsHeld_25 rfl ey10750.symm (by decide) rfl ?_
            refine g_iinc (v := 3) (lv' := [(2, .int 3), (1, .int y10750), (0, .ref (q 0))]) hk 1 dX11_slotsHeld_28 rfl (by decide) (by decide) rfl ?_
            refine g_goto (tgt := 4) hk dX11_slotsHeld_31 (by decide) ?_
            have k10751 : (3 : Int32).toInt = 3 := rfl
            exact g_lv (List.forall_mem_cons.mpr ⟨List.mem_of_getElem? (i := 0) rfl, (List.forall_mem_cons.mpr ⟨List.mem_of_getElem? (i := 1) rfl, (List.forall_mem_cons.mpr ⟨List.mem_of_getElem? (i := 2) rfl, (fun _ h => absurd h List.not_mem_nil)⟩)⟩)⟩) (ih10728 3 y10750 (by omega) (by omega) (by omega) (by omega) hF)
        replace hF := FE.neg hF c10745
        exfalso; omega
  have k10753 : (0 : Int32).toInt = 0 := rfl
  have n10752a : 3 - 0 < (FU : Int) := by have := FU_eq; omega
  have n10752b : 0 < FU := by have := FU_eq; omega
  exact lp10724 FU 0 0 (by omega) (by omega) n10752a n10752b hF
noncomputable def fX11_count (I : Nat → Int32) (A : Nat → Nat → Int32) (z1 : Int32) : Int32 := if z1.toInt = 0 then (I 18) else if z1.toInt = 1 then f_lt (fX6_gapCount I A) fun y10598 => y10598 else if z1.toInt = 2 then (I 19) else if z1.toInt = 3 then f_lt (fX7_valueOf_2 I A 0) fun y10604 => y10604 else if z1.toInt = 4 then f_lt (fX7_valueOf_2 I A 1) fun y10608 => y10608 else if z1.toInt = 5 then f_lt (fX7_valueOf_2 I A 2) fun y10612 => y10612 else if z1.toInt = 6 then f_lt (fX7_valueOf_2 I A 3) fun y10616 => y10616 else if z1.toInt = 7 then f_lt (fX6_readingsAtEnd I A) fun y10665 => y10665 else if z1.toInt = 8 then (I 0) else if z1.toInt = 9 then (I 21) else if z1.toInt = 10 then f_lt (fX6_sumOf I A 0 (I 18)) fun y10674 => y10674 else if z1.toInt = 11 then f_lt (fX11_slotsHeld I A) fun y10754 => y10754 else if z1.toInt = 12 then f_lt (fX6_greatestOf I A 0 (I 18)) fun y10759 => y10759 else if z1.toInt = 13 then f_lt (fX6_leastOf I A 0 (I 18)) fun y10765 => y10765 else if z1.toInt = 14 then f_lt (fX6_runFrom I A 0) fun y10769 => y10769 else (-1)
def wo_k337_X11_count : List Cond := [Cond.fieldLink RX11 28 "WarpDesk" "series" "LWarpDesk$Series;", Cond.fieldLink RX11 138 "WarpDesk$Series" "size" "I", Cond.methodLink RX11 374 yX6_gapCount, Cond.instanceMethod yX6_gapCount, Cond.selects RX6 yX6_gapCount yX6_gapCount, Cond.initialized RX6, Cond.fieldLink RX11 35 "WarpDesk" "queries" "LWarpDesk$Queries;", Cond.fieldLink RX11 377 "WarpDesk$Queries" "size" "I", Cond.fieldLink RX11 42 "WarpDesk" "settings" "LWarpDesk$Settings;", Cond.methodLink RX11 154 yX7_valueOf, Cond.instanceMethod yX7_valueOf, Cond.selects RX7 yX7_valueOf yX7_valueOf, Cond.initialized RX7, Cond.methodLink RX11 378 yX6_readingsAtEnd, Cond.instanceMethod yX6_readingsAtEnd, Cond.selects RX6 yX6_readingsAtEnd yX6_readingsAtEnd, Cond.fieldLink RX11 10 "WarpDesk" "tape" "LWarpDesk$Tape;", Cond.fieldLink RX11 85 "WarpDesk$Tape" "size" "I", Cond.fieldLink RX11 49 "WarpDesk" "past" "LWarpDesk$Past;", Cond.fieldLink RX11 381 "WarpDesk$Past" "size" "I", Cond.methodLink RX11 187 yX6_sumOf, Cond.instanceMethod yX6_sumOf, Cond.selects RX6 yX6_sumOf yX6_sumOf, Cond.methodLink RX11 382 yX11_slotsHeld, Cond.instanceMethod yX11_slotsHeld, Cond.selects RX11 yX11_slotsHeld yX11_slotsHeld, Cond.initialized RX11, Cond.methodLink RX11 193 yX6_greatestOf, Cond.instanceMethod yX6_greatestOf, Cond.selects RX6 yX6_greatestOf yX6_greatestOf, Cond.methodLink RX11 190 yX6_leastOf, Cond.instanceMethod yX6_leastOf, Cond.selects RX6 yX6_leastOf yX6_leastOf, Cond.methodLink RX11 359 yX6_runFrom, Cond.instanceMethod yX6_runFrom, Cond.selects RX6 yX6_runFrom yX6_runFrom]
def wz_k337_X11_count : List Cond := .code yX11_count cX11_count 2 (some .int) :: (wo_k337_X11_count ++ (wsX30 ++ (wsX40 ++ (wsX60 ++ (wsX100 ++ (wsX110 ++ (wz_k338_X6_gapCount ++ (wz_k174_X7_valueOf ++ (wz_k339_X6_readingsAtEnd ++ (wz_k208_X6_sumOf ++ (wz_k340_X11_slotsHeld ++ (wz_k210_X6_greatestOf ++ (wz_k209_X6_leastOf ++ (wz_k310_X6_runFrom ++ ([] : List Cond)))))))))))))))
theorem zg_k337_X11_count : ∀ w ∈ wz_k337_X11_count, goodWord w = true := zg_cons rfl (zg_app (by decide +kernel) (zg_app zgU_wsX30 (zg_app zgU_wsX40 (zg_app zgU_wsX60 (zg_app zgU_wsX100 (zg_app zgU_wsX110 (zg_app zg_k338_X6_gapCount (zg_app zg_k174_X7_valueOf (zg_app zg_k339_X6_readingsAtEnd (zg_app zg_k208_X6_sumOf (zg_app zg_k340_X11_slotsHeld (zg_app zg_k210_X6_greatestOf (zg_app zg_k209_X6_leastOf (zg_app zg_k310_X6_runFrom zg_nil))))))))))))))
theorem zi_k337_X11_count : ∀ w ∈ wz_k337_X11_count, w ∈ lw_tbl := zi_cons zw_1342 (zi_app (zi_cons zw_489 (zi_cons zw_284 (zi_cons zw_1343 (zi_cons zw_1344 (zi_cons zw_1345 (zi_cons zw_109 (zi_cons zw_490 (zi_cons zw_222 (zi_cons zw_491 (zi_cons zw_863 (zi_cons zw_786 (zi_cons zw_787 (zi_cons zw_107 (zi_cons zw_1347 (zi_cons zw_1348 (zi_cons zw_1349 (zi_cons zw_487 (zi_cons zw_136 (zi_cons zw_492 (zi_cons zw_307 (zi_cons zw_907 (zi_cons zw_908 (zi_cons zw_909 (zi_cons zw_1351 (zi_cons zw_1353 (zi_cons zw_43 (zi_cons zw_103 (zi_cons zw_915 (zi_cons zw_916 (zi_cons zw_917 (zi_cons zw_911 (zi_cons zw_912 (zi_cons zw_913 (zi_cons zw_1325 (zi_cons zw_1322 (zi_cons zw_1323 zi_nil)))))))))))))))))))))))))))))))))))) (zi_app inX3 (zi_app inX4 (zi_app inX6 (zi_app inX10 (zi_app inX11 (zi_app zi_k338_X6_gapCount (zi_app zi_k174_X7_valueOf (zi_app zi_k339_X6_readingsAtEnd (zi_app zi_k208_X6_sumOf (zi_app zi_k340_X11_slotsHeld (zi_app zi_k210_X6_greatestOf (zi_app zi_k209_X6_leastOf (zi_app zi_k310_X6_runFrom zi_nil))))))))))))))
set_option maxHeartbeats 4000000 in
set_option maxRecDepth 100000 in
theorem k337_X11_count (l : Launch) (D : va_G) (zt : Nat × Nat × Nat × (Nat → Nat) × (Nat → Nat)) (q : Nat → Nat) (d : Nat → ClassId) (I : Nat → Int32) (A : Nat → Nat → Int32) (z1 : Int32) (hIv : IvX I A) : GM l D zt (tyX d) yX11_count wz_k337_X11_count ({ frames := 3, cells := 0, slots := 0, locals := 66 } : Room) [.ref (q 0), .int z1] (wX q d I A) (fun v _ w' => ∃ y0 : Int32, FE (fX11_count I A z1) y0 ∧ v = some (.int y0) ∧ w' = wX q d I A) 0 0 := by
  refine GM.of (cc := cX11_count) (maxL := 2) (ret := (some .int)) (own := RX11) (lv := [(0, .ref (q 0)), (1, .int z1)]) (by decide) rfl rfl (Nat.le_of_ble_eq_true rfl) rfl (fun κ sz hk hR hN => ?_)
  have hin3 : ∀ w ∈ u_ws RX3 TX3 5, w ∈ wz_k337_X11_count := fun w h => (List.mem_cons_of_mem _ (List.mem_append_right _ (List.mem_append_left _ h)))
  have hin4 : ∀ w ∈ u_ws RX4 TX4 3, w ∈ wz_k337_X11_count := fun w h => (List.mem_cons_of_mem _ (List.mem_append_right _ (List.mem_append_right _ (List.mem_append_left _ h))))
  have hin6 : ∀ w ∈ u_ws RX6 TX6 3, w ∈ wz_k337_X11_count := fun w h => (List.mem_cons_of_mem _ (List.mem_append_right _ (List.mem_append_right _ (List.mem_append_right _ (List.mem_append_left _ h)))))
  have hin10 : ∀ w ∈ u_ws RX10 TX10 7, w ∈ wz_k337_X11_count := fun w h => (List.mem_cons_of_mem _ (List.mem_append_right _ (List.mem_append_right _ (List.mem_append_right _ (List.mem_append_right _ (List.mem_append_left _ h))))))
  have hin11 : ∀ w ∈ u_ws RX11 TX11 10, w ∈ wz_k337_X11_count := fun w h => (List.mem_cons_of_mem _ (List.mem_append_right _ (List.mem_append_right _ (List.mem_append_right _ (List.mem_append_right _ (List.mem_append_right _ (List.mem_append_left _ h)))))))
  have hF : FE (fX11_count I A z1) (fX11_count I A z1) := FE.rf
  refine g_iload_n hk dX11_count_0 rfl ?_
  by_cases c10535 : z1.toInt = 0
  · refine g_tabIn (tgt := 76) (a := 0) hk dX11_count_1 c10535 (by decide) (by decide) rfl (by decide) ?_
    replace hF := FE.pos hF c10535
    refine g_aload_n hk dX11_count_76 rfl ?_
    refine gX_r0_2 hk hin11 (List.mem_cons_of_mem _ (List.mem_append_left _ (List.mem_of_getElem? (i := 0) rfl))) dX11_count_77 ?_
    refine gX_i18 (v := (I 18)) hk hin6 (List.mem_cons_of_mem _ (List.mem_append_left _ (List.mem_of_getElem? (i := 1) rfl))) dX11_count_80 rfl ?_
    have f10536 := IvX_f18 hIv
    exact g_iret hk hR rfl ⟨(I 18), hF, rfl, rfl⟩ dX11_count_83
  replace hF := FE.neg hF c10535
  by_cases c10537 : z1.toInt = 1
  · refine g_tabIn (tgt := 84) (a := 1) hk dX11_count_1 c10537 (by decide) (by decide) rfl (by decide) ?_
    replace hF := FE.pos hF c10537
    refine g_aload_n hk dX11_count_84 rfl ?_
    refine gX_r0_2 hk hin11 (List.mem_cons_of_mem _ (List.mem_append_left _ (List.mem_of_getElem? (i := 0) rfl))) dX11_count_85 ?_
    refine g_callV (n := 0) hk (k338_X6_gapCount l D zt q d I A  hIv) (SP.same _) (fun _ h => h) (gi_V (List.mem_cons_of_mem _ (List.mem_append_left _ (List.mem_of_getElem? (i := 2) rfl))) (List.mem_cons_of_mem _ (List.mem_append_left _ (List.mem_of_getElem? (i := 3) rfl))) (List.mem_cons_of_mem _ (List.mem_append_left _ (List.mem_of_getElem? (i := 4) rfl))) (List.mem_cons_of_mem _ (List.mem_append_left _ (List.mem_of_getElem? (i := 5) rfl))) (gi_sub (fun w h => (List.mem_cons_of_mem _ (List.mem_append_right _ (List.mem_append_right _ (List.mem_append_right _ (List.mem_append_right _ (List.mem_append_right _ (List.mem_append_right _ (List.mem_append_left _ h))))))))) zg_k338_X6_gapCount)) rfl rfl rfl (by decide +kernel) ⟨Nat.le_of_ble_eq_true rfl, Nat.le_of_ble_eq_true rfl⟩ 13 rfl rfl rfl rfl (Nat.le_of_ble_eq_true rfl) ⟨Nat.le_of_ble_eq_true rfl, Nat.le_of_ble_eq_true rfl⟩ dX11_count_88 (fun v ty' w' hp hk' => ?_)
    obtain ⟨y10598, hC, rfl, rfl⟩ := hp
    replace hF := FE.lt hF (fe_s hC)
    show GW κ 2 0 0 (wX q d I A) 91 [(0, .ref (q 0)), (1, .int z1)] [.int y10598]
    have b10599l := Int32.le_toInt y10598
    have b10599h := Int32.toInt_lt y10598
    exact g_iret hk hR rfl ⟨y10598, hF, rfl, rfl⟩ dX11_count_91
  replace hF := FE.neg hF c10537
  by_cases c10600 : z1.toInt = 2
  · refine g_tabIn (tgt := 92) (a := 2) hk dX11_count_1 c10600 (by decide) (by decide) rfl (by decide) ?_
    replace hF := FE.pos hF c10600
    refine g_aload_n hk dX11_count_92 rfl ?_
    refine gX_r0_3 hk hin11 (List.mem_cons_of_mem _ (List.mem_append_left _ (List.mem_of_getElem? (i := 6) rfl))) dX11_count_93 ?_
    refine gX_i19 (v := (I 19)) hk hin4 (List.mem_cons_of_mem _ (List.mem_append_left _ (List.mem_of_getElem? (i := 7) rfl))) dX11_count_96 rfl ?_
    have b10601l := Int32.le_toInt (I 19)
    have b10601h := Int32.toInt_lt (I 19)
    exact g_iret hk hR rfl ⟨(I 19), hF, rfl, rfl⟩ dX11_count_99
  replace hF := FE.neg hF c10600
  by_cases c10602 : z1.toInt = 3
  · refine g_tabIn (tgt := 100) (a := 3) hk dX11_count_1 c10602 (by decide) (by decide) rfl (by decide) ?_
    replace hF := FE.pos hF c10602
    refine g_aload_n hk dX11_count_100 rfl ?_
    refine gX_r0_4 hk hin11 (List.mem_cons_of_mem _ (List.mem_append_left _ (List.mem_of_getElem? (i := 8) rfl))) dX11_count_101 ?_
    refine g_iconst (v := 0) hk dX11_count_104 (by decide) ?_
    have k10603 : (0 : Int32).toInt = 0 := rfl
    refine g_callV (n := 1) hk (k194_X7_valueOf l D zt q d I A 0 hIv) (SP.same _) (fun _ h => h) (gi_V (List.mem_cons_of_mem _ (List.mem_append_left _ (List.mem_of_getElem? (i := 9) rfl))) (List.mem_cons_of_mem _ (List.mem_append_left _ (List.mem_of_getElem? (i := 10) rfl))) (List.mem_cons_of_mem _ (List.mem_append_left _ (List.mem_of_getElem? (i := 11) rfl))) (List.mem_cons_of_mem _ (List.mem_append_left _ (List.mem_of_getElem? (i := 12) rfl))) (gi_sub (fun w h => (List.mem_cons_of_mem _ (List.mem_append_right _ (List.mem_append_right _ (List.mem_append_right _ (List.mem_append_right _ (List.mem_append_right _ (List.mem_append_right _ (List.mem_append_right _ (List.mem_append_left _ h)))))))))) zg_k174_X7_valueOf)) rfl rfl rfl (by decide +kernel) ⟨Nat.le_of_ble_eq_true rfl, Nat.le_of_ble_eq_true rfl⟩ 18 rfl rfl rfl rfl (Nat.le_of_ble_eq_true rfl) ⟨Nat.le_of_ble_eq_true rfl, Nat.le_of_ble_eq_true rfl⟩ dX11_count_105 (fun v ty' w' hp hk' => ?_)
    obtain ⟨y10604, hC, rfl, rfl⟩ := hp
    replace hF := FE.lt hF (fe_s hC)
    show GW κ 2 0 0 (wX q d I A) 108 [(0, .ref (q 0)), (1, .int z1)] [.int y10604]
    have b10605l := Int32.le_toInt y10604
    have b10605h := Int32.toInt_lt y10604
    exact g_iret hk hR rfl ⟨y10604, hF, rfl, rfl⟩ dX11_count_108
  replace hF := FE.neg hF c10602
  by_cases c10606 : z1.toInt = 4
  · refine g_tabIn (tgt := 109) (a := 4) hk dX11_count_1 c10606 (by decide) (by decide) rfl (by decide) ?_
    replace hF := FE.pos hF c10606
    refine g_aload_n hk dX11_count_109 rfl ?_
    refine gX_r0_4 hk hin11 (List.mem_cons_of_mem _ (List.mem_append_left _ (List.mem_of_getElem? (i := 8) rfl))) dX11_count_110 ?_
    refine g_iconst (v := 1) hk dX11_count_113 (by decide) ?_
    have k10607 : (1 : Int32).toInt = 1 := rfl
    refine g_callV (n := 1) hk (k194_X7_valueOf l D zt q d I A 1 hIv) (SP.same _) (fun _ h => h) (gi_V (List.mem_cons_of_mem _ (List.mem_append_left _ (List.mem_of_getElem? (i := 9) rfl))) (List.mem_cons_of_mem _ (List.mem_append_left _ (List.mem_of_getElem? (i := 10) rfl))) (List.mem_cons_of_mem _ (List.mem_append_left _ (List.mem_of_getElem? (i := 11) rfl))) (List.mem_cons_of_mem _ (List.mem_append_left _ (List.mem_of_getElem? (i := 12) rfl))) (gi_sub (fun w h => (List.mem_cons_of_mem _ (List.mem_append_right _ (List.mem_append_right _ (List.mem_append_right _ (List.mem_append_right _ (List.mem_append_right _ (List.mem_append_right _ (List.mem_append_right _ (List.mem_append_left _ h)))))))))) zg_k174_X7_valueOf)) rfl rfl rfl (by decide +kernel) ⟨Nat.le_of_ble_eq_true rfl, Nat.le_of_ble_eq_true rfl⟩ 18 rfl rfl rfl rfl (Nat.le_of_ble_eq_true rfl) ⟨Nat.le_of_ble_eq_true rfl, Nat.le_of_ble_eq_true rfl⟩ dX11_count_114 (fun v ty' w' hp hk' => ?_)
    obtain ⟨y10608, hC, rfl, rfl⟩ := hp
    replace hF := FE.lt hF (fe_s hC)
    show GW κ 2 0 0 (wX q d I A) 117 [(0, .ref (q 0)), (1, .int z1)] [.int y10608]
    have b10609l := Int32.le_toInt y10608
    have b10609h := Int32.toInt_lt y10608
    exact g_iret hk hR rfl ⟨y10608, hF, rfl, rfl⟩ dX11_count_117
  replace hF := FE.neg hF c10606
  by_cases c10610 : z1.toInt = 5
  · refine g_tabIn (tgt := 118) (a := 5) hk dX11_count_1 c10610 (by decide) (by decide) rfl (by decide) ?_
    replace hF := FE.pos hF c10610
    refine g_aload_n hk dX11_count_118 rfl ?_
    refine gX_r0_4 hk hin11 (List.mem_cons_of_mem _ (List.mem_append_left _ (List.mem_of_getElem? (i := 8) rfl))) dX11_count_119 ?_
    refine g_iconst (v := 2) hk dX11_count_122 (by decide) ?_
    have k10611 : (2 : Int32).toInt = 2 := rfl
    refine g_callV (n := 1) hk (k194_X7_valueOf l D zt q d I A 2 hIv) (SP.same _) (fun _ h => h) (gi_V (List.mem_cons_of_mem _ (List.mem_append_left _ (List.mem_of_getElem? (i := 9) rfl))) (List.mem_cons_of_mem _ (List.mem_append_left _ (List.mem_of_getElem? (i := 10) rfl))) (List.mem_cons_of_mem _ (List.mem_append_left _ (List.mem_of_getElem? (i := 11) rfl))) (List.mem_cons_of_mem _ (List.mem_append_left _ (List.mem_of_getElem? (i := 12) rfl))) (gi_sub (fun w h => (List.mem_cons_of_mem _ (List.mem_append_right _ (List.mem_append_right _ (List.mem_append_right _ (List.mem_append_right _ (List.mem_append_right _ (List.mem_append_right _ (List.mem_append_right _ (List.mem_append_left _ h)))))))))) zg_k174_X7_valueOf)) rfl rfl rfl (by decide +kernel) ⟨Nat.le_of_ble_eq_true rfl, Nat.le_of_ble_eq_true rfl⟩ 18 rfl rfl rfl rfl (Nat.le_of_ble_eq_true rfl) ⟨Nat.le_of_ble_eq_true rfl, Nat.le_of_ble_eq_true rfl⟩ dX11_count_123 (fun v ty' w' hp hk' => ?_)
    obtain ⟨y10612, hC, rfl, rfl⟩ := hp
    replace hF := FE.lt hF (fe_s hC)
    show GW κ 2 0 0 (wX q d I A) 126 [(0, .ref (q 0)), (1, .int z1)] [.int y10612]
    have b10613l := Int32.le_toInt y10612
    have b10613h := Int32.toInt_lt y10612
    exact g_iret hk hR rfl ⟨y10612, hF, rfl, rfl⟩ dX11_count_126
  replace hF := FE.neg hF c10610
  by_cases c10614 : z1.toInt = 6
  · refine g_tabIn (tgt := 127) (a := 6) hk dX11_count_1 c10614 (by decide) (by decide) rfl (by decide) ?_
    replace hF := FE.pos hF c10614
    refine g_aload_n hk dX11_count_127 rfl ?_
    refine gX_r0_4 hk hin11 (List.mem_cons_of_mem _ (List.mem_append_left _ (List.mem_of_getElem? (i := 8) rfl))) dX11_count_128 ?_
    refine g_iconst (v := 3) hk dX11_count_131 (by decide) ?_
    have k10615 : (3 : Int32).toInt = 3 := rfl
    refine g_callV (n := 1) hk (k194_X7_valueOf l D zt q d I A 3 hIv) (SP.same _) (fun _ h => h) (gi_V (List.mem_cons_of_mem _ (List.mem_append_left _ (List.mem_of_getElem? (i := 9) rfl))) (List.mem_cons_of_mem _ (List.mem_append_left _ (List.mem_of_getElem? (i := 10) rfl))) (List.mem_cons_of_mem _ (List.mem_append_left _ (List.mem_of_getElem? (i := 11) rfl))) (List.mem_cons_of_mem _ (List.mem_append_left _ (List.mem_of_getElem? (i := 12) rfl))) (gi_sub (fun w h => (List.mem_cons_of_mem _ (List.mem_append_right _ (List.mem_append_right _ (List.mem_append_right _ (List.mem_append_right _ (List.mem_append_right _ (List.mem_append_right _ (List.mem_append_right _ (List.mem_append_left _ h)))))))))) zg_k174_X7_valueOf)) rfl rfl rfl (by decide +kernel) ⟨Nat.le_of_ble_eq_true rfl, Nat.le_of_ble_eq_true rfl⟩ 18 rfl rfl rfl rfl (Nat.le_of_ble_eq_true rfl) ⟨Nat.le_of_ble_eq_true rfl, Nat.le_of_ble_eq_true rfl⟩ dX11_count_132 (fun v ty' w' hp hk' => ?_)
    obtain ⟨y10616, hC, rfl, rfl⟩ := hp
    replace hF := FE.lt hF (fe_s hC)
    show GW κ 2 0 0 (wX q d I A) 135 [(0, .ref (q 0)), (1, .int z1)] [.int y10616]
    have b10617l := Int32.le_toInt y10616
    have b10617h := Int32.toInt_lt y10616
    exact g_iret hk hR rfl ⟨y10616, hF, rfl, rfl⟩ dX11_count_135
  replace hF := FE.neg hF c10614
  by_cases c10618 : z1.toInt = 7
  · refine g_tabIn (tgt := 136) (a := 7) hk dX11_count_1 c10618 (by decide) (by decide) rfl (by decide) ?_
    replace hF := FE.pos hF c10618
    refine g_aload_n hk dX11_count_136 rfl ?_
    refine gX_r0_2 hk hin11 (List.mem_cons_of_mem _ (List.mem_append_left _ (List.mem_of_getElem? (i := 0) rfl))) dX11_count_137 ?_
    refine g_callV (n := 0) hk (k339_X6_readingsAtEnd l D zt q d I A  hIv) (SP.same _) (fun _ h => h) (gi_V (List.mem_cons_of_mem _ (List.mem_append_left _ (List.mem_of_getElem? (i := 13) rfl))) (List.mem_cons_of_mem _ (List.mem_append_left _ (List.mem_of_getElem? (i := 14) rfl))) (List.mem_cons_of_mem _ (List.mem_append_left _ (List.mem_of_getElem? (i := 15) rfl))) (List.mem_cons_of_mem _ (List.mem_append_left _ (List.mem_of_getElem? (i := 5) rfl))) (gi_sub (fun w h => (List.mem_cons_of_mem _ (List.mem_append_right _ (List.mem_append_right _ (List.mem_append_right _ (List.mem_append_right _ (List.mem_append_right _ (List.mem_append_right _ (List.mem_append_right _ (List.mem_append_right _ (List.mem_append_left _ h))))))))))) zg_k339_X6_readingsAtEnd)) rfl rfl rfl (by decide +kernel) ⟨Nat.le_of_ble_eq_true rfl, Nat.le_of_ble_eq_true rfl⟩ 13 rfl rfl rfl rfl (Nat.le_of_ble_eq_true rfl) ⟨Nat.le_of_ble_eq_true rfl, Nat.le_of_ble_eq_true rfl⟩ dX11_count_140 (fun v ty' w' hp hk' => ?_)
    obtain ⟨y10665, hC, rfl, rfl⟩ := hp
    replace hF := FE.lt hF (fe_s hC)
    show GW κ 2 0 0 (wX q d I A) 143 [(0, .ref (q 0)), (1, .int z1)] [.int y10665]
    have b10666l := Int32.le_toInt y10665
    have b10666h := Int32.toInt_lt y10665
    exact g_iret hk hR rfl ⟨y10665, hF, rfl, rfl⟩ dX11_count_143
  replace hF := FE.neg hF c10618
  by_cases c10667 : z1.toInt = 8
  · refine g_tabIn (tgt := 144) (a := 8) hk dX11_count_1 c10667 (by decide) (by decide) rfl (by decide) ?_
    replace hF := FE.pos hF c10667
    refine g_aload_n hk dX11_count_144 rfl ?_
    refine gX_r0_0 hk hin11 (List.mem_cons_of_mem _ (List.mem_append_left _ (List.mem_of_getElem? (i := 16) rfl))) dX11_count_145 ?_
    refine gX_i0 (v := (I 0)) hk hin10 (List.mem_cons_of_mem _ (List.mem_append_left _ (List.mem_of_getElem? (i := 17) rfl))) dX11_count_148 rfl ?_
    have f10668 := IvX_f0 hIv
    exact g_iret hk hR rfl ⟨(I 0), hF, rfl, rfl⟩ dX11_count_151
  replace hF := FE.neg hF c10667
  by_cases c10669 : z1.toInt = 9
  · refine g_tabIn (tgt := 152) (a := 9) hk dX11_count_1 c10669 (by decide) (by decide) rfl (by decide) ?_
    replace hF := FE.pos hF c10669
    refine g_aload_n hk dX11_count_152 rfl ?_
    refine gX_r0_5 hk hin11 (List.mem_cons_of_mem _ (List.mem_append_left _ (List.mem_of_getElem? (i := 18) rfl))) dX11_count_153 ?_
    refine gX_i21 (v := (I 21)) hk hin3 (List.mem_cons_of_mem _ (List.mem_append_left _ (List.mem_of_getElem? (i := 19) rfl))) dX11_count_156 rfl ?_
    have b10670l := Int32.le_toInt (I 21)
    have b10670h := Int32.toInt_lt (I 21)
    exact g_iret hk hR rfl ⟨(I 21), hF, rfl, rfl⟩ dX11_count_159
  replace hF := FE.neg hF c10669
  by_cases c10671 : z1.toInt = 10
  · refine g_tabIn (tgt := 160) (a := 10) hk dX11_count_1 c10671 (by decide) (by decide) rfl (by decide) ?_
    replace hF := FE.pos hF c10671
    refine g_aload_n hk dX11_count_160 rfl ?_
    refine gX_r0_2 hk hin11 (List.mem_cons_of_mem _ (List.mem_append_left _ (List.mem_of_getElem? (i := 0) rfl))) dX11_count_161 ?_
    refine g_iconst (v := 0) hk dX11_count_164 (by decide) ?_
    refine g_aload_n hk dX11_count_165 rfl ?_
    refine gX_r0_2 hk hin11 (List.mem_cons_of_mem _ (List.mem_append_left _ (List.mem_of_getElem? (i := 0) rfl))) dX11_count_166 ?_
    refine gX_i18 (v := (I 18)) hk hin6 (List.mem_cons_of_mem _ (List.mem_append_left _ (List.mem_of_getElem? (i := 1) rfl))) dX11_count_169 rfl ?_
    have f10672 := IvX_f18 hIv
    have k10673 : (0 : Int32).toInt = 0 := rfl
    refine g_callV (n := 2) hk (k208_X6_sumOf l D zt q d I A 0 (I 18) hIv) (SP.same _) (fun _ h => h) (gi_V (List.mem_cons_of_mem _ (List.mem_append_left _ (List.mem_of_getElem? (i := 20) rfl))) (List.mem_cons_of_mem _ (List.mem_append_left _ (List.mem_of_getElem? (i := 21) rfl))) (List.mem_cons_of_mem _ (List.mem_append_left _ (List.mem_of_getElem? (i := 22) rfl))) (List.mem_cons_of_mem _ (List.mem_append_left _ (List.mem_of_getElem? (i := 5) rfl))) (gi_sub (fun w h => (List.mem_cons_of_mem _ (List.mem_append_right _ (List.mem_append_right _ (List.mem_append_right _ (List.mem_append_right _ (List.mem_append_right _ (List.mem_append_right _ (List.mem_append_right _ (List.mem_append_right _ (List.mem_append_right _ (List.mem_append_left _ h)))))))))))) zg_k208_X6_sumOf)) rfl rfl rfl (by decide +kernel) ⟨Nat.le_of_ble_eq_true rfl, Nat.le_of_ble_eq_true rfl⟩ 13 rfl rfl rfl rfl (Nat.le_of_ble_eq_true rfl) ⟨Nat.le_of_ble_eq_true rfl, Nat.le_of_ble_eq_true rfl⟩ dX11_count_172 (fun v ty' w' hp hk' => ?_)
    obtain ⟨y10674, hC, rfl, rfl⟩ := hp
    replace hF := FE.lt hF (fe_s hC)
    show GW κ 2 0 0 (wX q d I A) 175 [(0, .ref (q 0)), (1, .int z1)] [.int y10674]
    have b10675l := Int32.le_toInt y10674
    have b10675h := Int32.toInt_lt y10674
    exact g_iret hk hR rfl ⟨y10674, hF, rfl, rfl⟩ dX11_count_175
  replace hF := FE.neg hF c10671
  by_cases c10676 : z1.toInt = 11
  · refine g_tabIn (tgt := 176) (a := 11) hk dX11_count_1 c10676 (by decide) (by decide) rfl (by decide) ?_
    replace hF := FE.pos hF c10676
    refine g_aload_n hk dX11_count_176 rfl ?_
    refine g_callV (n := 0) hk (k340_X11_slotsHeld l D zt q d I A  hIv) (SP.same _) (fun _ h => h) (gi_V (List.mem_cons_of_mem _ (List.mem_append_left _ (List.mem_of_getElem? (i := 23) rfl))) (List.mem_cons_of_mem _ (List.mem_append_left _ (List.mem_of_getElem? (i := 24) rfl))) (List.mem_cons_of_mem _ (List.mem_append_left _ (List.mem_of_getElem? (i := 25) rfl))) (List.mem_cons_of_mem _ (List.mem_append_left _ (List.mem_of_getElem? (i := 26) rfl))) (gi_sub (fun w h => (List.mem_cons_of_mem _ (List.mem_append_right _ (List.mem_append_right _ (List.mem_append_right _ (List.mem_append_right _ (List.mem_append_right _ (List.mem_append_right _ (List.mem_append_right _ (List.mem_append_right _ (List.mem_append_right _ (List.mem_append_right _ (List.mem_append_left _ h))))))))))))) zg_k340_X11_slotsHeld)) rfl rfl rfl (by decide +kernel) ⟨Nat.le_of_ble_eq_true rfl, Nat.le_of_ble_eq_true rfl⟩ 0 rfl rfl rfl rfl (Nat.le_of_ble_eq_true rfl) ⟨Nat.le_of_ble_eq_true rfl, Nat.le_of_ble_eq_true rfl⟩ dX11_count_177 (fun v ty' w' hp hk' => ?_)
    obtain ⟨y10754, hC, rfl, rfl⟩ := hp
    replace hF := FE.lt hF (fe_s hC)
    show GW κ 2 0 0 (wX q d I A) 180 [(0, .ref (q 0)), (1, .int z1)] [.int y10754]
    have b10755l := Int32.le_toInt y10754
    have b10755h := Int32.toInt_lt y10754
    exact g_iret hk hR rfl ⟨y10754, hF, rfl, rfl⟩ dX11_count_180
  replace hF := FE.neg hF c10676
  by_cases c10756 : z1.toInt = 12
  · refine g_tabIn (tgt := 181) (a := 12) hk dX11_count_1 c10756 (by decide) (by decide) rfl (by decide) ?_
    replace hF := FE.pos hF c10756
    refine g_aload_n hk dX11_count_181 rfl ?_
    refine gX_r0_2 hk hin11 (List.mem_cons_of_mem _ (List.mem_append_left _ (List.mem_of_getElem? (i := 0) rfl))) dX11_count_182 ?_
    refine g_iconst (v := 0) hk dX11_count_185 (by decide) ?_
    refine g_aload_n hk dX11_count_186 rfl ?_
    refine gX_r0_2 hk hin11 (List.mem_cons_of_mem _ (List.mem_append_left _ (List.mem_of_getElem? (i := 0) rfl))) dX11_count_187 ?_
    refine gX_i18 (v := (I 18)) hk hin6 (List.mem_cons_of_mem _ (List.mem_append_left _ (List.mem_of_getElem? (i := 1) rfl))) dX11_count_190 rfl ?_
    have f10757 := IvX_f18 hIv
    have k10758 : (0 : Int32).toInt = 0 := rfl
    refine g_callV (n := 2) hk (k210_X6_greatestOf l D zt q d I A 0 (I 18) hIv) (SP.same _) (fun _ h => h) (gi_V (List.mem_cons_of_mem _ (List.mem_append_left _ (List.mem_of_getElem? (i := 27) rfl))) (List.mem_cons_of_mem _ (List.mem_append_left _ (List.mem_of_getElem? (i := 28) rfl))) (List.mem_cons_of_mem _ (List.mem_append_left _ (List.mem_of_getElem? (i := 29) rfl))) (List.mem_cons_of_mem _ (List.mem_append_left _ (List.mem_of_getElem? (i := 5) rfl))) (gi_sub (fun w h => (List.mem_cons_of_mem _ (List.mem_append_right _ (List.mem_append_right _ (List.mem_append_right _ (List.mem_append_right _ (List.mem_append_right _ (List.mem_append_right _ (List.mem_append_right _ (List.mem_append_right _ (List.mem_append_right _ (List.mem_append_right _ (List.mem_append_right _ (List.mem_append_left _ h)))))))))))))) zg_k210_X6_greatestOf)) rfl rfl rfl (by decide +kernel) ⟨Nat.le_of_ble_eq_true rfl, Nat.le_of_ble_eq_true rfl⟩ 13 rfl rfl rfl rfl (Nat.le_of_ble_eq_true rfl) ⟨Nat.le_of_ble_eq_true rfl, Nat.le_of_ble_eq_true rfl⟩ dX11_count_193 (fun v ty' w' hp hk' => ?_)
    obtain ⟨y10759, c10760, hC, rfl, rfl⟩ := hp
    replace hF := FE.lt hF (fe_s hC)
    show GW κ 2 0 0 (wX q d I A) 196 [(0, .ref (q 0)), (1, .int z1)] [.int y10759]
    have b10761l := Int32.le_toInt y10759
    have b10761h := Int32.toInt_lt y10759
    exact g_iret hk hR rfl ⟨y10759, hF, rfl, rfl⟩ dX11_count_196
  replace hF := FE.neg hF c10756
  by_cases c10762 : z1.toInt = 13
  · refine g_tabIn (tgt := 197) (a := 13) hk dX11_count_1 c10762 (by decide) (by decide) rfl (by decide) ?_
    replace hF := FE.pos hF c10762
    refine g_aload_n hk dX11_count_197 rfl ?_
    refine gX_r0_2 hk hin11 (List.mem_cons_of_mem _ (List.mem_append_left _ (List.mem_of_getElem? (i := 0) rfl))) dX11_count_198 ?_
    refine g_iconst (v := 0) hk dX11_count_201 (by decide) ?_
    refine g_aload_n hk dX11_count_202 rfl ?_
    refine gX_r0_2 hk hin11 (List.mem_cons_of_mem _ (List.mem_append_left _ (List.mem_of_getElem? (i := 0) rfl))) dX11_count_203 ?_
    refine gX_i18 (v := (I 18)) hk hin6 (List.mem_cons_of_mem _ (List.mem_append_left _ (List.mem_of_getElem? (i := 1) rfl))) dX11_count_206 rfl ?_
    have f10763 := IvX_f18 hIv
    have k10764 : (0 : Int32).toInt = 0 := rfl
    refine g_callV (n := 2) hk (k209_X6_leastOf l D zt q d I A 0 (I 18) hIv) (SP.same _) (fun _ h => h) (gi_V (List.mem_cons_of_mem _ (List.mem_append_left _ (List.mem_of_getElem? (i := 30) rfl))) (List.mem_cons_of_mem _ (List.mem_append_left _ (List.mem_of_getElem? (i := 31) rfl))) (List.mem_cons_of_mem _ (List.mem_append_left _ (List.mem_of_getElem? (i := 32) rfl))) (List.mem_cons_of_mem _ (List.mem_append_left _ (List.mem_of_getElem? (i := 5) rfl))) (gi_sub (fun w h => (List.mem_cons_of_mem _ (List.mem_append_right _ (List.mem_append_right _ (List.mem_append_right _ (List.mem_append_right _ (List.mem_append_right _ (List.mem_append_right _ (List.mem_append_right _ (List.mem_append_right _ (List.mem_append_right _ (List.mem_append_right _ (List.mem_append_right _ (List.mem_append_right _ (List.mem_append_left _ h))))))))))))))) zg_k209_X6_leastOf)) rfl rfl rfl (by decide +kernel) ⟨Nat.le_of_ble_eq_true rfl, Nat.le_of_ble_eq_true rfl⟩ 13 rfl rfl rfl rfl (Nat.le_of_ble_eq_true rfl) ⟨Nat.le_of_ble_eq_true rfl, Nat.le_of_ble_eq_true rfl⟩ dX11_count_209 (fun v ty' w' hp hk' => ?_)
    obtain ⟨y10765, hC, rfl, rfl⟩ := hp
    replace hF := FE.lt hF (fe_s hC)
    show GW κ 2 0 0 (wX q d I A) 212 [(0, .ref (q 0)), (1, .int z1)] [.int y10765]
    have b10766l := Int32.le_toInt y10765
    have b10766h := Int32.toInt_lt y10765
    exact g_iret hk hR rfl ⟨y10765, hF, rfl, rfl⟩ dX11_count_212
  replace hF := FE.neg hF c10762
  by_cases c10767 : z1.toInt = 14
  · refine g_tabIn (tgt := 213) (a := 14) hk dX11_count_1 c10767 (by decide) (by decide) rfl (by decide) ?_
    replace hF := FE.pos hF c10767
    refine g_aload_n hk dX11_count_213 rfl ?_
    refine gX_r0_2 hk hin11 (List.mem_cons_of_mem _ (List.mem_append_left _ (List.mem_of_getElem? (i := 0) rfl))) dX11_count_214 ?_
    refine g_iconst (v := 0) hk dX11_count_217 (by decide) ?_
    have k10768 : (0 : Int32).toInt = 0 := rfl
    refine g_callV (n := 1) hk (k310_X6_runFrom l D zt q d I A 0 hIv) (SP.same _) (fun _ h => h) (gi_V (List.mem_cons_of_mem _ (List.mem_append_left _ (List.mem_of_getElem? (i := 33) rfl))) (List.mem_cons_of_mem _ (List.mem_append_left _ (List.mem_of_getElem? (i := 34) rfl))) (List.mem_cons_of_mem _ (List.mem_append_left _ (List.mem_of_getElem? (i := 35) rfl))) (List.mem_cons_of_mem _ (List.mem_append_left _ (List.mem_of_getElem? (i := 5) rfl))) (gi_sub (fun w h => (List.mem_cons_of_mem _ (List.mem_append_right _ (List.mem_append_right _ (List.mem_append_right _ (List.mem_append_right _ (List.mem_append_right _ (List.mem_append_right _ (List.mem_append_right _ (List.mem_append_right _ (List.mem_append_right _ (List.mem_append_right _ (List.mem_append_right _ (List.mem_append_right _ (List.mem_append_right _ (List.mem_append_left _ h)))))))))))))))) zg_k310_X6_runFrom)) rfl rfl rfl (by decide +kernel) ⟨Nat.le_of_ble_eq_true rfl, Nat.le_of_ble_eq_true rfl⟩ 13 rfl rfl rfl rfl (Nat.le_of_ble_eq_true rfl) ⟨Nat.le_of_ble_eq_true rfl, Nat.le_of_ble_eq_true rfl⟩ dX11_count_218 (fun v ty' w' hp hk' => ?_)
    obtain ⟨y10769, hC, rfl, rfl⟩ := hp
    replace hF := FE.lt hF (fe_s hC)
    show GW κ 2 0 0 (wX q d I A) 221 [(0, .ref (q 0)), (1, .int z1)] [.int y10769]
    have b10770l := Int32.le_toInt y10769
    have b10770h := Int32.toInt_lt y10769
    exact g_iret hk hR rfl ⟨y10769, hF, rfl, rfl⟩ dX11_count_221
  replace hF := FE.neg hF c10767
  refine g_tabOut (tgt := 222) (a := z1.toInt) hk dX11_count_1 rfl (by omega) (by decide) ?_
  refine g_iconst (v := (-1)) hk dX11_count_222 (by decide) ?_
  exact g_iret hk hR rfl ⟨(-1), hF, rfl, rfl⟩ dX11_count_223
