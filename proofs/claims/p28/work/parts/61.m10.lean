noncomputable def bM12_slack_18 (z1 : Int32) : (Int32 → Int32 → (Nat → Int32) → (Nat → Nat → Int32) → (Nat → Nat → Int64) → (Int32 × (Nat → Int32) × (Nat → Nat → Int32) × (Nat → Nat → Int64))) → Int32 → Int32 → (Nat → Int32) → (Nat → Nat → Int32) → (Nat → Nat → Int64) → (Int32 × (Nat → Int32) × (Nat → Nat → Int32) × (Nat → Nat → Int64)) := fun kk36443 x36301 x36302 I36305 A36305 L36305 => if 160 ≤ x36301.toInt then (x36302, I36305, A36305, L36305) else if fM12_isOf I36305 A36305 L36305 z1 x36301 = 0 then f_lt (x36301 + Int32.ofInt 1) fun y36461 => kk36443 y36461 x36302 I36305 A36305 L36305 else f_bdM (fM12_distanceOf I36305 A36305 L36305 z1 x36301) fun y36463 I36464 A36464 L36464 => f_lt (fM12_endsOf I36464 A36464 L36464) fun y36467 => f_lt (fM12_overOf I36464 A36464 L36464) fun y36468 => f_bdM (fM12_backOf I36464 A36464 L36464) fun y36469 I36470 A36470 L36470 => f_lt (fM12_greater I36470 A36470 L36470 y36468 y36469) fun y36471 => f_lt (fM12_greater I36470 A36470 L36470 y36467 y36471) fun y36472 => f_lt (y36463 - y36472) fun y36475 => f_lt (x36302 + y36475) fun y36478 => f_lt (x36301 + Int32.ofInt 1) fun y36479 => kk36443 y36479 y36478 I36470 A36470 L36470
noncomputable def fM12_slack (I : Nat → Int32) (A : Nat → Nat → Int32) (L : Nat → Nat → Int64) (z1 : Int32) : Int32 × (Nat → Int32) × (Nat → Nat → Int32) × (Nat → Nat → Int64) := if fM12_isQuery I A L z1 = 0 then ((-1), I, A, L) else f_bdM (fM12_copies I A L) fun _ I36296 A36296 L36296 => itr_iiIAL dfM (bM12_slack_18 z1) FU 0 0 I36296 A36296 L36296
def wo_j209_X12_slack : List Cond := [Cond.methodLink RX12 251 yX12_isQuery, Cond.instanceMethod yX12_isQuery, Cond.selects RX12 yX12_isQuery yX12_isQuery, Cond.initialized RX12, Cond.methodLink RX12 323 yX12_copies, Cond.instanceMethod yX12_copies, Cond.selects RX12 yX12_copies yX12_copies, Cond.methodLink RX12 342 yX12_isOf, Cond.instanceMethod yX12_isOf, Cond.selects RX12 yX12_isOf yX12_isOf, Cond.methodLink RX12 345 yX12_distanceOf, Cond.instanceMethod yX12_distanceOf, Cond.selects RX12 yX12_distanceOf yX12_distanceOf, Cond.methodLink RX12 314 yX12_endsOf, Cond.instanceMethod yX12_endsOf, Cond.selects RX12 yX12_endsOf yX12_endsOf, Cond.methodLink RX12 308 yX12_overOf, Cond.instanceMethod yX12_overOf, Cond.selects RX12 yX12_overOf yX12_overOf, Cond.methodLink RX12 317 yX12_backOf, Cond.instanceMethod yX12_backOf, Cond.selects RX12 yX12_backOf yX12_backOf, Cond.methodLink RX12 378 yX12_greater, Cond.static yX12_greater]
def wz_j209_X12_slack : List Cond := .code yX12_slack cX12_slack 5 (some .int) :: (wo_j209_X12_slack ++ (wz_j147_X12_isQuery ++ (wz_j151_X12_copies ++ (wz_j168_X12_isOf ++ (wz_j169_X12_distanceOf ++ (wz_j182_X12_endsOf ++ (wz_j181_X12_overOf ++ (wz_j180_X12_backOf ++ (wz_j210_X12_greater ++ ([] : List Cond))))))))))
theorem zg_j209_X12_slack : ∀ w ∈ wz_j209_X12_slack, goodWord w = true := zg_cons rfl (zg_app (by decide +kernel) (zg_app zg_j147_X12_isQuery (zg_app zg_j151_X12_copies (zg_app zg_j168_X12_isOf (zg_app zg_j169_X12_distanceOf (zg_app zg_j182_X12_endsOf (zg_app zg_j181_X12_overOf (zg_app zg_j180_X12_backOf (zg_app zg_j210_X12_greater zg_nil)))))))))
theorem zi_j209_X12_slack : ∀ w ∈ wz_j209_X12_slack, w ∈ lw_tbl := zi_cons zw_1899 (zi_app (zi_cons zw_1663 (zi_cons zw_1665 (zi_cons zw_67 (zi_cons zw_115 (zi_cons zw_1679 (zi_cons zw_1681 (zi_cons zw_70 (zi_cons zw_1755 (zi_cons zw_1757 (zi_cons zw_78 (zi_cons zw_1759 (zi_cons zw_1761 (zi_cons zw_79 (zi_cons zw_1803 (zi_cons zw_1805 (zi_cons zw_88 (zi_cons zw_1807 (zi_cons zw_1809 (zi_cons zw_89 (zi_cons zw_1812 (zi_cons zw_1814 (zi_cons zw_90 (zi_cons zw_1900 (zi_cons zw_1901 zi_nil)))))))))))))))))))))))) (zi_app zi_j147_X12_isQuery (zi_app zi_j151_X12_copies (zi_app zi_j168_X12_isOf (zi_app zi_j169_X12_distanceOf (zi_app zi_j182_X12_endsOf (zi_app zi_j181_X12_overOf (zi_app zi_j180_X12_backOf (zi_app zi_j210_X12_greater zi_nil)))))))))
set_option maxHeartbeats 4000000 in
set_option maxRecDepth 100000 in
theorem j209_X12_slack (l : Launch) (D : va_G) (zt : Nat × Nat × Nat × (Nat → Nat) × (Nat → Nat)) (r : Nat → Nat) (g : Nat → ClassId) (I : Nat → Int32) (A : Nat → Nat → Int32) (L : Nat → Nat → Int64) (z1 : Int32) (hIv : IvM I A) : GM l D zt (tyM g) yX12_slack wz_j209_X12_slack ({ frames := 6, cells := 0, slots := 0, locals := 134 } : Room) [.ref (r 0), .int z1] (wM r g I A L) (fun v _ w' => ∃ (I' : Nat → Int32) (A' : Nat → Nat → Int32) (L' : Nat → Nat → Int64), Md [18, 19, 20] I I' ∧ Md [18, 19, 20, 21] A A' ∧ IvM I' A' ∧ ∃ y0 : Int32, (L' = L) ∧ FE (fM12_slack I A L z1) (y0, I', A', L') ∧ v = some (.int y0) ∧ w' = wM r g I' A' L') 0 0 := by
  refine GM.of (cc := cX12_slack) (maxL := 5) (ret := (some .int)) (own := RX12) (lv := [(0, .ref (r 0)), (1, .int z1)]) (by decide) rfl rfl (Nat.le_of_ble_eq_true rfl) rfl (fun κ sz hk hR hN => ?_)
  have hF : FE (fM12_slack I A L z1) (fM12_slack I A L z1) := FE.rf
  refine g_aload_n hk dX12_slack_0 rfl ?_
  refine g_iload_n hk dX12_slack_1 rfl ?_
  refine g_callV (n := 1) hk (j147_X12_isQuery l D zt r g I A L z1 hIv) (SP.same _) (fun _ h => h) (gi_V (List.mem_cons_of_mem _ (List.mem_append_left _ (List.mem_of_getElem? (i := 0) rfl))) (List.mem_cons_of_mem _ (List.mem_append_left _ (List.mem_of_getElem? (i := 1) rfl))) (List.mem_cons_of_mem _ (List.mem_append_left _ (List.mem_of_getElem? (i := 2) rfl))) (List.mem_cons_of_mem _ (List.mem_append_left _ (List.mem_of_getElem? (i := 3) rfl))) (gi_sub (fun w h => (List.mem_cons_of_mem _ (List.mem_append_right _ (List.mem_append_left _ h)))) zg_j147_X12_isQuery)) rfl rfl rfl (by decide +kernel) ⟨Nat.le_of_ble_eq_true rfl, Nat.le_of_ble_eq_true rfl⟩ 0 rfl rfl rfl rfl (Nat.le_of_ble_eq_true rfl) ⟨Nat.le_of_ble_eq_true rfl, Nat.le_of_ble_eq_true rfl⟩ dX12_slack_2 (fun v ty' w' hp hk' => ?_)
  rcases hp with ⟨hC, rfl, rfl⟩ | ⟨c36289, c36290, c36291, c36292, hC, rfl, rfl⟩
  · skip
    replace hF := FE.pos hF hC
    show GW κ 5 0 0 (wM r g I A L) 5 [(0, .ref (r 0)), (1, .int z1)] [.int 0]
    refine g_if_ne (tgt := 10) (a := 0) hk dX12_slack_5 (by decide) rfl (fun z9 => absurd z9 (show ¬ ((0 : Int) ≠ (0 : Int)) from by decide)) (fun _ => ?_)
    refine g_iconst (v := (-1)) hk dX12_slack_8 (by decide) ?_
    exact g_iret hk hR rfl ⟨I, A, L, (show Md [18, 19, 20] I I from Md.rf), (show Md [18, 19, 20, 21] A A from Md.rf), hIv, (-1), (show L = L from rfl), hF, rfl, rfl⟩ dX12_slack_9
  · skip
    replace hF := FE.neg hF (fe_ne hC (by decide))
    have f36294 : 0 ≤ (A 11 (5 * (I 15) + z1).toNatClampNeg).toInt ∧ (A 11 (5 * (I 15) + z1).toNatClampNeg).toInt ≤ 16 := IvM_a11 hIv _
    show GW κ 5 0 0 (wM r g I A L) 5 [(0, .ref (r 0)), (1, .int z1)] [.int 1]
    refine g_if_ne (tgt := 10) (a := 1) hk dX12_slack_5 (by decide) rfl (fun _ => ?_) (fun z9 => absurd (show (1 : Int) ≠ (0 : Int) from by decide) z9)
    refine g_aload_n hk dX12_slack_10 rfl ?_
    refine g_callV (n := 0) hk (j151_X12_copies l D zt r g I A L  hIv) (SP.same _) (fun _ h => h) (gi_V (List.mem_cons_of_mem _ (List.mem_append_left _ (List.mem_of_getElem? (i := 4) rfl))) (List.mem_cons_of_mem _ (List.mem_append_left _ (List.mem_of_getElem? (i := 5) rfl))) (List.mem_cons_of_mem _ (List.mem_append_left _ (List.mem_of_getElem? (i := 6) rfl))) (List.mem_cons_of_mem _ (List.mem_append_left _ (List.mem_of_getElem? (i := 3) rfl))) (gi_sub (fun w h => (List.mem_cons_of_mem _ (List.mem_append_right _ (List.mem_append_right _ (List.mem_append_left _ h))))) zg_j151_X12_copies)) rfl rfl rfl (by decide +kernel) ⟨Nat.le_of_ble_eq_true rfl, Nat.le_of_ble_eq_true rfl⟩ 0 rfl rfl rfl rfl (Nat.le_of_ble_eq_true rfl) ⟨Nat.le_of_ble_eq_true rfl, Nat.le_of_ble_eq_true rfl⟩ dX12_slack_11 (fun v ty' w' hp hk' => ?_)
    obtain ⟨I36296, A36296, L36296, hI36296, hA36296, hV36296, r36297, r36298, hL36296, hC, rfl, rfl⟩ := hp
    replace hF := FE.bdM hF hC
    have f36299 := IvM_s17_0 hIv
    have f36300 := IvM_s17_164 hIv
    show GW κ 5 0 0 (wM r g I36296 A36296 L36296) 14 [(0, .ref (r 0)), (1, .int z1)] []
    refine g_iconst (v := 0) hk dX12_slack_14 (by decide) ?_
    refine g_istore_n (lv' := [(2, .int 0), (0, .ref (r 0)), (1, .int z1)]) hk dX12_slack_15 (by decide) rfl ?_
    refine g_iconst (v := 0) hk dX12_slack_16 (by decide) ?_
    refine g_istore_n (lv' := [(3, .int 0), (2, .int 0), (0, .ref (r 0)), (1, .int z1)]) hk dX12_slack_17 (by decide) rfl ?_
    have lp36440 : ∀ (n36441 : Nat) (x36301 : Int32) (x36302 : Int32) (I36305 : Nat → Int32) (A36305 : Nat → Nat → Int32) (L36305 : Nat → Nat → Int64), (Md [18, 19, 20] I36296 I36305) → (Md [19, 20, 21] A36296 A36305) → (IvM I36305 A36305) → (L36305 = L36296) → (0 ≤ x36301.toInt) → (x36301.toInt ≤ 160) → (161 - x36301.toInt < (n36441 : Int)) → (0 < n36441) → (FE (fM12_slack I A L z1) (itr_iiIAL dfM (bM12_slack_18 z1) n36441 x36301 x36302 I36305 A36305 L36305)) → GW κ 5 0 0 (wM r g I36305 A36305 L36305) 18 [(3, .int x36301), (2, .int x36302), (0, .ref (r 0)), (1, .int z1)] [] := by
      intro n36441
      induction n36441 with
      | zero =>
        intro x36301 x36302 I36305 A36305 L36305 hI36305 hA36305 hV36305 hL36305 h36438 h36439 m36442 m36442z hF
        exact absurd m36442z (Nat.lt_irrefl 0)
      | succ n36441 ih36444 =>
        intro x36301 x36302 I36305 A36305 L36305 hI36305 hA36305 hV36305 hL36305 h36438 h36439 m36442 m36442z hF
        replace hF := FE.itr_iiIAL hF
        refine g_iload_n hk dX12_slack_18 rfl ?_
        refine g_sipush (v := 160) hk dX12_slack_19 (by decide) ?_
        refine g_icmp_ge (tgt := 75) (a := x36301.toInt) (b := 160) hk dX12_slack_22 (by decide) rfl rfl (fun c36445 => ?_) (fun c36445 => ?_)
        · skip
          replace hF := FE.pos hF c36445
          refine g_iload_n hk dX12_slack_75 rfl ?_
          have b36446l := Int32.le_toInt x36302
          have b36446h := Int32.toInt_lt x36302
          exact g_iret hk hR rfl ⟨I36305, A36305, L36305, (show Md [18, 19, 20] I I36305 from (Md.tr (Md.tr Md.rf hI36296 rfl) hI36305 rfl)), (show Md [18, 19, 20, 21] A A36305 from (Md.tr (Md.tr Md.rf hA36296 rfl) hA36305 rfl)), hV36305, x36302, (show L36305 = L from (hL36305.trans hL36296)), hF, rfl, rfl⟩ dX12_slack_76
        · skip
          replace hF := FE.neg hF c36445
          refine g_aload_n hk dX12_slack_25 rfl ?_
          refine g_iload_n hk dX12_slack_26 rfl ?_
          refine g_iload_n hk dX12_slack_27 rfl ?_
          refine g_callV (n := 2) hk (j168_X12_isOf l D zt r g I36305 A36305 L36305 z1 x36301 hV36305) (SP.same _) (fun _ h => h) (gi_V (List.mem_cons_of_mem _ (List.mem_append_left _ (List.mem_of_getElem? (i := 7) rfl))) (List.mem_cons_of_mem _ (List.mem_append_left _ (List.mem_of_getElem? (i := 8) rfl))) (List.mem_cons_of_mem _ (List.mem_append_left _ (List.mem_of_getElem? (i := 9) rfl))) (List.mem_cons_of_mem _ (List.mem_append_left _ (List.mem_of_getElem? (i := 3) rfl))) (gi_sub (fun w h => (List.mem_cons_of_mem _ (List.mem_append_right _ (List.mem_append_right _ (List.mem_append_right _ (List.mem_append_left _ h)))))) zg_j168_X12_isOf)) rfl rfl rfl (by decide +kernel) ⟨Nat.le_of_ble_eq_true rfl, Nat.le_of_ble_eq_true rfl⟩ 0 rfl rfl rfl rfl (Nat.le_of_ble_eq_true rfl) ⟨Nat.le_of_ble_eq_true rfl, Nat.le_of_ble_eq_true rfl⟩ dX12_slack_28 (fun v ty' w' hp hk' => ?_)
          rcases hp with ⟨hC, rfl, rfl⟩ | ⟨c36448, c36449, c36450, c36451, c36452, c36453, c36454, c36455, c36456, c36457, c36458, c36459, hC, rfl, rfl⟩
          · skip
            replace hF := FE.pos hF hC
            show GW κ 5 0 0 (wM r g I36305 A36305 L36305) 31 [(3, .int x36301), (2, .int x36302), (0, .ref (r 0)), (1, .int z1)] [.int 0]
            refine g_if_ne (tgt := 37) (a := 0) hk dX12_slack_31 (by decide) rfl (fun z9 => absurd z9 (show ¬ ((0 : Int) ≠ (0 : Int)) from by decide)) (fun _ => ?_)
            refine g_goto (tgt := 69) hk dX12_slack_34 (by decide) ?_
            obtain ⟨y36461, ey36461⟩ : ∃ y : Int32, y = x36301 + Int32.ofInt 1 := ⟨_, rfl⟩
            replace hF := FE.lt hF ey36461
            have hy36461 : y36461.toInt = x36301.toInt + 1 := i32_add ey36461 rfl (by decide) (by omega) (by omega)
            refine g_iinc (v := y36461) (lv' := [(3, .int y36461), (2, .int x36302), (0, .ref (r 0)), (1, .int z1)]) hk 0 dX12_slack_69 rfl ey36461.symm (by decide) rfl ?_
            refine g_goto (tgt := 18) hk dX12_slack_72 (by decide) ?_
            have b36462l := Int32.le_toInt x36302
            have b36462h := Int32.toInt_lt x36302
            exact g_lv (List.forall_mem_cons.mpr ⟨List.mem_of_getElem? (i := 0) rfl, (List.forall_mem_cons.mpr ⟨List.mem_of_getElem? (i := 1) rfl, (List.forall_mem_cons.mpr ⟨List.mem_of_getElem? (i := 2) rfl, (List.forall_mem_cons.mpr ⟨List.mem_of_getElem? (i := 3) rfl, (fun _ h => absurd h List.not_mem_nil)⟩)⟩)⟩)⟩) (ih36444 y36461 x36302 I36305 A36305 L36305 (show Md [18, 19, 20] I36296 I36305 from Md.tr hI36305 (show Md [18, 19, 20] I36305 I36305 from Md.rf) rfl) (show Md [19, 20, 21] A36296 A36305 from Md.tr hA36305 (show Md [19, 20, 21] A36305 A36305 from Md.rf) rfl) hV36305 (show L36305 = L36296 from hL36305) (by omega) (by omega) (by omega) (by omega) hF)
          · skip
            replace hF := FE.neg hF (fe_ne hC (by decide))
            rw [show (A36305 11 (5 * (I36305 15) + z1).toNatClampNeg) = (A 11 (5 * (I 15) + z1).toNatClampNeg) from (by rw [show I36305 15 = (I 15) from ((hI36305 15 rfl).trans (hI36296 15 rfl))]; exact ((congrFun (hA36305 11 rfl) _).trans (congrFun (hA36296 11 rfl) _)))] at c36458
            rw [show (A36305 11 (5 * (I36305 15) + z1).toNatClampNeg) = (A 11 (5 * (I 15) + z1).toNatClampNeg) from (by rw [show I36305 15 = (I 15) from ((hI36305 15 rfl).trans (hI36296 15 rfl))]; exact ((congrFun (hA36305 11 rfl) _).trans (congrFun (hA36296 11 rfl) _)))] at c36459
            show GW κ 5 0 0 (wM r g I36305 A36305 L36305) 31 [(3, .int x36301), (2, .int x36302), (0, .ref (r 0)), (1, .int z1)] [.int 1]
            refine g_if_ne (tgt := 37) (a := 1) hk dX12_slack_31 (by decide) rfl (fun _ => ?_) (fun z9 => absurd (show (1 : Int) ≠ (0 : Int) from by decide) z9)
            refine g_aload_n hk dX12_slack_37 rfl ?_
            refine g_iload_n hk dX12_slack_38 rfl ?_
            refine g_iload_n hk dX12_slack_39 rfl ?_
            refine g_callV (n := 2) hk (j169_X12_distanceOf l D zt r g I36305 A36305 L36305 z1 x36301 hV36305 (by omega) (by omega) (by omega) (by omega) (by first | (rw [show (A36305 11 (5 * (I36305 15) + z1).toNatClampNeg) = (A 11 (5 * (I 15) + z1).toNatClampNeg) from (by rw [show I36305 15 = (I 15) from ((hI36305 15 rfl).trans (hI36296 15 rfl))]; exact ((congrFun (hA36305 11 rfl) _).trans (congrFun (hA36296 11 rfl) _)))] <;> omega) | omega) (by first | (rw [show (A36305 11 (5 * (I36305 15) + z1).toNatClampNeg) = (A 11 (5 * (I 15) + z1).toNatClampNeg) from (by rw [show I36305 15 = (I 15) from ((hI36305 15 rfl).trans (hI36296 15 rfl))]; exact ((congrFun (hA36305 11 rfl) _).trans (congrFun (hA36296 11 rfl) _)))] <;> omega) | omega)) (SP.same _) (fun _ h => h) (gi_V (List.mem_cons_of_mem _ (List.mem_append_left _ (List.mem_of_getElem? (i := 10) rfl))) (List.mem_cons_of_mem _ (List.mem_append_left _ (List.mem_of_getElem? (i := 11) rfl))) (List.mem_cons_of_mem _ (List.mem_append_left _ (List.mem_of_getElem? (i := 12) rfl))) (List.mem_cons_of_mem _ (List.mem_append_left _ (List.mem_of_getElem? (i := 3) rfl))) (gi_sub (fun w h => (List.mem_cons_of_mem _ (List.mem_append_right _ (List.mem_append_right _ (List.mem_append_right _ (List.mem_append_right _ (List.mem_append_left _ h))))))) zg_j169_X12_distanceOf)) rfl rfl rfl (by decide +kernel) ⟨Nat.le_of_ble_eq_true rfl, Nat.le_of_ble_eq_true rfl⟩ 0 rfl rfl rfl rfl (Nat.le_of_ble_eq_true rfl) ⟨Nat.le_of_ble_eq_true rfl, Nat.le_of_ble_eq_true rfl⟩ dX12_slack_40 (fun v ty' w' hp hk' => ?_)
            obtain ⟨I36464, A36464, L36464, hI36464, hA36464, hV36464, y36463, r36465, hL36464, hC, rfl, rfl⟩ := hp
            replace hF := FE.bdM hF hC
            have f36466 := IvM_f18 hV36464
            show GW κ 5 0 0 (wM r g I36464 A36464 L36464) 43 [(3, .int x36301), (2, .int x36302), (0, .ref (r 0)), (1, .int z1)] [.int y36463]
            refine g_istore (lv' := [(4, .int y36463), (3, .int x36301), (2, .int x36302), (0, .ref (r 0)), (1, .int z1)]) hk dX12_slack_43 (by decide) rfl ?_
            refine g_iload_n hk dX12_slack_45 rfl ?_
            refine g_iload hk dX12_slack_46 rfl ?_
            refine g_aload_n hk dX12_slack_48 rfl ?_
            refine g_callV (n := 0) hk (j182_X12_endsOf l D zt r g I36464 A36464 L36464  hV36464 (by omega)) (SP.same _) (fun _ h => h) (gi_V (List.mem_cons_of_mem _ (List.mem_append_left _ (List.mem_of_getElem? (i := 13) rfl))) (List.mem_cons_of_mem _ (List.mem_append_left _ (List.mem_of_getElem? (i := 14) rfl))) (List.mem_cons_of_mem _ (List.mem_append_left _ (List.mem_of_getElem? (i := 15) rfl))) (List.mem_cons_of_mem _ (List.mem_append_left _ (List.mem_of_getElem? (i := 3) rfl))) (gi_sub (fun w h => (List.mem_cons_of_mem _ (List.mem_append_right _ (List.mem_append_right _ (List.mem_append_right _ (List.mem_append_right _ (List.mem_append_right _ (List.mem_append_left _ h)))))))) zg_j182_X12_endsOf)) rfl rfl rfl (by decide +kernel) ⟨Nat.le_of_ble_eq_true rfl, Nat.le_of_ble_eq_true rfl⟩ 0 rfl rfl rfl rfl (Nat.le_of_ble_eq_true rfl) ⟨Nat.le_of_ble_eq_true rfl, Nat.le_of_ble_eq_true rfl⟩ dX12_slack_49 (fun v ty' w' hp hk' => ?_)
            obtain ⟨y36467, hC, rfl, rfl⟩ := hp
            replace hF := FE.lt hF (fe_s hC)
            show GW κ 5 0 0 (wM r g I36464 A36464 L36464) 52 [(4, .int y36463), (3, .int x36301), (2, .int x36302), (0, .ref (r 0)), (1, .int z1)] [.int y36467, .int y36463, .int x36302]
            refine g_aload_n hk dX12_slack_52 rfl ?_
            refine g_callV (n := 0) hk (j181_X12_overOf l D zt r g I36464 A36464 L36464  hV36464) (SP.same _) (fun _ h => h) (gi_V (List.mem_cons_of_mem _ (List.mem_append_left _ (List.mem_of_getElem? (i := 16) rfl))) (List.mem_cons_of_mem _ (List.mem_append_left _ (List.mem_of_getElem? (i := 17) rfl))) (List.mem_cons_of_mem _ (List.mem_append_left _ (List.mem_of_getElem? (i := 18) rfl))) (List.mem_cons_of_mem _ (List.mem_append_left _ (List.mem_of_getElem? (i := 3) rfl))) (gi_sub (fun w h => (List.mem_cons_of_mem _ (List.mem_append_right _ (List.mem_append_right _ (List.mem_append_right _ (List.mem_append_right _ (List.mem_append_right _ (List.mem_append_right _ (List.mem_append_left _ h))))))))) zg_j181_X12_overOf)) rfl rfl rfl (by decide +kernel) ⟨Nat.le_of_ble_eq_true rfl, Nat.le_of_ble_eq_true rfl⟩ 0 rfl rfl rfl rfl (Nat.le_of_ble_eq_true rfl) ⟨Nat.le_of_ble_eq_true rfl, Nat.le_of_ble_eq_true rfl⟩ dX12_slack_53 (fun v ty' w' hp hk' => ?_)
            obtain ⟨y36468, hC, rfl, rfl⟩ := hp
            replace hF := FE.lt hF (fe_s hC)
            show GW κ 5 0 0 (wM r g I36464 A36464 L36464) 56 [(4, .int y36463), (3, .int x36301), (2, .int x36302), (0, .ref (r 0)), (1, .int z1)] [.int y36468, .int y36467, .int y36463, .int x36302]
            refine g_aload_n hk dX12_slack_56 rfl ?_
            refine g_callV (n := 0) hk (j180_X12_backOf l D zt r g I36464 A36464 L36464  hV36464) (SP.same _) (fun _ h => h) (gi_V (List.mem_cons_of_mem _ (List.mem_append_left _ (List.mem_of_getElem? (i := 19) rfl))) (List.mem_cons_of_mem _ (List.mem_append_left _ (List.mem_of_getElem? (i := 20) rfl))) (List.mem_cons_of_mem _ (List.mem_append_left _ (List.mem_of_getElem? (i := 21) rfl))) (List.mem_cons_of_mem _ (List.mem_append_left _ (List.mem_of_getElem? (i := 3) rfl))) (gi_sub (fun w h => (List.mem_cons_of_mem _ (List.mem_append_right _ (List.mem_append_right _ (List.mem_append_right _ (List.mem_append_right _ (List.mem_append_right _ (List.mem_append_right _ (List.mem_append_right _ (List.mem_append_left _ h)))))))))) zg_j180_X12_backOf)) rfl rfl rfl (by decide +kernel) ⟨Nat.le_of_ble_eq_true rfl, Nat.le_of_ble_eq_true rfl⟩ 0 rfl rfl rfl rfl (Nat.le_of_ble_eq_true rfl) ⟨Nat.le_of_ble_eq_true rfl, Nat.le_of_ble_eq_true rfl⟩ dX12_slack_57 (fun v ty' w' hp hk' => ?_)
            obtain ⟨I36470, A36470, L36470, hI36470, hA36470, hV36470, y36469, hL36470, hC, rfl, rfl⟩ := hp
            replace hF := FE.bdM hF hC
            show GW κ 5 0 0 (wM r g I36470 A36470 L36470) 60 [(4, .int y36463), (3, .int x36301), (2, .int x36302), (0, .ref (r 0)), (1, .int z1)] [.int y36469, .int y36468, .int y36467, .int y36463, .int x36302]
            refine g_callS (n := 2) hk (j210_X12_greater l D zt r g I36470 A36470 L36470 y36468 y36469 hV36470) (SP.same _) (fun _ h => h) (gi_S (List.mem_cons_of_mem _ (List.mem_append_left _ (List.mem_of_getElem? (i := 22) rfl))) (List.mem_cons_of_mem _ (List.mem_append_left _ (List.mem_of_getElem? (i := 23) rfl))) (List.mem_cons_of_mem _ (List.mem_append_left _ (List.mem_of_getElem? (i := 3) rfl))) (gi_sub (fun w h => (List.mem_cons_of_mem _ (List.mem_append_right _ (List.mem_append_right _ (List.mem_append_right _ (List.mem_append_right _ (List.mem_append_right _ (List.mem_append_right _ (List.mem_append_right _ (List.mem_append_right _ (List.mem_append_left _ h))))))))))) zg_j210_X12_greater)) rfl rfl rfl (by decide +kernel) ⟨Nat.le_of_ble_eq_true rfl, Nat.le_of_ble_eq_true rfl⟩ rfl rfl (Nat.le_of_ble_eq_true rfl) ⟨Nat.le_of_ble_eq_true rfl, Nat.le_of_ble_eq_true rfl⟩ dX12_slack_60 (fun v ty' w' hp hk' => ?_)
            obtain ⟨y36471, hC, rfl, rfl⟩ := hp
            replace hF := FE.lt hF (fe_s hC)
            show GW κ 5 0 0 (wM r g I36470 A36470 L36470) 63 [(4, .int y36463), (3, .int x36301), (2, .int x36302), (0, .ref (r 0)), (1, .int z1)] [.int y36471, .int y36467, .int y36463, .int x36302]
            refine g_callS (n := 2) hk (j210_X12_greater l D zt r g I36470 A36470 L36470 y36467 y36471 hV36470) (SP.same _) (fun _ h => h) (gi_S (List.mem_cons_of_mem _ (List.mem_append_left _ (List.mem_of_getElem? (i := 22) rfl))) (List.mem_cons_of_mem _ (List.mem_append_left _ (List.mem_of_getElem? (i := 23) rfl))) (List.mem_cons_of_mem _ (List.mem_append_left _ (List.mem_of_getElem? (i := 3) rfl))) (gi_sub (fun w h => (List.mem_cons_of_mem _ (List.mem_append_right _ (List.mem_append_right _ (List.mem_append_right _ (List.mem_append_right _ (List.mem_append_right _ (List.mem_append_right _ (List.mem_append_right _ (List.mem_append_right _ (List.mem_append_left _ h))))))))))) zg_j210_X12_greater)) rfl rfl rfl (by decide +kernel) ⟨Nat.le_of_ble_eq_true rfl, Nat.le_of_ble_eq_true rfl⟩ rfl rfl (Nat.le_of_ble_eq_true rfl) ⟨Nat.le_of_ble_eq_true rfl, Nat.le_of_ble_eq_true rfl⟩ dX12_slack_63 (fun v ty' w' hp hk' => ?_)
            obtain ⟨y36472, hC, rfl, rfl⟩ := hp
            replace hF := FE.lt hF (fe_s hC)
            show GW κ 5 0 0 (wM r g I36470 A36470 L36470) 66 [(4, .int y36463), (3, .int x36301), (2, .int x36302), (0, .ref (r 0)), (1, .int z1)] [.int y36472, .int y36463, .int x36302]
            have b36473l := Int32.le_toInt y36463
            have b36473h := Int32.toInt_lt y36463
            have b36474l := Int32.le_toInt y36472
            have b36474h := Int32.toInt_lt y36472
            refine g_isub hk dX12_slack_66 ?_
            refine g_topi (fun y36475 ey36475 => ?_)
            replace hF := FE.lt hF ey36475
            have hy36475 := i32_sub0 ey36475
            have b36476l := Int32.le_toInt x36302
            have b36476h := Int32.toInt_lt x36302
            have b36477l := Int32.le_toInt y36475
            have b36477h := Int32.toInt_lt y36475
            refine g_iadd hk dX12_slack_67 ?_
            refine g_topi (fun y36478 ey36478 => ?_)
            replace hF := FE.lt hF ey36478
            refine g_istore_n (lv' := [(2, .int y36478), (4, .int y36463), (3, .int x36301), (0, .ref (r 0)), (1, .int z1)]) hk dX12_slack_68 (by decide) rfl ?_
            obtain ⟨y36479, ey36479⟩ : ∃ y : Int32, y = x36301 + Int32.ofInt 1 := ⟨_, rfl⟩
            replace hF := FE.lt hF ey36479
            have hy36479 : y36479.toInt = x36301.toInt + 1 := i32_add ey36479 rfl (by decide) (by omega) (by omega)
            refine g_iinc (v := y36479) (lv' := [(3, .int y36479), (2, .int y36478), (4, .int y36463), (0, .ref (r 0)), (1, .int z1)]) hk 2 dX12_slack_69 rfl ey36479.symm (by decide) rfl ?_
            refine g_goto (tgt := 18) hk dX12_slack_72 (by decide) ?_
            have b36480l := Int32.le_toInt y36478
            have b36480h := Int32.toInt_lt y36478
            exact g_lv (List.forall_mem_cons.mpr ⟨List.mem_of_getElem? (i := 0) rfl, (List.forall_mem_cons.mpr ⟨List.mem_of_getElem? (i := 1) rfl, (List.forall_mem_cons.mpr ⟨List.mem_of_getElem? (i := 3) rfl, (List.forall_mem_cons.mpr ⟨List.mem_of_getElem? (i := 4) rfl, (fun _ h => absurd h List.not_mem_nil)⟩)⟩)⟩)⟩) (ih36444 y36479 y36478 I36470 A36470 L36470 (show Md [18, 19, 20] I36296 I36470 from Md.tr hI36305 (show Md [18, 19, 20] I36305 I36470 from (Md.tr (Md.tr Md.rf hI36464 rfl) hI36470 rfl)) rfl) (show Md [19, 20, 21] A36296 A36470 from Md.tr hA36305 (show Md [19, 20, 21] A36305 A36470 from (Md.tr (Md.tr Md.rf hA36464 rfl) hA36470 rfl)) rfl) hV36470 (show L36470 = L36296 from ((hL36470.trans hL36464).trans hL36305)) (by omega) (by omega) (by omega) (by omega) hF)
    have k36481 : (0 : Int32).toInt = 0 := rfl
    have b36483 := Int32.le_toInt (0 : Int32)
    have b36484 := Int32.toInt_lt (0 : Int32)
    have n36482a : 161 - (0 : Int32).toInt < (FU : Int) := by have := FU_eq; omega
    have n36482b : 0 < FU := by have := FU_eq; omega
    exact lp36440 FU 0 0 I36296 A36296 L36296 Md.rf Md.rf hV36296 rfl (by omega) (by omega) n36482a n36482b hF
noncomputable def bM12_turns_25 (I36493 : Nat → Int32) (A36493 : Nat → Nat → Int32) (L36493 : Nat → Nat → Int64) : (Int32 → Int32 → Int32 → Int32 → (Int32 × (Nat → Int32) × (Nat → Nat → Int32) × (Nat → Nat → Int64))) → Int32 → Int32 → Int32 → Int32 → (Int32 × (Nat → Int32) × (Nat → Nat → Int32) × (Nat → Nat → Int64)) := fun kk36604 x36495 x36496 x36497 x36498 => if 160 ≤ x36495.toInt then (x36496, I36493, A36493, L36493) else if 0 ≤ (A36493 24 x36495.toNatClampNeg).toInt then if x36498.toInt < 0 then f_lt (x36495 + Int32.ofInt 1) fun y36612 => kk36604 y36612 x36496 x36497 (A36493 24 x36495.toNatClampNeg) else if x36498.toInt ≤ (A36493 24 x36495.toNatClampNeg).toInt then if (A36493 24 x36495.toNatClampNeg).toInt ≤ x36498.toInt then f_lt (x36495 + Int32.ofInt 1) fun y36616 => kk36604 y36616 x36496 x36497 (A36493 24 x36495.toNatClampNeg) else if x36497.toInt = 0 then f_lt (x36495 + Int32.ofInt 1) fun y36619 => kk36604 y36619 x36496 0 (A36493 24 x36495.toNatClampNeg) else f_lt (x36496 + Int32.ofInt 1) fun y36623 => f_lt (x36495 + Int32.ofInt 1) fun y36624 => kk36604 y36624 y36623 0 (A36493 24 x36495.toNatClampNeg) else if (A36493 24 x36495.toNatClampNeg).toInt ≤ x36498.toInt then f_lt (x36495 + Int32.ofInt 1) fun y36628 => kk36604 y36628 x36496 1 (A36493 24 x36495.toNatClampNeg) else f_lt (x36496 + Int32.ofInt 1) fun y36632 => f_lt (x36495 + Int32.ofInt 1) fun y36633 => kk36604 y36633 y36632 0 (A36493 24 x36495.toNatClampNeg) else f_lt (x36495 + Int32.ofInt 1) fun y36636 => kk36604 y36636 x36496 x36497 x36498
noncomputable def fM12_turns (I : Nat → Int32) (A : Nat → Nat → Int32) (L : Nat → Nat → Int64) (z1 : Int32) : Int32 × (Nat → Int32) × (Nat → Nat → Int32) × (Nat → Nat → Int64) := if fM12_isQuery I A L z1 = 0 then ((-1), I, A, L) else f_bdM (fM12_fillsFar I A L z1) fun _ I36493 A36493 L36493 => itr_iiii dfM (bM12_turns_25 I36493 A36493 L36493) FU 0 0 0 (-1)
def wo_j211_X12_turns : List Cond := [Cond.methodLink RX12 251 yX12_isQuery, Cond.instanceMethod yX12_isQuery, Cond.selects RX12 yX12_isQuery yX12_isQuery, Cond.initialized RX12, Cond.methodLink RX12 357 yX12_fillsFar, Cond.instanceMethod yX12_fillsFar, Cond.selects RX12 yX12_fillsFar yX12_fillsFar, Cond.fieldLink RX12 91 "WarpDeskModel" "farBy" "[I"]
def wz_j211_X12_turns : List Cond := .code yX12_turns cX12_turns 6 (some .int) :: (wo_j211_X12_turns ++ (wsX120 ++ (wz_j147_X12_isQuery ++ (wz_j186_X12_fillsFar ++ ([] : List Cond)))))
theorem zg_j211_X12_turns : ∀ w ∈ wz_j211_X12_turns, goodWord w = true := zg_cons rfl (zg_app (by decide +kernel) (zg_app zgU_wsX120 (zg_app zg_j147_X12_isQuery (zg_app zg_j186_X12_fillsFar zg_nil))))
theorem zi_j211_X12_turns : ∀ w ∈ wz_j211_X12_turns, w ∈ lw_tbl := zi_cons zw_1906 (zi_app (zi_cons zw_1663 (zi_cons zw_1665 (zi_cons zw_67 (zi_cons zw_115 (zi_cons zw_1844 (zi_cons zw_1846 (zi_cons zw_93 (zi_cons zw_1426 zi_nil)))))))) (zi_app inX12 (zi_app zi_j147_X12_isQuery (zi_app zi_j186_X12_fillsFar zi_nil))))
set_option maxHeartbeats 4000000 in
set_option maxRecDepth 100000 in
theorem j211_X12_turns (l : Launch) (D : va_G) (zt : Nat × Nat × Nat × (Nat → Nat) × (Nat → Nat)) (r : Nat → Nat) (g : Nat → ClassId) (I : Nat → Int32) (A : Nat → Nat → Int32) (L : Nat → Nat → Int64) (z1 : Int32) (hIv : IvM I A) : GM l D zt (tyM g) yX12_turns wz_j211_X12_turns ({ frames := 7, cells := 0, slots := 0, locals := 156 } : Room) [.ref (r 0), .int z1] (wM r g I A L) (fun v _ w' => ∃ (I' : Nat → Int32) (A' : Nat → Nat → Int32) (L' : Nat → Nat → Int64), Md [18, 19, 20] I I' ∧ Md [18, 19, 20, 21, 24] A A' ∧ IvM I' A' ∧ ∃ y0 : Int32, (L' = L) ∧ FE (fM12_turns I A L z1) (y0, I', A', L') ∧ v = some (.int y0) ∧ w' = wM r g I' A' L') 0 0 := by
  refine GM.of (cc := cX12_turns) (maxL := 6) (ret := (some .int)) (own := RX12) (lv := [(0, .ref (r 0)), (1, .int z1)]) (by decide) rfl rfl (Nat.le_of_ble_eq_true rfl) rfl (fun κ sz hk hR hN => ?_)
  have hin12 : ∀ w ∈ u_ws RX12 TX12 55, w ∈ wz_j211_X12_turns := fun w h => (List.mem_cons_of_mem _ (List.mem_append_right _ (List.mem_append_left _ h)))
  have hF : FE (fM12_turns I A L z1) (fM12_turns I A L z1) := FE.rf
  refine g_aload_n hk dX12_turns_0 rfl ?_
  refine g_iload_n hk dX12_turns_1 rfl ?_
  refine g_callV (n := 1) hk (j147_X12_isQuery l D zt r g I A L z1 hIv) (SP.same _) (fun _ h => h) (gi_V (List.mem_cons_of_mem _ (List.mem_append_left _ (List.mem_of_getElem? (i := 0) rfl))) (List.mem_cons_of_mem _ (List.mem_append_left _ (List.mem_of_getElem? (i := 1) rfl))) (List.mem_cons_of_mem _ (List.mem_append_left _ (List.mem_of_getElem? (i := 2) rfl))) (List.mem_cons_of_mem _ (List.mem_append_left _ (List.mem_of_getElem? (i := 3) rfl))) (gi_sub (fun w h => (List.mem_cons_of_mem _ (List.mem_append_right _ (List.mem_append_right _ (List.mem_append_left _ h))))) zg_j147_X12_isQuery)) rfl rfl rfl (by decide +kernel) ⟨Nat.le_of_ble_eq_true rfl, Nat.le_of_ble_eq_true rfl⟩ 0 rfl rfl rfl rfl (Nat.le_of_ble_eq_true rfl) ⟨Nat.le_of_ble_eq_true rfl, Nat.le_of_ble_eq_true rfl⟩ dX12_turns_2 (fun v ty' w' hp hk' => ?_)
  rcases hp with ⟨hC, rfl, rfl⟩ | ⟨c36486, c36487, c36488, c36489, hC, rfl, rfl⟩
  · skip
    replace hF := FE.pos hF hC
    show GW κ 6 0 0 (wM r g I A L) 5 [(0, .ref (r 0)), (1, .int z1)] [.int 0]
    refine g_if_ne (tgt := 10) (a := 0) hk dX12_turns_5 (by decide) rfl (fun z9 => absurd z9 (show ¬ ((0 : Int) ≠ (0 : Int)) from by decide)) (fun _ => ?_)
    refine g_iconst (v := (-1)) hk dX12_turns_8 (by decide) ?_
    exact g_iret hk hR rfl ⟨I, A, L, (show Md [18, 19, 20] I I from Md.rf), (show Md [18, 19, 20, 21, 24] A A from Md.rf), hIv, (-1), (show L = L from rfl), hF, rfl, rfl⟩ dX12_turns_9
  · skip
    replace hF := FE.neg hF (fe_ne hC (by decide))
    have f36491 : 0 ≤ (A 11 (5 * (I 15) + z1).toNatClampNeg).toInt ∧ (A 11 (5 * (I 15) + z1).toNatClampNeg).toInt ≤ 16 := IvM_a11 hIv _
    show GW κ 6 0 0 (wM r g I A L) 5 [(0, .ref (r 0)), (1, .int z1)] [.int 1]
    refine g_if_ne (tgt := 10) (a := 1) hk dX12_turns_5 (by decide) rfl (fun _ => ?_) (fun z9 => absurd (show (1 : Int) ≠ (0 : Int) from by decide) z9)
    refine g_aload_n hk dX12_turns_10 rfl ?_
    refine g_iload_n hk dX12_turns_11 rfl ?_
    refine g_callV (n := 1) hk (j186_X12_fillsFar l D zt r g I A L z1 hIv (by omega) (by omega)) (SP.same _) (fun _ h => h) (gi_V (List.mem_cons_of_mem _ (List.mem_append_left _ (List.mem_of_getElem? (i := 4) rfl))) (List.mem_cons_of_mem _ (List.mem_append_left _ (List.mem_of_getElem? (i := 5) rfl))) (List.mem_cons_of_mem _ (List.mem_append_left _ (List.mem_of_getElem? (i := 6) rfl))) (List.mem_cons_of_mem _ (List.mem_append_left _ (List.mem_of_getElem? (i := 3) rfl))) (gi_sub (fun w h => (List.mem_cons_of_mem _ (List.mem_append_right _ (List.mem_append_right _ (List.mem_append_right _ (List.mem_append_left _ h)))))) zg_j186_X12_fillsFar)) rfl rfl rfl (by decide +kernel) ⟨Nat.le_of_ble_eq_true rfl, Nat.le_of_ble_eq_true rfl⟩ 0 rfl rfl rfl rfl (Nat.le_of_ble_eq_true rfl) ⟨Nat.le_of_ble_eq_true rfl, Nat.le_of_ble_eq_true rfl⟩ dX12_turns_12 (fun v ty' w' hp hk' => ?_)
    obtain ⟨I36493, A36493, L36493, hI36493, hA36493, hV36493, r36494, hL36493, hC, rfl, rfl⟩ := hp
    replace hF := FE.bdM hF hC
    show GW κ 6 0 0 (wM r g I36493 A36493 L36493) 15 [(0, .ref (r 0)), (1, .int z1)] []
    refine g_iconst (v := (-1)) hk dX12_turns_15 (by decide) ?_
    refine g_istore_n (lv' := [(2, .int (-1)), (0, .ref (r 0)), (1, .int z1)]) hk dX12_turns_16 (by decide) rfl ?_
    refine g_iconst (v := 0) hk dX12_turns_17 (by decide) ?_
    refine g_istore_n (lv' := [(3, .int 0), (2, .int (-1)), (0, .ref (r 0)), (1, .int z1)]) hk dX12_turns_18 (by decide) rfl ?_
    refine g_iconst (v := 0) hk dX12_turns_19 (by decide) ?_
    refine g_istore (lv' := [(4, .int 0), (3, .int 0), (2, .int (-1)), (0, .ref (r 0)), (1, .int z1)]) hk dX12_turns_20 (by decide) rfl ?_
    refine g_iconst (v := 0) hk dX12_turns_22 (by decide) ?_
    refine g_istore (lv' := [(5, .int 0), (4, .int 0), (3, .int 0), (2, .int (-1)), (0, .ref (r 0)), (1, .int z1)]) hk dX12_turns_23 (by decide) rfl ?_
    have lp36601 : ∀ (n36602 : Nat) (x36495 : Int32) (x36496 : Int32) (x36497 : Int32) (x36498 : Int32), (0 ≤ x36495.toInt) → (x36495.toInt ≤ 160) → (0 ≤ x36497.toInt) → (x36497.toInt ≤ 1) → ((-1) ≤ x36498.toInt) → (161 - x36495.toInt < (n36602 : Int)) → (0 < n36602) → (FE (fM12_turns I A L z1) (itr_iiii dfM (bM12_turns_25 I36493 A36493 L36493) n36602 x36495 x36496 x36497 x36498)) → GW κ 6 0 0 (wM r g I36493 A36493 L36493) 25 [(5, .int x36495), (4, .int x36496), (3, .int x36497), (2, .int x36498), (0, .ref (r 0)), (1, .int z1)] [] := by
      intro n36602
      induction n36602 with
      | zero =>
        intro x36495 x36496 x36497 x36498 h36596 h36597 h36598 h36599 h36600 m36603 m36603z hF
        exact absurd m36603z (Nat.lt_irrefl 0)
      | succ n36602 ih36605 =>
        intro x36495 x36496 x36497 x36498 h36596 h36597 h36598 h36599 h36600 m36603 m36603z hF
        replace hF := FE.itr_iiii hF
        refine g_iload hk dX12_turns_25 rfl ?_
        refine g_sipush (v := 160) hk dX12_turns_27 (by decide) ?_
        refine g_icmp_ge (tgt := 101) (a := x36495.toInt) (b := 160) hk dX12_turns_30 (by decide) rfl rfl (fun c36606 => ?_) (fun c36606 => ?_)
        · skip
          replace hF := FE.pos hF c36606
          refine g_iload hk dX12_turns_101 rfl ?_
          have b36607l := Int32.le_toInt x36496
          have b36607h := Int32.toInt_lt x36496
          exact g_iret hk hR rfl ⟨I36493, A36493, L36493, (show Md [18, 19, 20] I I36493 from (Md.tr Md.rf hI36493 rfl)), (show Md [18, 19, 20, 21, 24] A A36493 from (Md.tr Md.rf hA36493 rfl)), hV36493, x36496, (show L36493 = L from hL36493), hF, rfl, rfl⟩ dX12_turns_103
        · skip
          replace hF := FE.neg hF c36606
          refine g_aload_n hk dX12_turns_33 rfl ?_
          refine gM_r0_48 hk hin12 (List.mem_cons_of_mem _ (List.mem_append_left _ (List.mem_of_getElem? (i := 7) rfl))) dX12_turns_34 ?_
          refine g_iload hk dX12_turns_37 rfl ?_
          refine lM_24 (v := (A36493 24 x36495.toNatClampNeg)) hk (vp_in_iff.mpr ⟨by omega, by omega⟩) rfl dX12_turns_39 ?_
          have b36608l := Int32.le_toInt (A36493 24 x36495.toNatClampNeg)
          have b36608h := Int32.toInt_lt (A36493 24 x36495.toNatClampNeg)
          refine g_if_ge (tgt := 46) (a := (A36493 24 x36495.toNatClampNeg).toInt) hk dX12_turns_40 (by decide) rfl (fun c36609 => ?_) (fun c36609 => ?_)
          · skip
            replace hF := FE.pos hF c36609
            refine g_iload_n hk dX12_turns_46 rfl ?_
            have b36610l := Int32.le_toInt x36498
            have b36610h := Int32.toInt_lt x36498
            refine g_if_lt (tgt := 63) (a := x36498.toInt) hk dX12_turns_47 (by decide) rfl (fun c36611 => ?_) (fun c36611 => ?_)
            · skip
              replace hF := FE.pos hF c36611
              refine g_iload_n hk dX12_turns_63 rfl ?_
              refine g_if_lt (tgt := 87) (a := x36498.toInt) hk dX12_turns_64 (by decide) rfl (fun _ => ?_) (fun z9 => absurd (show x36498.toInt < 0 from by omega) z9)
              refine g_aload_n hk dX12_turns_87 rfl ?_
              refine gM_r0_48 hk hin12 (List.mem_cons_of_mem _ (List.mem_append_left _ (List.mem_of_getElem? (i := 7) rfl))) dX12_turns_88 ?_
              refine g_iload hk dX12_turns_91 rfl ?_
              refine lM_24 (v := (A36493 24 x36495.toNatClampNeg)) hk (vp_in_iff.mpr ⟨by omega, by omega⟩) rfl dX12_turns_93 ?_
              refine g_istore_n (lv' := [(2, .int (A36493 24 x36495.toNatClampNeg)), (5, .int x36495), (4, .int x36496), (3, .int x36497), (0, .ref (r 0)), (1, .int z1)]) hk dX12_turns_94 (by decide) rfl ?_
              obtain ⟨y36612, ey36612⟩ : ∃ y : Int32, y = x36495 + Int32.ofInt 1 := ⟨_, rfl⟩
              replace hF := FE.lt hF ey36612
              have hy36612 : y36612.toInt = x36495.toInt + 1 := i32_add ey36612 rfl (by decide) (by omega) (by omega)
              refine g_iinc (v := y36612) (lv' := [(5, .int y36612), (2, .int (A36493 24 x36495.toNatClampNeg)), (4, .int x36496), (3, .int x36497), (0, .ref (r 0)), (1, .int z1)]) hk 1 dX12_turns_95 rfl ey36612.symm (by decide) rfl ?_
              refine g_goto (tgt := 25) hk dX12_turns_98 (by decide) ?_
              have b36613l := Int32.le_toInt x36496
              have b36613h := Int32.toInt_lt x36496
              exact g_lv (List.forall_mem_cons.mpr ⟨List.mem_of_getElem? (i := 0) rfl, (List.forall_mem_cons.mpr ⟨List.mem_of_getElem? (i := 2) rfl, (List.forall_mem_cons.mpr ⟨List.mem_of_getElem? (i := 3) rfl, (List.forall_mem_cons.mpr ⟨List.mem_of_getElem? (i := 1) rfl, (List.forall_mem_cons.mpr ⟨List.mem_of_getElem? (i := 4) rfl, (List.forall_mem_cons.mpr ⟨List.mem_of_getElem? (i := 5) rfl, (fun _ h => absurd h List.not_mem_nil)⟩)⟩)⟩)⟩)⟩)⟩) (ih36605 y36612 x36496 x36497 (A36493 24 x36495.toNatClampNeg) (by omega) (by omega) (by omega) (by omega) (by omega) (by omega) (by omega) hF)
            · skip
              replace hF := FE.neg hF c36611
              refine g_aload_n hk dX12_turns_50 rfl ?_
              refine gM_r0_48 hk hin12 (List.mem_cons_of_mem _ (List.mem_append_left _ (List.mem_of_getElem? (i := 7) rfl))) dX12_turns_51 ?_
              refine g_iload hk dX12_turns_54 rfl ?_
              refine lM_24 (v := (A36493 24 x36495.toNatClampNeg)) hk (vp_in_iff.mpr ⟨by omega, by omega⟩) rfl dX12_turns_56 ?_
              refine g_iload_n hk dX12_turns_57 rfl ?_
              refine g_icmp_ge (tgt := 63) (a := (A36493 24 x36495.toNatClampNeg).toInt) (b := x36498.toInt) hk dX12_turns_58 (by decide) rfl rfl (fun c36614 => ?_) (fun c36614 => ?_)
              · skip
                replace hF := FE.pos hF c36614
                refine g_iload_n hk dX12_turns_63 rfl ?_
                refine g_if_lt (tgt := 87) (a := x36498.toInt) hk dX12_turns_64 (by decide) rfl (fun z9 => absurd z9 (show ¬ (x36498.toInt < 0) from by omega)) (fun _ => ?_)
                refine g_aload_n hk dX12_turns_67 rfl ?_
                refine gM_r0_48 hk hin12 (List.mem_cons_of_mem _ (List.mem_append_left _ (List.mem_of_getElem? (i := 7) rfl))) dX12_turns_68 ?_
                refine g_iload hk dX12_turns_71 rfl ?_
                refine lM_24 (v := (A36493 24 x36495.toNatClampNeg)) hk (vp_in_iff.mpr ⟨by omega, by omega⟩) rfl dX12_turns_73 ?_
                refine g_iload_n hk dX12_turns_74 rfl ?_
                refine g_icmp_le (tgt := 87) (a := (A36493 24 x36495.toNatClampNeg).toInt) (b := x36498.toInt) hk dX12_turns_75 (by decide) rfl rfl (fun c36615 => ?_) (fun c36615 => ?_)
                · skip
                  replace hF := FE.pos hF c36615
                  refine g_aload_n hk dX12_turns_87 rfl ?_
                  refine gM_r0_48 hk hin12 (List.mem_cons_of_mem _ (List.mem_append_left _ (List.mem_of_getElem? (i := 7) rfl))) dX12_turns_88 ?_
                  refine g_iload hk dX12_turns_91 rfl ?_
                  refine lM_24 (v := (A36493 24 x36495.toNatClampNeg)) hk (vp_in_iff.mpr ⟨by omega, by omega⟩) rfl dX12_turns_93 ?_
                  refine g_istore_n (lv' := [(2, .int (A36493 24 x36495.toNatClampNeg)), (5, .int x36495), (4, .int x36496), (3, .int x36497), (0, .ref (r 0)), (1, .int z1)]) hk dX12_turns_94 (by decide) rfl ?_
                  obtain ⟨y36616, ey36616⟩ : ∃ y : Int32, y = x36495 + Int32.ofInt 1 := ⟨_, rfl⟩
                  replace hF := FE.lt hF ey36616
                  have hy36616 : y36616.toInt = x36495.toInt + 1 := i32_add ey36616 rfl (by decide) (by omega) (by omega)
                  refine g_iinc (v := y36616) (lv' := [(5, .int y36616), (2, .int (A36493 24 x36495.toNatClampNeg)), (4, .int x36496), (3, .int x36497), (0, .ref (r 0)), (1, .int z1)]) hk 1 dX12_turns_95 rfl ey36616.symm (by decide) rfl ?_
                  refine g_goto (tgt := 25) hk dX12_turns_98 (by decide) ?_
                  have b36617l := Int32.le_toInt x36496
                  have b36617h := Int32.toInt_lt x36496
                  exact g_lv (List.forall_mem_cons.mpr ⟨List.mem_of_getElem? (i := 0) rfl, (List.forall_mem_cons.mpr ⟨List.mem_of_getElem? (i := 2) rfl, (List.forall_mem_cons.mpr ⟨List.mem_of_getElem? (i := 3) rfl, (List.forall_mem_cons.mpr ⟨List.mem_of_getElem? (i := 1) rfl, (List.forall_mem_cons.mpr ⟨List.mem_of_getElem? (i := 4) rfl, (List.forall_mem_cons.mpr ⟨List.mem_of_getElem? (i := 5) rfl, (fun _ h => absurd h List.not_mem_nil)⟩)⟩)⟩)⟩)⟩)⟩) (ih36605 y36616 x36496 x36497 (A36493 24 x36495.toNatClampNeg) (by omega) (by omega) (by omega) (by omega) (by omega) (by omega) (by omega) hF)
                · skip
                  replace hF := FE.neg hF c36615
                  refine g_iload_n hk dX12_turns_78 rfl ?_
                  refine g_if_eq (tgt := 85) (a := x36497.toInt) hk dX12_turns_79 (by decide) rfl (fun c36618 => ?_) (fun c36618 => ?_)
                  · skip
                    replace hF := FE.pos hF c36618
                    refine g_iconst (v := 0) hk dX12_turns_85 (by decide) ?_
                    refine g_istore_n (lv' := [(3, .int 0), (5, .int x36495), (4, .int x36496), (2, .int x36498), (0, .ref (r 0)), (1, .int z1)]) hk dX12_turns_86 (by decide) rfl ?_
                    refine g_aload_n hk dX12_turns_87 rfl ?_
                    refine gM_r0_48 hk hin12 (List.mem_cons_of_mem _ (List.mem_append_left _ (List.mem_of_getElem? (i := 7) rfl))) dX12_turns_88 ?_
                    refine g_iload hk dX12_turns_91 rfl ?_
                    refine lM_24 (v := (A36493 24 x36495.toNatClampNeg)) hk (vp_in_iff.mpr ⟨by omega, by omega⟩) rfl dX12_turns_93 ?_
                    refine g_istore_n (lv' := [(2, .int (A36493 24 x36495.toNatClampNeg)), (3, .int 0), (5, .int x36495), (4, .int x36496), (0, .ref (r 0)), (1, .int z1)]) hk dX12_turns_94 (by decide) rfl ?_
                    obtain ⟨y36619, ey36619⟩ : ∃ y : Int32, y = x36495 + Int32.ofInt 1 := ⟨_, rfl⟩
                    replace hF := FE.lt hF ey36619
                    have hy36619 : y36619.toInt = x36495.toInt + 1 := i32_add ey36619 rfl (by decide) (by omega) (by omega)
                    refine g_iinc (v := y36619) (lv' := [(5, .int y36619), (2, .int (A36493 24 x36495.toNatClampNeg)), (3, .int 0), (4, .int x36496), (0, .ref (r 0)), (1, .int z1)]) hk 2 dX12_turns_95 rfl ey36619.symm (by decide) rfl ?_
                    refine g_goto (tgt := 25) hk dX12_turns_98 (by decide) ?_
                    have b36620l := Int32.le_toInt x36496
                    have b36620h := Int32.toInt_lt x36496
                    have k36621 : (0 : Int32).toInt = 0 := rfl
                    exact g_lv (List.forall_mem_cons.mpr ⟨List.mem_of_getElem? (i := 0) rfl, (List.forall_mem_cons.mpr ⟨List.mem_of_getElem? (i := 3) rfl, (List.forall_mem_cons.mpr ⟨List.mem_of_getElem? (i := 2) rfl, (List.forall_mem_cons.mpr ⟨List.mem_of_getElem? (i := 1) rfl, (List.forall_mem_cons.mpr ⟨List.mem_of_getElem? (i := 4) rfl, (List.forall_mem_cons.mpr ⟨List.mem_of_getElem? (i := 5) rfl, (fun _ h => absurd h List.not_mem_nil)⟩)⟩)⟩)⟩)⟩)⟩) (ih36605 y36619 x36496 0 (A36493 24 x36495.toNatClampNeg) (by omega) (by omega) (by omega) (by omega) (by omega) (by omega) (by omega) hF)
                  · skip
                    replace hF := FE.neg hF c36618
                    have b36622l := Int32.le_toInt x36496
                    have b36622h := Int32.toInt_lt x36496
                    obtain ⟨y36623, ey36623⟩ : ∃ y : Int32, y = x36496 + Int32.ofInt 1 := ⟨_, rfl⟩
                    replace hF := FE.lt hF ey36623
                    refine g_iinc (v := y36623) (lv' := [(4, .int y36623), (5, .int x36495), (3, .int x36497), (2, .int x36498), (0, .ref (r 0)), (1, .int z1)]) hk 1 dX12_turns_82 rfl ey36623.symm (by decide) rfl ?_
                    refine g_iconst (v := 0) hk dX12_turns_85 (by decide) ?_
                    refine g_istore_n (lv' := [(3, .int 0), (4, .int y36623), (5, .int x36495), (2, .int x36498), (0, .ref (r 0)), (1, .int z1)]) hk dX12_turns_86 (by decide) rfl ?_
                    refine g_aload_n hk dX12_turns_87 rfl ?_
                    refine gM_r0_48 hk hin12 (List.mem_cons_of_mem _ (List.mem_append_left _ (List.mem_of_getElem? (i := 7) rfl))) dX12_turns_88 ?_
                    refine g_iload hk dX12_turns_91 rfl ?_
                    refine lM_24 (v := (A36493 24 x36495.toNatClampNeg)) hk (vp_in_iff.mpr ⟨by omega, by omega⟩) rfl dX12_turns_93 ?_
                    refine g_istore_n (lv' := [(2, .int (A36493 24 x36495.toNatClampNeg)), (3, .int 0), (4, .int y36623), (5, .int x36495), (0, .ref (r 0)), (1, .int z1)]) hk dX12_turns_94 (by decide) rfl ?_
                    obtain ⟨y36624, ey36624⟩ : ∃ y : Int32, y = x36495 + Int32.ofInt 1 := ⟨_, rfl⟩
                    replace hF := FE.lt hF ey36624
                    have hy36624 : y36624.toInt = x36495.toInt + 1 := i32_add ey36624 rfl (by decide) (by omega) (by omega)
                    refine g_iinc (v := y36624) (lv' := [(5, .int y36624), (2, .int (A36493 24 x36495.toNatClampNeg)), (3, .int 0), (4, .int y36623), (0, .ref (r 0)), (1, .int z1)]) hk 3 dX12_turns_95 rfl ey36624.symm (by decide) rfl ?_
                    refine g_goto (tgt := 25) hk dX12_turns_98 (by decide) ?_
                    have b36625l := Int32.le_toInt y36623
                    have b36625h := Int32.toInt_lt y36623
                    have k36626 : (0 : Int32).toInt = 0 := rfl
                    exact g_lv (List.forall_mem_cons.mpr ⟨List.mem_of_getElem? (i := 0) rfl, (List.forall_mem_cons.mpr ⟨List.mem_of_getElem? (i := 3) rfl, (List.forall_mem_cons.mpr ⟨List.mem_of_getElem? (i := 2) rfl, (List.forall_mem_cons.mpr ⟨List.mem_of_getElem? (i := 1) rfl, (List.forall_mem_cons.mpr ⟨List.mem_of_getElem? (i := 4) rfl, (List.forall_mem_cons.mpr ⟨List.mem_of_getElem? (i := 5) rfl, (fun _ h => absurd h List.not_mem_nil)⟩)⟩)⟩)⟩)⟩)⟩) (ih36605 y36624 y36623 0 (A36493 24 x36495.toNatClampNeg) (by omega) (by omega) (by omega) (by omega) (by omega) (by omega) (by omega) hF)
              · skip
                replace hF := FE.neg hF c36614
                refine g_iconst (v := 1) hk dX12_turns_61 (by decide) ?_
                refine g_istore_n (lv' := [(3, .int 1), (5, .int x36495), (4, .int x36496), (2, .int x36498), (0, .ref (r 0)), (1, .int z1)]) hk dX12_turns_62 (by decide) rfl ?_
                refine g_iload_n hk dX12_turns_63 rfl ?_
                refine g_if_lt (tgt := 87) (a := x36498.toInt) hk dX12_turns_64 (by decide) rfl (fun z9 => absurd z9 (show ¬ (x36498.toInt < 0) from by omega)) (fun _ => ?_)
                refine g_aload_n hk dX12_turns_67 rfl ?_
                refine gM_r0_48 hk hin12 (List.mem_cons_of_mem _ (List.mem_append_left _ (List.mem_of_getElem? (i := 7) rfl))) dX12_turns_68 ?_
                refine g_iload hk dX12_turns_71 rfl ?_
                refine lM_24 (v := (A36493 24 x36495.toNatClampNeg)) hk (vp_in_iff.mpr ⟨by omega, by omega⟩) rfl dX12_turns_73 ?_
                refine g_iload_n hk dX12_turns_74 rfl ?_
                refine g_icmp_le (tgt := 87) (a := (A36493 24 x36495.toNatClampNeg).toInt) (b := x36498.toInt) hk dX12_turns_75 (by decide) rfl rfl (fun c36627 => ?_) (fun c36627 => ?_)
                · skip
                  replace hF := FE.pos hF c36627
                  refine g_aload_n hk dX12_turns_87 rfl ?_
                  refine gM_r0_48 hk hin12 (List.mem_cons_of_mem _ (List.mem_append_left _ (List.mem_of_getElem? (i := 7) rfl))) dX12_turns_88 ?_
                  refine g_iload hk dX12_turns_91 rfl ?_
                  refine lM_24 (v := (A36493 24 x36495.toNatClampNeg)) hk (vp_in_iff.mpr ⟨by omega, by omega⟩) rfl dX12_turns_93 ?_
                  refine g_istore_n (lv' := [(2, .int (A36493 24 x36495.toNatClampNeg)), (3, .int 1), (5, .int x36495), (4, .int x36496), (0, .ref (r 0)), (1, .int z1)]) hk dX12_turns_94 (by decide) rfl ?_
                  obtain ⟨y36628, ey36628⟩ : ∃ y : Int32, y = x36495 + Int32.ofInt 1 := ⟨_, rfl⟩
                  replace hF := FE.lt hF ey36628
                  have hy36628 : y36628.toInt = x36495.toInt + 1 := i32_add ey36628 rfl (by decide) (by omega) (by omega)
                  refine g_iinc (v := y36628) (lv' := [(5, .int y36628), (2, .int (A36493 24 x36495.toNatClampNeg)), (3, .int 1), (4, .int x36496), (0, .ref (r 0)), (1, .int z1)]) hk 2 dX12_turns_95 rfl ey36628.symm (by decide) rfl ?_
                  refine g_goto (tgt := 25) hk dX12_turns_98 (by decide) ?_
                  have b36629l := Int32.le_toInt x36496
                  have b36629h := Int32.toInt_lt x36496
                  have k36630 : (1 : Int32).toInt = 1 := rfl
                  exact g_lv (List.forall_mem_cons.mpr ⟨List.mem_of_getElem? (i := 0) rfl, (List.forall_mem_cons.mpr ⟨List.mem_of_getElem? (i := 3) rfl, (List.forall_mem_cons.mpr ⟨List.mem_of_getElem? (i := 2) rfl, (List.forall_mem_cons.mpr ⟨List.mem_of_getElem? (i := 1) rfl, (List.forall_mem_cons.mpr ⟨List.mem_of_getElem? (i := 4) rfl, (List.forall_mem_cons.mpr ⟨List.mem_of_getElem? (i := 5) rfl, (fun _ h => absurd h List.not_mem_nil)⟩)⟩)⟩)⟩)⟩)⟩) (ih36605 y36628 x36496 1 (A36493 24 x36495.toNatClampNeg) (by omega) (by omega) (by omega) (by omega) (by omega) (by omega) (by omega) hF)
                · skip
                  replace hF := FE.neg hF c36627
                  refine g_iload_n hk dX12_turns_78 rfl ?_
                  refine g_if_eq (tgt := 85) (a := 1) hk dX12_turns_79 (by decide) rfl (fun z9 => absurd z9 (show ¬ ((1 : Int) = (0 : Int)) from by decide)) (fun _ => ?_)
                  have b36631l := Int32.le_toInt x36496
                  have b36631h := Int32.toInt_lt x36496
                  obtain ⟨y36632, ey36632⟩ : ∃ y : Int32, y = x36496 + Int32.ofInt 1 := ⟨_, rfl⟩
                  replace hF := FE.lt hF ey36632
                  refine g_iinc (v := y36632) (lv' := [(4, .int y36632), (3, .int 1), (5, .int x36495), (2, .int x36498), (0, .ref (r 0)), (1, .int z1)]) hk 2 dX12_turns_82 rfl ey36632.symm (by decide) rfl ?_
                  refine g_iconst (v := 0) hk dX12_turns_85 (by decide) ?_
                  refine g_istore_n (lv' := [(3, .int 0), (4, .int y36632), (5, .int x36495), (2, .int x36498), (0, .ref (r 0)), (1, .int z1)]) hk dX12_turns_86 (by decide) rfl ?_
                  refine g_aload_n hk dX12_turns_87 rfl ?_
                  refine gM_r0_48 hk hin12 (List.mem_cons_of_mem _ (List.mem_append_left _ (List.mem_of_getElem? (i := 7) rfl))) dX12_turns_88 ?_
                  refine g_iload hk dX12_turns_91 rfl ?_
                  refine lM_24 (v := (A36493 24 x36495.toNatClampNeg)) hk (vp_in_iff.mpr ⟨by omega, by omega⟩) rfl dX12_turns_93 ?_
                  refine g_istore_n (lv' := [(2, .int (A36493 24 x36495.toNatClampNeg)), (3, .int 0), (4, .int y36632), (5, .int x36495), (0, .ref (r 0)), (1, .int z1)]) hk dX12_turns_94 (by decide) rfl ?_
                  obtain ⟨y36633, ey36633⟩ : ∃ y : Int32, y = x36495 + Int32.ofInt 1 := ⟨_, rfl⟩
                  replace hF := FE.lt hF ey36633
                  have hy36633 : y36633.toInt = x36495.toInt + 1 := i32_add ey36633 rfl (by decide) (by omega) (by omega)
                  refine g_iinc (v := y36633) (lv' := [(5, .int y36633), (2, .int (A36493 24 x36495.toNatClampNeg)), (3, .int 0), (4, .int y36632), (0, .ref (r 0)), (1, .int z1)]) hk 3 dX12_turns_95 rfl ey36633.symm (by decide) rfl ?_
                  refine g_goto (tgt := 25) hk dX12_turns_98 (by decide) ?_
                  have b36634l := Int32.le_toInt y36632
                  have b36634h := Int32.toInt_lt y36632
                  have k36635 : (0 : Int32).toInt = 0 := rfl
                  exact g_lv (List.forall_mem_cons.mpr ⟨List.mem_of_getElem? (i := 0) rfl, (List.forall_mem_cons.mpr ⟨List.mem_of_getElem? (i := 3) rfl, (List.forall_mem_cons.mpr ⟨List.mem_of_getElem? (i := 2) rfl, (List.forall_mem_cons.mpr ⟨List.mem_of_getElem? (i := 1) rfl, (List.forall_mem_cons.mpr ⟨List.mem_of_getElem? (i := 4) rfl, (List.forall_mem_cons.mpr ⟨List.mem_of_getElem? (i := 5) rfl, (fun _ h => absurd h List.not_mem_nil)⟩)⟩)⟩)⟩)⟩)⟩) (ih36605 y36633 y36632 0 (A36493 24 x36495.toNatClampNeg) (by omega) (by omega) (by omega) (by omega) (by omega) (by omega) (by omega) hF)
          · skip
            replace hF := FE.neg hF c36609
            refine g_goto (tgt := 95) hk dX12_turns_43 (by decide) ?_
            obtain ⟨y36636, ey36636⟩ : ∃ y : Int32, y = x36495 + Int32.ofInt 1 := ⟨_, rfl⟩
            replace hF := FE.lt hF ey36636
            have hy36636 : y36636.toInt = x36495.toInt + 1 := i32_add ey36636 rfl (by decide) (by omega) (by omega)
            refine g_iinc (v := y36636) (lv' := [(5, .int y36636), (4, .int x36496), (3, .int x36497), (2, .int x36498), (0, .ref (r 0)), (1, .int z1)]) hk 0 dX12_turns_95 rfl ey36636.symm (by decide) rfl ?_
            refine g_goto (tgt := 25) hk dX12_turns_98 (by decide) ?_
            have b36637l := Int32.le_toInt x36496
            have b36637h := Int32.toInt_lt x36496
            have b36638l := Int32.le_toInt x36498
            have b36638h := Int32.toInt_lt x36498
            exact g_lv (List.forall_mem_cons.mpr ⟨List.mem_of_getElem? (i := 0) rfl, (List.forall_mem_cons.mpr ⟨List.mem_of_getElem? (i := 1) rfl, (List.forall_mem_cons.mpr ⟨List.mem_of_getElem? (i := 2) rfl, (List.forall_mem_cons.mpr ⟨List.mem_of_getElem? (i := 3) rfl, (List.forall_mem_cons.mpr ⟨List.mem_of_getElem? (i := 4) rfl, (List.forall_mem_cons.mpr ⟨List.mem_of_getElem? (i := 5) rfl, (fun _ h => absurd h List.not_mem_nil)⟩)⟩)⟩)⟩)⟩)⟩) (ih36605 y36636 x36496 x36497 x36498 (by omega) (by omega) (by omega) (by omega) (by omega) (by omega) (by omega) hF)
    have k36639 : (0 : Int32).toInt = 0 := rfl
    have k36640 : ((-1) : Int32).toInt = (-1) := rfl
    have b36642 := Int32.le_toInt (0 : Int32)
    have b36643 := Int32.toInt_lt (0 : Int32)
    have n36641a : 161 - (0 : Int32).toInt < (FU : Int) := by have := FU_eq; omega
    have n36641b : 0 < FU := by have := FU_eq; omega
    exact lp36601 FU 0 0 0 (-1) (by omega) (by omega) (by omega) (by omega) (by omega) n36641a n36641b hF
noncomputable def bM12_flat_17 (A : Nat → Nat → Int32) (I : Nat → Int32) (L : Nat → Nat → Int64) (z1 : Int32) : (Int32 → Int32 → (Int32)) → Int32 → Int32 → (Int32) := fun kk36764 x36652 x36653 => if (A 17 0).toInt ≤ x36652.toInt then x36653 else if fM12_isWindow I A L x36652 z1 = 0 then f_lt (x36652 + Int32.ofInt 1) fun y36778 => kk36764 y36778 x36653 else f_lt (fM12_leastOf I A L x36652 z1) fun y36780 => f_lt (fM12_mostOf I A L x36652 z1) fun y36781 => if y36780.toInt ≠ y36781.toInt then f_lt (x36652 + Int32.ofInt 1) fun y36785 => kk36764 y36785 x36653 else f_lt (x36653 + Int32.ofInt 1) fun y36788 => f_lt (x36652 + Int32.ofInt 1) fun y36789 => kk36764 y36789 y36788
noncomputable def fM12_flat (I : Nat → Int32) (A : Nat → Nat → Int32) (L : Nat → Nat → Int64) (z1 : Int32) : Int32 := if fM12_in I A L z1 1 160 = 0 then (-1) else itr_ii (0 : Int32) (bM12_flat_17 A I L z1) FU 0 0
def wo_j212_X12_flat : List Cond := [Cond.methodLink RX12 244 yX12_in, Cond.static yX12_in, Cond.initialized RX12, Cond.fieldLink RX12 70 "WarpDeskModel" "now" "[I", Cond.methodLink RX12 257 yX12_isWindow, Cond.instanceMethod yX12_isWindow, Cond.selects RX12 yX12_isWindow yX12_isWindow, Cond.methodLink RX12 336 yX12_leastOf, Cond.instanceMethod yX12_leastOf, Cond.selects RX12 yX12_leastOf yX12_leastOf, Cond.methodLink RX12 339 yX12_mostOf, Cond.instanceMethod yX12_mostOf, Cond.selects RX12 yX12_mostOf yX12_mostOf]
def wz_j212_X12_flat : List Cond := .code yX12_flat cX12_flat 4 (some .int) :: (wo_j212_X12_flat ++ (wsX120 ++ (wz_j145_X12_in ++ (wz_j160_X12_isWindow ++ (wz_j162_X12_leastOf ++ (wz_j163_X12_mostOf ++ ([] : List Cond)))))))
theorem zg_j212_X12_flat : ∀ w ∈ wz_j212_X12_flat, goodWord w = true := zg_cons rfl (zg_app (by decide +kernel) (zg_app zgU_wsX120 (zg_app zg_j145_X12_in (zg_app zg_j160_X12_isWindow (zg_app zg_j162_X12_leastOf (zg_app zg_j163_X12_mostOf zg_nil))))))
theorem zi_j212_X12_flat : ∀ w ∈ wz_j212_X12_flat, w ∈ lw_tbl := zi_cons zw_1746 (zi_app (zi_cons zw_1656 (zi_cons zw_1657 (zi_cons zw_115 (zi_cons zw_1413 (zi_cons zw_1714 (zi_cons zw_1716 (zi_cons zw_72 (zi_cons zw_1723 (zi_cons zw_1725 (zi_cons zw_74 (zi_cons zw_1727 (zi_cons zw_1729 (zi_cons zw_75 zi_nil))))))))))))) (zi_app inX12 (zi_app zi_j145_X12_in (zi_app zi_j160_X12_isWindow (zi_app zi_j162_X12_leastOf (zi_app zi_j163_X12_mostOf zi_nil))))))
set_option maxHeartbeats 4000000 in
set_option maxRecDepth 100000 in
theorem j212_X12_flat (l : Launch) (D : va_G) (zt : Nat × Nat × Nat × (Nat → Nat) × (Nat → Nat)) (r : Nat → Nat) (g : Nat → ClassId) (I : Nat → Int32) (A : Nat → Nat → Int32) (L : Nat → Nat → Int64) (z1 : Int32) (hIv : IvM I A) : GM l D zt (tyM g) yX12_flat wz_j212_X12_flat ({ frames := 1, cells := 0, slots := 0, locals := 24 } : Room) [.ref (r 0), .int z1] (wM r g I A L) (fun v _ w' => ∃ y0 : Int32, FE (fM12_flat I A L z1) y0 ∧ v = some (.int y0) ∧ w' = wM r g I A L) 0 0 := by
  refine GM.of (cc := cX12_flat) (maxL := 4) (ret := (some .int)) (own := RX12) (lv := [(0, .ref (r 0)), (1, .int z1)]) (by decide) rfl rfl (Nat.le_of_ble_eq_true rfl) rfl (fun κ sz hk hR hN => ?_)
  have hin12 : ∀ w ∈ u_ws RX12 TX12 55, w ∈ wz_j212_X12_flat := fun w h => (List.mem_cons_of_mem _ (List.mem_append_right _ (List.mem_append_left _ h)))
  have hF : FE (fM12_flat I A L z1) (fM12_flat I A L z1) := FE.rf
  refine g_iload_n hk dX12_flat_0 rfl ?_
  refine g_iconst (v := 1) hk dX12_flat_1 (by decide) ?_
  refine g_sipush (v := 160) hk dX12_flat_2 (by decide) ?_
  have k36644 : (1 : Int32).toInt = 1 := rfl
  have k36645 : (160 : Int32).toInt = 160 := rfl
  refine g_callS (n := 3) hk (j145_X12_in l D zt r g I A L z1 1 160 hIv) (SP.same _) (fun _ h => h) (gi_S (List.mem_cons_of_mem _ (List.mem_append_left _ (List.mem_of_getElem? (i := 0) rfl))) (List.mem_cons_of_mem _ (List.mem_append_left _ (List.mem_of_getElem? (i := 1) rfl))) (List.mem_cons_of_mem _ (List.mem_append_left _ (List.mem_of_getElem? (i := 2) rfl))) (gi_sub (fun w h => (List.mem_cons_of_mem _ (List.mem_append_right _ (List.mem_append_right _ (List.mem_append_left _ h))))) zg_j145_X12_in)) rfl rfl rfl (by decide +kernel) ⟨Nat.le_of_ble_eq_true rfl, Nat.le_of_ble_eq_true rfl⟩ rfl rfl (Nat.le_of_ble_eq_true rfl) ⟨Nat.le_of_ble_eq_true rfl, Nat.le_of_ble_eq_true rfl⟩ dX12_flat_5 (fun v ty' w' hp hk' => ?_)
  rcases hp with ⟨c36646, hC, rfl, rfl⟩ | ⟨c36648, c36649, hC, rfl, rfl⟩
  · skip
    replace hF := FE.pos hF hC
    have b36651l := Int32.le_toInt z1
    have b36651h := Int32.toInt_lt z1
    show GW κ 4 0 0 (wM r g I A L) 8 [(0, .ref (r 0)), (1, .int z1)] [.int 0]
    refine g_if_ne (tgt := 13) (a := 0) hk dX12_flat_8 (by decide) rfl (fun z9 => absurd z9 (show ¬ ((0 : Int) ≠ (0 : Int)) from by decide)) (fun _ => ?_)
    refine g_iconst (v := (-1)) hk dX12_flat_11 (by decide) ?_
    exact g_iret hk hR rfl ⟨(-1), hF, rfl, rfl⟩ dX12_flat_12
  · skip
    replace hF := FE.neg hF (fe_ne hC (by decide))
    show GW κ 4 0 0 (wM r g I A L) 8 [(0, .ref (r 0)), (1, .int z1)] [.int 1]
    refine g_if_ne (tgt := 13) (a := 1) hk dX12_flat_8 (by decide) rfl (fun _ => ?_) (fun z9 => absurd (show (1 : Int) ≠ (0 : Int) from by decide) z9)
    refine g_iconst (v := 0) hk dX12_flat_13 (by decide) ?_
    refine g_istore_n (lv' := [(2, .int 0), (0, .ref (r 0)), (1, .int z1)]) hk dX12_flat_14 (by decide) rfl ?_
    refine g_iconst (v := 0) hk dX12_flat_15 (by decide) ?_
    refine g_istore_n (lv' := [(3, .int 0), (2, .int 0), (0, .ref (r 0)), (1, .int z1)]) hk dX12_flat_16 (by decide) rfl ?_
    have lp36761 : ∀ (n36762 : Nat) (x36652 : Int32) (x36653 : Int32), (0 ≤ x36652.toInt) → (x36652.toInt ≤ 160) → (161 - x36652.toInt < (n36762 : Int)) → (0 < n36762) → (FE (fM12_flat I A L z1) (itr_ii (0 : Int32) (bM12_flat_17 A I L z1) n36762 x36652 x36653)) → GW κ 4 0 0 (wM r g I A L) 17 [(3, .int x36652), (2, .int x36653), (0, .ref (r 0)), (1, .int z1)] [] := by
      intro n36762
      induction n36762 with
      | zero =>
        intro x36652 x36653 h36759 h36760 m36763 m36763z hF
        exact absurd m36763z (Nat.lt_irrefl 0)
      | succ n36762 ih36765 =>
        intro x36652 x36653 h36759 h36760 m36763 m36763z hF
        replace hF := FE.itr_ii hF
        refine g_iload_n hk dX12_flat_17 rfl ?_
        refine g_aload_n hk dX12_flat_18 rfl ?_
        refine gM_r0_35 hk hin12 (List.mem_cons_of_mem _ (List.mem_append_left _ (List.mem_of_getElem? (i := 3) rfl))) dX12_flat_19 ?_
        refine g_iconst (v := 0) hk dX12_flat_22 (by decide) ?_
        refine lM_17 (v := (A 17 0)) hk (vp_in_iff.mpr ⟨by decide, by decide⟩) rfl dX12_flat_23 ?_
        have f36766 := IvM_s17_0 hIv
        refine g_icmp_ge (tgt := 60) (a := x36652.toInt) (b := (A 17 0).toInt) hk dX12_flat_24 (by decide) rfl rfl (fun c36767 => ?_) (fun c36767 => ?_)
        · skip
          replace hF := FE.pos hF c36767
          refine g_iload_n hk dX12_flat_60 rfl ?_
          have b36768l := Int32.le_toInt x36653
          have b36768h := Int32.toInt_lt x36653
          exact g_iret hk hR rfl ⟨x36653, hF, rfl, rfl⟩ dX12_flat_61
        · skip
          replace hF := FE.neg hF c36767
          refine g_aload_n hk dX12_flat_27 rfl ?_
          refine g_iload_n hk dX12_flat_28 rfl ?_
          refine g_iload_n hk dX12_flat_29 rfl ?_
          refine g_callV (n := 2) hk (j160_X12_isWindow l D zt r g I A L x36652 z1 hIv) (SP.same _) (fun _ h => h) (gi_V (List.mem_cons_of_mem _ (List.mem_append_left _ (List.mem_of_getElem? (i := 4) rfl))) (List.mem_cons_of_mem _ (List.mem_append_left _ (List.mem_of_getElem? (i := 5) rfl))) (List.mem_cons_of_mem _ (List.mem_append_left _ (List.mem_of_getElem? (i := 6) rfl))) (List.mem_cons_of_mem _ (List.mem_append_left _ (List.mem_of_getElem? (i := 2) rfl))) (gi_sub (fun w h => (List.mem_cons_of_mem _ (List.mem_append_right _ (List.mem_append_right _ (List.mem_append_right _ (List.mem_append_left _ h)))))) zg_j160_X12_isWindow)) rfl rfl rfl (by decide +kernel) ⟨Nat.le_of_ble_eq_true rfl, Nat.le_of_ble_eq_true rfl⟩ 0 rfl rfl rfl rfl (Nat.le_of_ble_eq_true rfl) ⟨Nat.le_of_ble_eq_true rfl, Nat.le_of_ble_eq_true rfl⟩ dX12_flat_30 (fun v ty' w' hp hk' => ?_)
          rcases hp with ⟨hC, rfl, rfl⟩ | ⟨c36770, c36771, c36772, c36773, c36774, c36775, c36776, hC, rfl, rfl⟩
          · skip
            replace hF := FE.pos hF hC
            show GW κ 4 0 0 (wM r g I A L) 33 [(3, .int x36652), (2, .int x36653), (0, .ref (r 0)), (1, .int z1)] [.int 0]
            refine g_if_eq (tgt := 54) (a := 0) hk dX12_flat_33 (by decide) rfl (fun _ => ?_) (fun z9 => absurd (show (0 : Int) = (0 : Int) from by decide) z9)
            obtain ⟨y36778, ey36778⟩ : ∃ y : Int32, y = x36652 + Int32.ofInt 1 := ⟨_, rfl⟩
            replace hF := FE.lt hF ey36778
            have hy36778 : y36778.toInt = x36652.toInt + 1 := i32_add ey36778 rfl (by decide) (by omega) (by omega)
            refine g_iinc (v := y36778) (lv' := [(3, .int y36778), (2, .int x36653), (0, .ref (r 0)), (1, .int z1)]) hk 0 dX12_flat_54 rfl ey36778.symm (by decide) rfl ?_
            refine g_goto (tgt := 17) hk dX12_flat_57 (by decide) ?_
            have b36779l := Int32.le_toInt x36653
            have b36779h := Int32.toInt_lt x36653
            exact g_lv (List.forall_mem_cons.mpr ⟨List.mem_of_getElem? (i := 0) rfl, (List.forall_mem_cons.mpr ⟨List.mem_of_getElem? (i := 1) rfl, (List.forall_mem_cons.mpr ⟨List.mem_of_getElem? (i := 2) rfl, (List.forall_mem_cons.mpr ⟨List.mem_of_getElem? (i := 3) rfl, (fun _ h => absurd h List.not_mem_nil)⟩)⟩)⟩)⟩) (ih36765 y36778 x36653 (by omega) (by omega) (by omega) (by omega) hF)
          · skip
            replace hF := FE.neg hF (fe_ne hC (by decide))
            show GW κ 4 0 0 (wM r g I A L) 33 [(3, .int x36652), (2, .int x36653), (0, .ref (r 0)), (1, .int z1)] [.int 1]
            refine g_if_eq (tgt := 54) (a := 1) hk dX12_flat_33 (by decide) rfl (fun z9 => absurd z9 (show ¬ ((1 : Int) = (0 : Int)) from by decide)) (fun _ => ?_)
            refine g_aload_n hk dX12_flat_36 rfl ?_
            refine g_iload_n hk dX12_flat_37 rfl ?_
            refine g_iload_n hk dX12_flat_38 rfl ?_
            refine g_callV (n := 2) hk (j162_X12_leastOf l D zt r g I A L x36652 z1 hIv (by omega) (by omega) (by omega) (by omega) (by omega)) (SP.same _) (fun _ h => h) (gi_V (List.mem_cons_of_mem _ (List.mem_append_left _ (List.mem_of_getElem? (i := 7) rfl))) (List.mem_cons_of_mem _ (List.mem_append_left _ (List.mem_of_getElem? (i := 8) rfl))) (List.mem_cons_of_mem _ (List.mem_append_left _ (List.mem_of_getElem? (i := 9) rfl))) (List.mem_cons_of_mem _ (List.mem_append_left _ (List.mem_of_getElem? (i := 2) rfl))) (gi_sub (fun w h => (List.mem_cons_of_mem _ (List.mem_append_right _ (List.mem_append_right _ (List.mem_append_right _ (List.mem_append_right _ (List.mem_append_left _ h))))))) zg_j162_X12_leastOf)) rfl rfl rfl (by decide +kernel) ⟨Nat.le_of_ble_eq_true rfl, Nat.le_of_ble_eq_true rfl⟩ 0 rfl rfl rfl rfl (Nat.le_of_ble_eq_true rfl) ⟨Nat.le_of_ble_eq_true rfl, Nat.le_of_ble_eq_true rfl⟩ dX12_flat_39 (fun v ty' w' hp hk' => ?_)
            obtain ⟨y36780, hC, rfl, rfl⟩ := hp
            replace hF := FE.lt hF (fe_s hC)
            show GW κ 4 0 0 (wM r g I A L) 42 [(3, .int x36652), (2, .int x36653), (0, .ref (r 0)), (1, .int z1)] [.int y36780]
            refine g_aload_n hk dX12_flat_42 rfl ?_
            refine g_iload_n hk dX12_flat_43 rfl ?_
            refine g_iload_n hk dX12_flat_44 rfl ?_
            refine g_callV (n := 2) hk (j163_X12_mostOf l D zt r g I A L x36652 z1 hIv (by omega) (by omega) (by omega) (by omega) (by omega)) (SP.same _) (fun _ h => h) (gi_V (List.mem_cons_of_mem _ (List.mem_append_left _ (List.mem_of_getElem? (i := 10) rfl))) (List.mem_cons_of_mem _ (List.mem_append_left _ (List.mem_of_getElem? (i := 11) rfl))) (List.mem_cons_of_mem _ (List.mem_append_left _ (List.mem_of_getElem? (i := 12) rfl))) (List.mem_cons_of_mem _ (List.mem_append_left _ (List.mem_of_getElem? (i := 2) rfl))) (gi_sub (fun w h => (List.mem_cons_of_mem _ (List.mem_append_right _ (List.mem_append_right _ (List.mem_append_right _ (List.mem_append_right _ (List.mem_append_right _ (List.mem_append_left _ h)))))))) zg_j163_X12_mostOf)) rfl rfl rfl (by decide +kernel) ⟨Nat.le_of_ble_eq_true rfl, Nat.le_of_ble_eq_true rfl⟩ 0 rfl rfl rfl rfl (Nat.le_of_ble_eq_true rfl) ⟨Nat.le_of_ble_eq_true rfl, Nat.le_of_ble_eq_true rfl⟩ dX12_flat_45 (fun v ty' w' hp hk' => ?_)
            obtain ⟨y36781, hC, rfl, rfl⟩ := hp
            replace hF := FE.lt hF (fe_s hC)
            show GW κ 4 0 0 (wM r g I A L) 48 [(3, .int x36652), (2, .int x36653), (0, .ref (r 0)), (1, .int z1)] [.int y36781, .int y36780]
            have b36782l := Int32.le_toInt y36780
            have b36782h := Int32.toInt_lt y36780
            have b36783l := Int32.le_toInt y36781
            have b36783h := Int32.toInt_lt y36781
            refine g_icmp_ne (tgt := 54) (a := y36780.toInt) (b := y36781.toInt) hk dX12_flat_48 (by decide) rfl rfl (fun c36784 => ?_) (fun c36784 => ?_)
            · skip
              replace hF := FE.pos hF c36784
              obtain ⟨y36785, ey36785⟩ : ∃ y : Int32, y = x36652 + Int32.ofInt 1 := ⟨_, rfl⟩
              replace hF := FE.lt hF ey36785
              have hy36785 : y36785.toInt = x36652.toInt + 1 := i32_add ey36785 rfl (by decide) (by omega) (by omega)
              refine g_iinc (v := y36785) (lv' := [(3, .int y36785), (2, .int x36653), (0, .ref (r 0)), (1, .int z1)]) hk 0 dX12_flat_54 rfl ey36785.symm (by decide) rfl ?_
              refine g_goto (tgt := 17) hk dX12_flat_57 (by decide) ?_
              have b36786l := Int32.le_toInt x36653
              have b36786h := Int32.toInt_lt x36653
              exact g_lv (List.forall_mem_cons.mpr ⟨List.mem_of_getElem? (i := 0) rfl, (List.forall_mem_cons.mpr ⟨List.mem_of_getElem? (i := 1) rfl, (List.forall_mem_cons.mpr ⟨List.mem_of_getElem? (i := 2) rfl, (List.forall_mem_cons.mpr ⟨List.mem_of_getElem? (i := 3) rfl, (fun _ h => absurd h List.not_mem_nil)⟩)⟩)⟩)⟩) (ih36765 y36785 x36653 (by omega) (by omega) (by omega) (by omega) hF)
            · skip
              replace hF := FE.neg hF c36784
              have b36787l := Int32.le_toInt x36653
              have b36787h := Int32.toInt_lt x36653
              obtain ⟨y36788, ey36788⟩ : ∃ y : Int32, y = x36653 + Int32.ofInt 1 := ⟨_, rfl⟩
              replace hF := FE.lt hF ey36788
              refine g_iinc (v := y36788) (lv' := [(2, .int y36788), (3, .int x36652), (0, .ref (r 0)), (1, .int z1)]) hk 1 dX12_flat_51 rfl ey36788.symm (by decide) rfl ?_
              obtain ⟨y36789, ey36789⟩ : ∃ y : Int32, y = x36652 + Int32.ofInt 1 := ⟨_, rfl⟩
              replace hF := FE.lt hF ey36789
              have hy36789 : y36789.toInt = x36652.toInt + 1 := i32_add ey36789 rfl (by decide) (by omega) (by omega)
              refine g_iinc (v := y36789) (lv' := [(3, .int y36789), (2, .int y36788), (0, .ref (r 0)), (1, .int z1)]) hk 1 dX12_flat_54 rfl ey36789.symm (by decide) rfl ?_
              refine g_goto (tgt := 17) hk dX12_flat_57 (by decide) ?_
              have b36790l := Int32.le_toInt y36788
              have b36790h := Int32.toInt_lt y36788
              exact g_lv (List.forall_mem_cons.mpr ⟨List.mem_of_getElem? (i := 0) rfl, (List.forall_mem_cons.mpr ⟨List.mem_of_getElem? (i := 1) rfl, (List.forall_mem_cons.mpr ⟨List.mem_of_getElem? (i := 2) rfl, (List.forall_mem_cons.mpr ⟨List.mem_of_getElem? (i := 3) rfl, (fun _ h => absurd h List.not_mem_nil)⟩)⟩)⟩)⟩) (ih36765 y36789 y36788 (by omega) (by omega) (by omega) (by omega) hF)
    have k36791 : (0 : Int32).toInt = 0 := rfl
    have b36793 := Int32.le_toInt (0 : Int32)
    have b36794 := Int32.toInt_lt (0 : Int32)
    have n36792a : 161 - (0 : Int32).toInt < (FU : Int) := by have := FU_eq; omega
    have n36792b : 0 < FU := by have := FU_eq; omega
    exact lp36761 FU 0 0 (by omega) (by omega) n36792a n36792b hF
noncomputable def bM12_whole_34 (x36803 : Int32) (I : Nat → Int32) (A : Nat → Nat → Int32) (L : Nat → Nat → Int64) (kk37057 : Int32 → Int32 → Int32 → (Int32)) (x36804 : Int32) (x36805 : Int32) : (Int32 → (Int32)) → Int32 → (Int32) := fun kk37089 x37062 => f_lt (x36803 + x37062) fun y37091 => if fM12_isThere I A L y37091 = 0 then if x37062.toInt = 0 then f_lt (x36803 + Int32.ofInt 1) fun y37100 => kk37057 y37100 x36804 x36805 else if x36804.toInt < x37062.toInt then f_lt (x36803 + Int32.ofInt 1) fun y37102 => kk37057 y37102 x37062 x36803 else f_lt (x36803 + Int32.ofInt 1) fun y37103 => kk37057 y37103 x36804 x36805 else f_lt (x37062 + Int32.ofInt 1) fun y37104 => kk37089 y37104
noncomputable def bM12_whole_20 (A : Nat → Nat → Int32) (z1 : Int32) (I : Nat → Int32) (L : Nat → Nat → Int64) : (Int32 → Int32 → Int32 → (Int32)) → Int32 → Int32 → Int32 → (Int32) := fun kk37057 x36803 x36804 x36805 => if (A 17 0).toInt ≤ x36803.toInt then if z1.toInt ≠ 0 then x36804 else x36805 else itr_i (0 : Int32) (bM12_whole_34 x36803 I A L kk37057 x36804 x36805) FU 0
noncomputable def fM12_whole (I : Nat → Int32) (A : Nat → Nat → Int32) (L : Nat → Nat → Int64) (z1 : Int32) : Int32 := if fM12_in I A L z1 0 1 = 0 then (-1) else itr_iii (0 : Int32) (bM12_whole_20 A z1 I L) FU 0 (-2) (-2)
def wo_j213_X12_whole : List Cond := [Cond.methodLink RX12 244 yX12_in, Cond.static yX12_in, Cond.initialized RX12, Cond.fieldLink RX12 70 "WarpDeskModel" "now" "[I", Cond.methodLink RX12 320 yX12_isThere, Cond.instanceMethod yX12_isThere, Cond.selects RX12 yX12_isThere yX12_isThere]
def wz_j213_X12_whole : List Cond := .code yX12_whole cX12_whole 6 (some .int) :: (wo_j213_X12_whole ++ (wsX120 ++ (wz_j145_X12_in ++ (wz_j143_X12_isThere ++ ([] : List Cond)))))
theorem zg_j213_X12_whole : ∀ w ∈ wz_j213_X12_whole, goodWord w = true := zg_cons rfl (zg_app (by decide +kernel) (zg_app zgU_wsX120 (zg_app zg_j145_X12_in (zg_app zg_j143_X12_isThere zg_nil))))
theorem zi_j213_X12_whole : ∀ w ∈ wz_j213_X12_whole, w ∈ lw_tbl := zi_cons zw_1750 (zi_app (zi_cons zw_1656 (zi_cons zw_1657 (zi_cons zw_115 (zi_cons zw_1413 (zi_cons zw_1648 (zi_cons zw_1650 (zi_cons zw_65 zi_nil))))))) (zi_app inX12 (zi_app zi_j145_X12_in (zi_app zi_j143_X12_isThere zi_nil))))
set_option maxHeartbeats 4000000 in
set_option maxRecDepth 100000 in
theorem j213_X12_whole (l : Launch) (D : va_G) (zt : Nat × Nat × Nat × (Nat → Nat) × (Nat → Nat)) (r : Nat → Nat) (g : Nat → ClassId) (I : Nat → Int32) (A : Nat → Nat → Int32) (L : Nat → Nat → Int64) (z1 : Int32) (hIv : IvM I A) : GM l D zt (tyM g) yX12_whole wz_j213_X12_whole ({ frames := 3, cells := 0, slots := 0, locals := 64 } : Room) [.ref (r 0), .int z1] (wM r g I A L) (fun v _ w' => ∃ y0 : Int32, ((-2) ≤ y0.toInt) ∧ (y0.toInt ≤ 160) ∧ FE (fM12_whole I A L z1) y0 ∧ v = some (.int y0) ∧ w' = wM r g I A L) 0 0 := by
  refine GM.of (cc := cX12_whole) (maxL := 6) (ret := (some .int)) (own := RX12) (lv := [(0, .ref (r 0)), (1, .int z1)]) (by decide) rfl rfl (Nat.le_of_ble_eq_true rfl) rfl (fun κ sz hk hR hN => ?_)
  have hin12 : ∀ w ∈ u_ws RX12 TX12 55, w ∈ wz_j213_X12_whole := fun w h => (List.mem_cons_of_mem _ (List.mem_append_right _ (List.mem_append_left _ h)))
  have hF : FE (fM12_whole I A L z1) (fM12_whole I A L z1) := FE.rf
  refine g_iload_n hk dX12_whole_0 rfl ?_
  refine g_iconst (v := 0) hk dX12_whole_1 (by decide) ?_
  refine g_iconst (v := 1) hk dX12_whole_2 (by decide) ?_
  have k36795 : (0 : Int32).toInt = 0 := rfl
  have k36796 : (1 : Int32).toInt = 1 := rfl
  refine g_callS (n := 3) hk (j145_X12_in l D zt r g I A L z1 0 1 hIv) (SP.same _) (fun _ h => h) (gi_S (List.mem_cons_of_mem _ (List.mem_append_left _ (List.mem_of_getElem? (i := 0) rfl))) (List.mem_cons_of_mem _ (List.mem_append_left _ (List.mem_of_getElem? (i := 1) rfl))) (List.mem_cons_of_mem _ (List.mem_append_left _ (List.mem_of_getElem? (i := 2) rfl))) (gi_sub (fun w h => (List.mem_cons_of_mem _ (List.mem_append_right _ (List.mem_append_right _ (List.mem_append_left _ h))))) zg_j145_X12_in)) rfl rfl rfl (by decide +kernel) ⟨Nat.le_of_ble_eq_true rfl, Nat.le_of_ble_eq_true rfl⟩ rfl rfl (Nat.le_of_ble_eq_true rfl) ⟨Nat.le_of_ble_eq_true rfl, Nat.le_of_ble_eq_true rfl⟩ dX12_whole_3 (fun v ty' w' hp hk' => ?_)
  rcases hp with ⟨c36797, hC, rfl, rfl⟩ | ⟨c36799, c36800, hC, rfl, rfl⟩
  · skip
    replace hF := FE.pos hF hC
    have b36802l := Int32.le_toInt z1
    have b36802h := Int32.toInt_lt z1
    show GW κ 6 0 0 (wM r g I A L) 6 [(0, .ref (r 0)), (1, .int z1)] [.int 0]
    refine g_if_ne (tgt := 11) (a := 0) hk dX12_whole_6 (by decide) rfl (fun z9 => absurd z9 (show ¬ ((0 : Int) ≠ (0 : Int)) from by decide)) (fun _ => ?_)
    refine g_iconst (v := (-1)) hk dX12_whole_9 (by decide) ?_
    exact g_iret hk hR rfl ⟨(-1), (by decide), (by decide), hF, rfl, rfl⟩ dX12_whole_10
  · skip
    replace hF := FE.neg hF (fe_ne hC (by decide))
    show GW κ 6 0 0 (wM r g I A L) 6 [(0, .ref (r 0)), (1, .int z1)] [.int 1]
    refine g_if_ne (tgt := 11) (a := 1) hk dX12_whole_6 (by decide) rfl (fun _ => ?_) (fun z9 => absurd (show (1 : Int) ≠ (0 : Int) from by decide) z9)
    refine g_bipush (v := (-2)) hk dX12_whole_11 (by decide) ?_
    refine g_istore_n (lv' := [(2, .int (-2)), (0, .ref (r 0)), (1, .int z1)]) hk dX12_whole_13 (by decide) rfl ?_
    refine g_bipush (v := (-2)) hk dX12_whole_14 (by decide) ?_
    refine g_istore_n (lv' := [(3, .int (-2)), (2, .int (-2)), (0, .ref (r 0)), (1, .int z1)]) hk dX12_whole_16 (by decide) rfl ?_
    refine g_iconst (v := 0) hk dX12_whole_17 (by decide) ?_
    refine g_istore (lv' := [(4, .int 0), (3, .int (-2)), (2, .int (-2)), (0, .ref (r 0)), (1, .int z1)]) hk dX12_whole_18 (by decide) rfl ?_
    have lp37054 : ∀ (n37055 : Nat) (x36803 : Int32) (x36804 : Int32) (x36805 : Int32), (0 ≤ x36803.toInt) → (x36803.toInt ≤ 160) → ((-2) ≤ x36804.toInt) → (x36804.toInt ≤ 160) → ((-2) ≤ x36805.toInt) → (x36805.toInt ≤ 159) → (161 - x36803.toInt < (n37055 : Int)) → (0 < n37055) → (FE (fM12_whole I A L z1) (itr_iii (0 : Int32) (bM12_whole_20 A z1 I L) n37055 x36803 x36804 x36805)) → GW κ 6 0 0 (wM r g I A L) 20 [(4, .int x36803), (3, .int x36804), (2, .int x36805), (0, .ref (r 0)), (1, .int z1)] [] := by
      intro n37055
      induction n37055 with
      | zero =>
        intro x36803 x36804 x36805 h37048 h37049 h37050 h37051 h37052 h37053 m37056 m37056z hF
        exact absurd m37056z (Nat.lt_irrefl 0)
      | succ n37055 ih37058 =>
        intro x36803 x36804 x36805 h37048 h37049 h37050 h37051 h37052 h37053 m37056 m37056z hF
        replace hF := FE.itr_iii hF
        refine g_iload hk dX12_whole_20 rfl ?_
        refine g_aload_n hk dX12_whole_22 rfl ?_
        refine gM_r0_35 hk hin12 (List.mem_cons_of_mem _ (List.mem_append_left _ (List.mem_of_getElem? (i := 3) rfl))) dX12_whole_23 ?_
        refine g_iconst (v := 0) hk dX12_whole_26 (by decide) ?_
        refine lM_17 (v := (A 17 0)) hk (vp_in_iff.mpr ⟨by decide, by decide⟩) rfl dX12_whole_27 ?_
        have f37059 := IvM_s17_0 hIv
        refine g_icmp_ge (tgt := 78) (a := x36803.toInt) (b := (A 17 0).toInt) hk dX12_whole_28 (by decide) rfl rfl (fun c37060 => ?_) (fun c37060 => ?_)
        · skip
          replace hF := FE.pos hF c37060
          refine g_iload_n hk dX12_whole_78 rfl ?_
          refine g_if_ne (tgt := 86) (a := z1.toInt) hk dX12_whole_79 (by decide) rfl (fun c37061 => ?_) (fun c37061 => ?_)
          · skip
            replace hF := FE.pos hF c37061
            refine g_iload_n hk dX12_whole_86 rfl ?_
            exact g_iret hk hR rfl ⟨x36804, (by omega), (by omega), hF, rfl, rfl⟩ dX12_whole_87
          · skip
            replace hF := FE.neg hF c37061
            refine g_iload_n hk dX12_whole_82 rfl ?_
            refine g_goto (tgt := 87) hk dX12_whole_83 (by decide) ?_
            exact g_iret hk hR rfl ⟨x36805, (by omega), (by omega), hF, rfl, rfl⟩ dX12_whole_87
        · skip
          replace hF := FE.neg hF c37060
          refine g_iconst (v := 0) hk dX12_whole_31 (by decide) ?_
          refine g_istore (lv' := [(5, .int 0), (4, .int x36803), (3, .int x36804), (2, .int x36805), (0, .ref (r 0)), (1, .int z1)]) hk dX12_whole_32 (by decide) rfl ?_
          have lp37086 : ∀ (n37087 : Nat) (x37062 : Int32), (0 ≤ x37062.toInt) → (x37062.toInt ≤ 160) → (x36803.toInt + x37062.toInt ≤ 160) → (161 - x37062.toInt < (n37087 : Int)) → (0 < n37087) → (FE (fM12_whole I A L z1) (itr_i (0 : Int32) (bM12_whole_34 x36803 I A L (itr_iii (0 : Int32) (bM12_whole_20 A z1 I L) n37055) x36804 x36805) n37087 x37062)) → GW κ 6 0 0 (wM r g I A L) 34 [(5, .int x37062), (4, .int x36803), (3, .int x36804), (2, .int x36805), (0, .ref (r 0)), (1, .int z1)] [] := by
            intro n37087
            induction n37087 with
            | zero =>
              intro x37062 h37083 h37084 h37085 m37088 m37088z hF
              exact absurd m37088z (Nat.lt_irrefl 0)
            | succ n37087 ih37090 =>
              intro x37062 h37083 h37084 h37085 m37088 m37088z hF
              replace hF := FE.itr_i hF
              refine g_aload_n hk dX12_whole_34 rfl ?_
              refine g_iload hk dX12_whole_35 rfl ?_
              refine g_iload hk dX12_whole_37 rfl ?_
              refine g_iadd hk dX12_whole_39 ?_
              refine g_topi (fun y37091 ey37091 => ?_)
              replace hF := FE.lt hF ey37091
              have hy37091 : y37091.toInt = x36803.toInt + x37062.toInt := i32_add ey37091 rfl rfl (by omega) (by omega)
              refine g_callV (n := 1) hk (j143_X12_isThere l D zt r g I A L y37091 hIv) (SP.same _) (fun _ h => h) (gi_V (List.mem_cons_of_mem _ (List.mem_append_left _ (List.mem_of_getElem? (i := 4) rfl))) (List.mem_cons_of_mem _ (List.mem_append_left _ (List.mem_of_getElem? (i := 5) rfl))) (List.mem_cons_of_mem _ (List.mem_append_left _ (List.mem_of_getElem? (i := 6) rfl))) (List.mem_cons_of_mem _ (List.mem_append_left _ (List.mem_of_getElem? (i := 2) rfl))) (gi_sub (fun w h => (List.mem_cons_of_mem _ (List.mem_append_right _ (List.mem_append_right _ (List.mem_append_right _ (List.mem_append_left _ h)))))) zg_j143_X12_isThere)) rfl rfl rfl (by decide +kernel) ⟨Nat.le_of_ble_eq_true rfl, Nat.le_of_ble_eq_true rfl⟩ 0 rfl rfl rfl rfl (Nat.le_of_ble_eq_true rfl) ⟨Nat.le_of_ble_eq_true rfl, Nat.le_of_ble_eq_true rfl⟩ dX12_whole_40 (fun v ty' w' hp hk' => ?_)
              rcases hp with ⟨hC, rfl, rfl⟩ | ⟨c37093, c37094, c37095, c37096, c37097, hC, rfl, rfl⟩
              · skip
                replace hF := FE.pos hF hC
                show GW κ 6 0 0 (wM r g I A L) 43 [(5, .int x37062), (4, .int x36803), (3, .int x36804), (2, .int x36805), (0, .ref (r 0)), (1, .int z1)] [.int 0]
                refine g_if_eq (tgt := 52) (a := 0) hk dX12_whole_43 (by decide) rfl (fun _ => ?_) (fun z9 => absurd (show (0 : Int) = (0 : Int) from by decide) z9)
                refine g_iload hk dX12_whole_52 rfl ?_
                refine g_if_eq (tgt := 72) (a := x37062.toInt) hk dX12_whole_54 (by decide) rfl (fun c37099 => ?_) (fun c37099 => ?_)
                · skip
                  replace hF := FE.pos hF c37099
                  obtain ⟨y37100, ey37100⟩ : ∃ y : Int32, y = x36803 + Int32.ofInt 1 := ⟨_, rfl⟩
                  replace hF := FE.lt hF ey37100
                  have hy37100 : y37100.toInt = x36803.toInt + 1 := i32_add ey37100 rfl (by decide) (by omega) (by omega)
                  refine g_iinc (v := y37100) (lv' := [(4, .int y37100), (5, .int x37062), (3, .int x36804), (2, .int x36805), (0, .ref (r 0)), (1, .int z1)]) hk 1 dX12_whole_72 rfl ey37100.symm (by decide) rfl ?_
                  refine g_goto (tgt := 20) hk dX12_whole_75 (by decide) ?_
                  exact g_lv (List.forall_mem_cons.mpr ⟨List.mem_of_getElem? (i := 0) rfl, (List.forall_mem_cons.mpr ⟨List.mem_of_getElem? (i := 2) rfl, (List.forall_mem_cons.mpr ⟨List.mem_of_getElem? (i := 3) rfl, (List.forall_mem_cons.mpr ⟨List.mem_of_getElem? (i := 4) rfl, (List.forall_mem_cons.mpr ⟨List.mem_of_getElem? (i := 5) rfl, (fun _ h => absurd h List.not_mem_nil)⟩)⟩)⟩)⟩)⟩) (ih37058 y37100 x36804 x36805 (by omega) (by omega) (by omega) (by omega) (by omega) (by omega) (by omega) (by omega) hF)
                · skip
                  replace hF := FE.neg hF c37099
                  refine g_iload hk dX12_whole_57 rfl ?_
                  refine g_iload_n hk dX12_whole_59 rfl ?_
                  refine g_icmp_gt (tgt := 66) (a := x37062.toInt) (b := x36804.toInt) hk dX12_whole_60 (by decide) rfl rfl (fun c37101 => ?_) (fun c37101 => ?_)
                  · skip
                    replace hF := FE.pos hF c37101
                    refine g_iload hk dX12_whole_66 rfl ?_
                    refine g_istore_n (lv' := [(2, .int x36803), (5, .int x37062), (4, .int x36803), (3, .int x36804), (0, .ref (r 0)), (1, .int z1)]) hk dX12_whole_68 (by decide) rfl ?_
                    refine g_iload hk dX12_whole_69 rfl ?_
                    refine g_istore_n (lv' := [(3, .int x37062), (2, .int x36803), (5, .int x37062), (4, .int x36803), (0, .ref (r 0)), (1, .int z1)]) hk dX12_whole_71 (by decide) rfl ?_
                    obtain ⟨y37102, ey37102⟩ : ∃ y : Int32, y = x36803 + Int32.ofInt 1 := ⟨_, rfl⟩
                    replace hF := FE.lt hF ey37102
                    have hy37102 : y37102.toInt = x36803.toInt + 1 := i32_add ey37102 rfl (by decide) (by omega) (by omega)
                    refine g_iinc (v := y37102) (lv' := [(4, .int y37102), (3, .int x37062), (2, .int x36803), (5, .int x37062), (0, .ref (r 0)), (1, .int z1)]) hk 3 dX12_whole_72 rfl ey37102.symm (by decide) rfl ?_
                    refine g_goto (tgt := 20) hk dX12_whole_75 (by decide) ?_
                    exact g_lv (List.forall_mem_cons.mpr ⟨List.mem_of_getElem? (i := 0) rfl, (List.forall_mem_cons.mpr ⟨List.mem_of_getElem? (i := 1) rfl, (List.forall_mem_cons.mpr ⟨List.mem_of_getElem? (i := 2) rfl, (List.forall_mem_cons.mpr ⟨List.mem_of_getElem? (i := 4) rfl, (List.forall_mem_cons.mpr ⟨List.mem_of_getElem? (i := 5) rfl, (fun _ h => absurd h List.not_mem_nil)⟩)⟩)⟩)⟩)⟩) (ih37058 y37102 x37062 x36803 (by omega) (by omega) (by omega) (by omega) (by omega) (by omega) (by omega) (by omega) hF)
                  · skip
                    replace hF := FE.neg hF c37101
                    refine g_goto (tgt := 72) hk dX12_whole_63 (by decide) ?_
                    obtain ⟨y37103, ey37103⟩ : ∃ y : Int32, y = x36803 + Int32.ofInt 1 := ⟨_, rfl⟩
                    replace hF := FE.lt hF ey37103
                    have hy37103 : y37103.toInt = x36803.toInt + 1 := i32_add ey37103 rfl (by decide) (by omega) (by omega)
                    refine g_iinc (v := y37103) (lv' := [(4, .int y37103), (5, .int x37062), (3, .int x36804), (2, .int x36805), (0, .ref (r 0)), (1, .int z1)]) hk 1 dX12_whole_72 rfl ey37103.symm (by decide) rfl ?_
                    refine g_goto (tgt := 20) hk dX12_whole_75 (by decide) ?_
                    exact g_lv (List.forall_mem_cons.mpr ⟨List.mem_of_getElem? (i := 0) rfl, (List.forall_mem_cons.mpr ⟨List.mem_of_getElem? (i := 2) rfl, (List.forall_mem_cons.mpr ⟨List.mem_of_getElem? (i := 3) rfl, (List.forall_mem_cons.mpr ⟨List.mem_of_getElem? (i := 4) rfl, (List.forall_mem_cons.mpr ⟨List.mem_of_getElem? (i := 5) rfl, (fun _ h => absurd h List.not_mem_nil)⟩)⟩)⟩)⟩)⟩) (ih37058 y37103 x36804 x36805 (by omega) (by omega) (by omega) (by omega) (by omega) (by omega) (by omega) (by omega) hF)
              · skip
                replace hF := FE.neg hF (fe_ne hC (by decide))
                show GW κ 6 0 0 (wM r g I A L) 43 [(5, .int x37062), (4, .int x36803), (3, .int x36804), (2, .int x36805), (0, .ref (r 0)), (1, .int z1)] [.int 1]
                refine g_if_eq (tgt := 52) (a := 1) hk dX12_whole_43 (by decide) rfl (fun z9 => absurd z9 (show ¬ ((1 : Int) = (0 : Int)) from by decide)) (fun _ => ?_)
                obtain ⟨y37104, ey37104⟩ : ∃ y : Int32, y = x37062 + Int32.ofInt 1 := ⟨_, rfl⟩
                replace hF := FE.lt hF ey37104
                have hy37104 : y37104.toInt = x37062.toInt + 1 := i32_add ey37104 rfl (by decide) (by omega) (by omega)
                refine g_iinc (v := y37104) (lv' := [(5, .int y37104), (4, .int x36803), (3, .int x36804), (2, .int x36805), (0, .ref (r 0)), (1, .int z1)]) hk 0 dX12_whole_46 rfl ey37104.symm (by decide) rfl ?_
                refine g_goto (tgt := 34) hk dX12_whole_49 (by decide) ?_
                exact g_lv (List.forall_mem_cons.mpr ⟨List.mem_of_getElem? (i := 0) rfl, (List.forall_mem_cons.mpr ⟨List.mem_of_getElem? (i := 1) rfl, (List.forall_mem_cons.mpr ⟨List.mem_of_getElem? (i := 2) rfl, (List.forall_mem_cons.mpr ⟨List.mem_of_getElem? (i := 3) rfl, (List.forall_mem_cons.mpr ⟨List.mem_of_getElem? (i := 4) rfl, (List.forall_mem_cons.mpr ⟨List.mem_of_getElem? (i := 5) rfl, (fun _ h => absurd h List.not_mem_nil)⟩)⟩)⟩)⟩)⟩)⟩) (ih37090 y37104 (by omega) (by omega) (by omega) (by omega) (by omega) hF)
          have b37106 := Int32.le_toInt (0 : Int32)
          have b37107 := Int32.toInt_lt (0 : Int32)
          have n37105a : 161 - (0 : Int32).toInt < (FU : Int) := by have := FU_eq; omega
          have n37105b : 0 < FU := by have := FU_eq; omega
          exact lp37086 FU 0 (by omega) (by omega) (by omega) n37105a n37105b hF
    have k37108 : ((-2) : Int32).toInt = (-2) := rfl
    have b37110 := Int32.le_toInt (0 : Int32)
    have b37111 := Int32.toInt_lt (0 : Int32)
    have n37109a : 161 - (0 : Int32).toInt < (FU : Int) := by have := FU_eq; omega
    have n37109b : 0 < FU := by have := FU_eq; omega
    exact lp37054 FU 0 (-2) (-2) (by omega) (by omega) (by omega) (by omega) (by omega) (by omega) n37109a n37109b hF
noncomputable def bM12_fired_14 (I : Nat → Int32) (A : Nat → Nat → Int32) (z1 : Int32) : (Int32 → Int32 → (Nat → Int32) → (Nat → Nat → Int32) → (Nat → Nat → Int64) → (Int32 × (Nat → Int32) × (Nat → Nat → Int32) × (Nat → Nat → Int64))) → Int32 → Int32 → (Nat → Int32) → (Nat → Nat → Int32) → (Nat → Nat → Int64) → (Int32 × (Nat → Int32) × (Nat → Nat → Int32) × (Nat → Nat → Int64)) := fun kk37372 x37120 x37121 I37124 A37124 L37124 => if (I 15).toInt = 0 then if (A 10 0).toInt ≤ x37120.toInt then (x37121, I37124, A37124, L37124) else f_lt ((A 17 0) - (A 11 (5 * (I 15) + x37120).toNatClampNeg)) fun y37380 => if fM12_isOf I37124 A37124 L37124 x37120 y37380 = 0 then f_lt (x37120 + Int32.ofInt 1) fun y37395 => kk37372 y37395 x37121 I37124 A37124 L37124 else f_bdM (fM12_distanceOf I37124 A37124 L37124 x37120 y37380) fun y37397 I37398 A37398 L37398 => if z1.toInt < y37397.toInt then f_lt (x37120 + Int32.ofInt 1) fun y37403 => kk37372 y37403 x37121 I37398 A37398 L37398 else f_lt ((1 : Int32) <<< (x37120 &&& 31)) fun y37405 => f_lt (x37121 ||| y37405) fun y37406 => f_lt (x37120 + Int32.ofInt 1) fun y37407 => kk37372 y37407 y37406 I37398 A37398 L37398 else if (I 15).toInt = 1 then if (A 10 1).toInt ≤ x37120.toInt then (x37121, I37124, A37124, L37124) else f_lt ((A 17 0) - (A 11 (5 * (I 15) + x37120).toNatClampNeg)) fun y37414 => if fM12_isOf I37124 A37124 L37124 x37120 y37414 = 0 then f_lt (x37120 + Int32.ofInt 1) fun y37429 => kk37372 y37429 x37121 I37124 A37124 L37124 else f_bdM (fM12_distanceOf I37124 A37124 L37124 x37120 y37414) fun y37431 I37432 A37432 L37432 => if z1.toInt < y37431.toInt then f_lt (x37120 + Int32.ofInt 1) fun y37437 => kk37372 y37437 x37121 I37432 A37432 L37432 else f_lt ((1 : Int32) <<< (x37120 &&& 31)) fun y37439 => f_lt (x37121 ||| y37439) fun y37440 => f_lt (x37120 + Int32.ofInt 1) fun y37441 => kk37372 y37441 y37440 I37432 A37432 L37432 else dfM
noncomputable def fM12_fired (I : Nat → Int32) (A : Nat → Nat → Int32) (L : Nat → Nat → Int64) (z1 : Int32) : Int32 × (Nat → Int32) × (Nat → Nat → Int32) × (Nat → Nat → Int64) := if 0 ≤ z1.toInt then f_bdM (fM12_copies I A L) fun _ I37115 A37115 L37115 => itr_iiIAL dfM (bM12_fired_14 I A z1) FU 0 0 I37115 A37115 L37115 else ((-1), I, A, L)
def wo_j214_X12_fired : List Cond := [Cond.methodLink RX12 323 yX12_copies, Cond.instanceMethod yX12_copies, Cond.selects RX12 yX12_copies yX12_copies, Cond.initialized RX12, Cond.fieldLink RX12 49 "WarpDeskModel" "queries" "[I", Cond.fieldLink RX12 197 "WarpDeskModel" "live" "I", Cond.fieldLink RX12 70 "WarpDeskModel" "now" "[I", Cond.methodLink RX12 254 yX12_wideOf, Cond.instanceMethod yX12_wideOf, Cond.selects RX12 yX12_wideOf yX12_wideOf, Cond.methodLink RX12 342 yX12_isOf, Cond.instanceMethod yX12_isOf, Cond.selects RX12 yX12_isOf yX12_isOf, Cond.methodLink RX12 345 yX12_distanceOf, Cond.instanceMethod yX12_distanceOf, Cond.selects RX12 yX12_distanceOf yX12_distanceOf]
def wz_j214_X12_fired : List Cond := .code yX12_fired cX12_fired 5 (some .int) :: (wo_j214_X12_fired ++ (wsX120 ++ (wz_j151_X12_copies ++ (wz_j148_X12_wideOf ++ (wz_j168_X12_isOf ++ (wz_j169_X12_distanceOf ++ ([] : List Cond)))))))
theorem zg_j214_X12_fired : ∀ w ∈ wz_j214_X12_fired, goodWord w = true := zg_cons rfl (zg_app (by decide +kernel) (zg_app zgU_wsX120 (zg_app zg_j151_X12_copies (zg_app zg_j148_X12_wideOf (zg_app zg_j168_X12_isOf (zg_app zg_j169_X12_distanceOf zg_nil))))))
theorem zi_j214_X12_fired : ∀ w ∈ wz_j214_X12_fired, w ∈ lw_tbl := zi_cons zw_1910 (zi_app (zi_cons zw_1679 (zi_cons zw_1681 (zi_cons zw_70 (zi_cons zw_115 (zi_cons zw_1406 (zi_cons zw_1400 (zi_cons zw_1413 (zi_cons zw_1667 (zi_cons zw_1669 (zi_cons zw_68 (zi_cons zw_1755 (zi_cons zw_1757 (zi_cons zw_78 (zi_cons zw_1759 (zi_cons zw_1761 (zi_cons zw_79 zi_nil)))))))))))))))) (zi_app inX12 (zi_app zi_j151_X12_copies (zi_app zi_j148_X12_wideOf (zi_app zi_j168_X12_isOf (zi_app zi_j169_X12_distanceOf zi_nil))))))
set_option maxHeartbeats 4000000 in
set_option maxRecDepth 100000 in
theorem j214_X12_fired (l : Launch) (D : va_G) (zt : Nat × Nat × Nat × (Nat → Nat) × (Nat → Nat)) (r : Nat → Nat) (g : Nat → ClassId) (I : Nat → Int32) (A : Nat → Nat → Int32) (L : Nat → Nat → Int64) (z1 : Int32) (hIv : IvM I A) : GM l D zt (tyM g) yX12_fired wz_j214_X12_fired ({ frames := 6, cells := 0, slots := 0, locals := 134 } : Room) [.ref (r 0), .int z1] (wM r g I A L) (fun v _ w' => ∃ (I' : Nat → Int32) (A' : Nat → Nat → Int32) (L' : Nat → Nat → Int64), Md [18, 19, 20] I I' ∧ Md [18, 19, 20, 21] A A' ∧ IvM I' A' ∧ ∃ y0 : Int32, (L' = L) ∧ FE (fM12_fired I A L z1) (y0, I', A', L') ∧ v = some (.int y0) ∧ w' = wM r g I' A' L') 0 0 := by
  refine GM.of (cc := cX12_fired) (maxL := 5) (ret := (some .int)) (own := RX12) (lv := [(0, .ref (r 0)), (1, .int z1)]) (by decide) rfl rfl (Nat.le_of_ble_eq_true rfl) rfl (fun κ sz hk hR hN => ?_)
  have hin12 : ∀ w ∈ u_ws RX12 TX12 55, w ∈ wz_j214_X12_fired := fun w h => (List.mem_cons_of_mem _ (List.mem_append_right _ (List.mem_append_left _ h)))
  have hF : FE (fM12_fired I A L z1) (fM12_fired I A L z1) := FE.rf
  refine g_iload_n hk dX12_fired_0 rfl ?_
  have b37112l := Int32.le_toInt z1
  have b37112h := Int32.toInt_lt z1
  refine g_if_ge (tgt := 6) (a := z1.toInt) hk dX12_fired_1 (by decide) rfl (fun c37113 => ?_) (fun c37113 => ?_)
  · skip
    replace hF := FE.pos hF c37113
    refine g_aload_n hk dX12_fired_6 rfl ?_
    refine g_callV (n := 0) hk (j151_X12_copies l D zt r g I A L  hIv) (SP.same _) (fun _ h => h) (gi_V (List.mem_cons_of_mem _ (List.mem_append_left _ (List.mem_of_getElem? (i := 0) rfl))) (List.mem_cons_of_mem _ (List.mem_append_left _ (List.mem_of_getElem? (i := 1) rfl))) (List.mem_cons_of_mem _ (List.mem_append_left _ (List.mem_of_getElem? (i := 2) rfl))) (List.mem_cons_of_mem _ (List.mem_append_left _ (List.mem_of_getElem? (i := 3) rfl))) (gi_sub (fun w h => (List.mem_cons_of_mem _ (List.mem_append_right _ (List.mem_append_right _ (List.mem_append_left _ h))))) zg_j151_X12_copies)) rfl rfl rfl (by decide +kernel) ⟨Nat.le_of_ble_eq_true rfl, Nat.le_of_ble_eq_true rfl⟩ 0 rfl rfl rfl rfl (Nat.le_of_ble_eq_true rfl) ⟨Nat.le_of_ble_eq_true rfl, Nat.le_of_ble_eq_true rfl⟩ dX12_fired_7 (fun v ty' w' hp hk' => ?_)
    obtain ⟨I37115, A37115, L37115, hI37115, hA37115, hV37115, r37116, r37117, hL37115, hC, rfl, rfl⟩ := hp
    replace hF := FE.bdM hF hC
    have f37118 := IvM_s17_0 hIv
    have f37119 := IvM_s17_164 hIv
    show GW κ 5 0 0 (wM r g I37115 A37115 L37115) 10 [(0, .ref (r 0)), (1, .int z1)] []
    refine g_iconst (v := 0) hk dX12_fired_10 (by decide) ?_
    refine g_istore_n (lv' := [(2, .int 0), (0, .ref (r 0)), (1, .int z1)]) hk dX12_fired_11 (by decide) rfl ?_
    refine g_iconst (v := 0) hk dX12_fired_12 (by decide) ?_
    refine g_istore_n (lv' := [(3, .int 0), (2, .int 0), (0, .ref (r 0)), (1, .int z1)]) hk dX12_fired_13 (by decide) rfl ?_
    have lp37369 : ∀ (n37370 : Nat) (x37120 : Int32) (x37121 : Int32) (I37124 : Nat → Int32) (A37124 : Nat → Nat → Int32) (L37124 : Nat → Nat → Int64), (Md [18, 19, 20] I37115 I37124) → (Md [19, 20, 21] A37115 A37124) → (IvM I37124 A37124) → (L37124 = L37115) → (0 ≤ x37120.toInt) → (x37120.toInt ≤ 5) → (6 - x37120.toInt < (n37370 : Int)) → (0 < n37370) → (FE (fM12_fired I A L z1) (itr_iiIAL dfM (bM12_fired_14 I A z1) n37370 x37120 x37121 I37124 A37124 L37124)) → GW κ 5 0 0 (wM r g I37124 A37124 L37124) 14 [(3, .int x37120), (2, .int x37121), (0, .ref (r 0)), (1, .int z1)] [] := by
      intro n37370
      induction n37370 with
      | zero =>
        intro x37120 x37121 I37124 A37124 L37124 hI37124 hA37124 hV37124 hL37124 h37367 h37368 m37371 m37371z hF
        exact absurd m37371z (Nat.lt_irrefl 0)
      | succ n37370 ih37373 =>
        intro x37120 x37121 I37124 A37124 L37124 hI37124 hA37124 hV37124 hL37124 h37367 h37368 m37371 m37371z hF
        replace hF := FE.itr_iiIAL hF
        refine g_iload_n hk dX12_fired_14 rfl ?_
        refine g_aload_n hk dX12_fired_15 rfl ?_
        refine gM_r0_28 hk hin12 (List.mem_cons_of_mem _ (List.mem_append_left _ (List.mem_of_getElem? (i := 4) rfl))) dX12_fired_16 ?_
        refine g_aload_n hk dX12_fired_19 rfl ?_
        refine gM_i15 (v := (I 15)) hk hin12 (List.mem_cons_of_mem _ (List.mem_append_left _ (List.mem_of_getElem? (i := 5) rfl))) dX12_fired_20 ((hI37124 15 rfl).trans (hI37115 15 rfl)) ?_
        have f37374 := IvM_f15 hIv
        by_cases c37375 : (I 15).toInt = 0
        · have ec37375 : (I 15) = 0 := Int32.toInt_inj.mp c37375
          replace hF := FE.pos hF c37375
          rw [ec37375]
          show GW κ 5 0 0 (wM r g I37124 A37124 L37124) 23 [(3, .int x37120), (2, .int x37121), (0, .ref (r 0)), (1, .int z1)] [.int 0, .ref (r 11), .int x37120]
          refine lM_10 (v := (A 10 0)) hk (vp_in_iff.mpr ⟨by decide, by decide⟩) ((congrFun (hA37124 10 rfl) _).trans (congrFun (hA37115 10 rfl) _)) dX12_fired_23 ?_
          have f37376 := IvM_s10_0 hIv
          refine g_icmp_ge (tgt := 74) (a := x37120.toInt) (b := (A 10 0).toInt) hk dX12_fired_24 (by decide) rfl rfl (fun c37377 => ?_) (fun c37377 => ?_)
          · skip
            replace hF := FE.pos hF c37377
            refine g_iload_n hk dX12_fired_74 rfl ?_
            have b37378l := Int32.le_toInt x37121
            have b37378h := Int32.toInt_lt x37121
            exact g_iret hk hR rfl ⟨I37124, A37124, L37124, (show Md [18, 19, 20] I I37124 from (Md.tr (Md.tr Md.rf hI37115 rfl) hI37124 rfl)), (show Md [18, 19, 20, 21] A A37124 from (Md.tr (Md.tr Md.rf hA37115 rfl) hA37124 rfl)), hV37124, x37121, (show L37124 = L from (hL37124.trans hL37115)), hF, rfl, rfl⟩ dX12_fired_75
          · skip
            replace hF := FE.neg hF c37377
            refine g_aload_n hk dX12_fired_27 rfl ?_
            refine gM_r0_35 hk hin12 (List.mem_cons_of_mem _ (List.mem_append_left _ (List.mem_of_getElem? (i := 6) rfl))) dX12_fired_28 ?_
            refine g_iconst (v := 0) hk dX12_fired_31 (by decide) ?_
            refine lM_17 (v := (A 17 0)) hk (vp_in_iff.mpr ⟨by decide, by decide⟩) ((congrFun (hA37124 17 rfl) _).trans (congrFun (hA37115 17 rfl) _)) dX12_fired_32 ?_
            refine g_aload_n hk dX12_fired_33 rfl ?_
            refine g_iload_n hk dX12_fired_34 rfl ?_
            refine g_callV (n := 1) hk (j148_X12_wideOf l D zt r g I37124 A37124 L37124 x37120 hV37124 (by omega) (by omega)) (SP.same _) (fun _ h => h) (gi_V (List.mem_cons_of_mem _ (List.mem_append_left _ (List.mem_of_getElem? (i := 7) rfl))) (List.mem_cons_of_mem _ (List.mem_append_left _ (List.mem_of_getElem? (i := 8) rfl))) (List.mem_cons_of_mem _ (List.mem_append_left _ (List.mem_of_getElem? (i := 9) rfl))) (List.mem_cons_of_mem _ (List.mem_append_left _ (List.mem_of_getElem? (i := 3) rfl))) (gi_sub (fun w h => (List.mem_cons_of_mem _ (List.mem_append_right _ (List.mem_append_right _ (List.mem_append_right _ (List.mem_append_left _ h)))))) zg_j148_X12_wideOf)) rfl rfl rfl (by decide +kernel) ⟨Nat.le_of_ble_eq_true rfl, Nat.le_of_ble_eq_true rfl⟩ 0 rfl rfl rfl rfl (Nat.le_of_ble_eq_true rfl) ⟨Nat.le_of_ble_eq_true rfl, Nat.le_of_ble_eq_true rfl⟩ dX12_fired_35 (fun v ty' w' hp hk' => ?_)
            obtain ⟨rfl, rfl⟩ := hp
            show GW κ 5 0 0 (wM r g I37124 A37124 L37124) 38 [(3, .int x37120), (2, .int x37121), (0, .ref (r 0)), (1, .int z1)] [.int (A37124 11 (5 * (I37124 15) + x37120).toNatClampNeg), .int (A 17 0)]
            refine g_norm (v := (A 11 (5 * (I 15) + x37120).toNatClampNeg)) (by rw [show I37124 15 = (I 15) from ((hI37124 15 rfl).trans (hI37115 15 rfl))]; exact ((congrFun (hA37124 11 rfl) _).trans (congrFun (hA37115 11 rfl) _))) ?_
            have f37379 : 0 ≤ (A 11 (5 * (I 15) + x37120).toNatClampNeg).toInt ∧ (A 11 (5 * (I 15) + x37120).toNatClampNeg).toInt ≤ 16 := IvM_a11 hIv _
            refine g_isub hk dX12_fired_38 ?_
            refine g_topi (fun y37380 ey37380 => ?_)
            replace hF := FE.lt hF ey37380
            have hy37380 : y37380.toInt = (A 17 0).toInt - (A 11 (5 * (I 15) + x37120).toNatClampNeg).toInt := i32_sub ey37380 rfl rfl (by omega) (by omega)
            refine g_istore (lv' := [(4, .int y37380), (3, .int x37120), (2, .int x37121), (0, .ref (r 0)), (1, .int z1)]) hk dX12_fired_39 (by decide) rfl ?_
            refine g_aload_n hk dX12_fired_41 rfl ?_
            refine g_iload_n hk dX12_fired_42 rfl ?_
            refine g_iload hk dX12_fired_43 rfl ?_
            refine g_callV (n := 2) hk (j168_X12_isOf l D zt r g I37124 A37124 L37124 x37120 y37380 hV37124) (SP.same _) (fun _ h => h) (gi_V (List.mem_cons_of_mem _ (List.mem_append_left _ (List.mem_of_getElem? (i := 10) rfl))) (List.mem_cons_of_mem _ (List.mem_append_left _ (List.mem_of_getElem? (i := 11) rfl))) (List.mem_cons_of_mem _ (List.mem_append_left _ (List.mem_of_getElem? (i := 12) rfl))) (List.mem_cons_of_mem _ (List.mem_append_left _ (List.mem_of_getElem? (i := 3) rfl))) (gi_sub (fun w h => (List.mem_cons_of_mem _ (List.mem_append_right _ (List.mem_append_right _ (List.mem_append_right _ (List.mem_append_right _ (List.mem_append_left _ h))))))) zg_j168_X12_isOf)) rfl rfl rfl (by decide +kernel) ⟨Nat.le_of_ble_eq_true rfl, Nat.le_of_ble_eq_true rfl⟩ 0 rfl rfl rfl rfl (Nat.le_of_ble_eq_true rfl) ⟨Nat.le_of_ble_eq_true rfl, Nat.le_of_ble_eq_true rfl⟩ dX12_fired_45 (fun v ty' w' hp hk' => ?_)
            rcases hp with ⟨hC, rfl, rfl⟩ | ⟨c37382, c37383, c37384, c37385, c37386, c37387, c37388, c37389, c37390, c37391, c37392, c37393, hC, rfl, rfl⟩
            · skip
              replace hF := FE.pos hF hC
              show GW κ 5 0 0 (wM r g I37124 A37124 L37124) 48 [(4, .int y37380), (3, .int x37120), (2, .int x37121), (0, .ref (r 0)), (1, .int z1)] [.int 0]
              refine g_if_eq (tgt := 68) (a := 0) hk dX12_fired_48 (by decide) rfl (fun _ => ?_) (fun z9 => absurd (show (0 : Int) = (0 : Int) from by decide) z9)
              obtain ⟨y37395, ey37395⟩ : ∃ y : Int32, y = x37120 + Int32.ofInt 1 := ⟨_, rfl⟩
              replace hF := FE.lt hF ey37395
              have hy37395 : y37395.toInt = x37120.toInt + 1 := i32_add ey37395 rfl (by decide) (by omega) (by omega)
              refine g_iinc (v := y37395) (lv' := [(3, .int y37395), (4, .int y37380), (2, .int x37121), (0, .ref (r 0)), (1, .int z1)]) hk 1 dX12_fired_68 rfl ey37395.symm (by decide) rfl ?_
              refine g_goto (tgt := 14) hk dX12_fired_71 (by decide) ?_
              have b37396l := Int32.le_toInt x37121
              have b37396h := Int32.toInt_lt x37121
              exact g_lv (List.forall_mem_cons.mpr ⟨List.mem_of_getElem? (i := 0) rfl, (List.forall_mem_cons.mpr ⟨List.mem_of_getElem? (i := 2) rfl, (List.forall_mem_cons.mpr ⟨List.mem_of_getElem? (i := 3) rfl, (List.forall_mem_cons.mpr ⟨List.mem_of_getElem? (i := 4) rfl, (fun _ h => absurd h List.not_mem_nil)⟩)⟩)⟩)⟩) (ih37373 y37395 x37121 I37124 A37124 L37124 (show Md [18, 19, 20] I37115 I37124 from Md.tr hI37124 (show Md [18, 19, 20] I37124 I37124 from Md.rf) rfl) (show Md [19, 20, 21] A37115 A37124 from Md.tr hA37124 (show Md [19, 20, 21] A37124 A37124 from Md.rf) rfl) hV37124 (show L37124 = L37115 from hL37124) (by omega) (by omega) (by omega) (by omega) hF)
            · skip
              replace hF := FE.neg hF (fe_ne hC (by decide))
              rw [show (A37124 11 (5 * (I37124 15) + x37120).toNatClampNeg) = (A 11 (5 * (I 15) + x37120).toNatClampNeg) from (by rw [show I37124 15 = (I 15) from ((hI37124 15 rfl).trans (hI37115 15 rfl))]; exact ((congrFun (hA37124 11 rfl) _).trans (congrFun (hA37115 11 rfl) _)))] at c37392
              rw [show (A37124 11 (5 * (I37124 15) + x37120).toNatClampNeg) = (A 11 (5 * (I 15) + x37120).toNatClampNeg) from (by rw [show I37124 15 = (I 15) from ((hI37124 15 rfl).trans (hI37115 15 rfl))]; exact ((congrFun (hA37124 11 rfl) _).trans (congrFun (hA37115 11 rfl) _)))] at c37393
              show GW κ 5 0 0 (wM r g I37124 A37124 L37124) 48 [(4, .int y37380), (3, .int x37120), (2, .int x37121), (0, .ref (r 0)), (1, .int z1)] [.int 1]
              refine g_if_eq (tgt := 68) (a := 1) hk dX12_fired_48 (by decide) rfl (fun z9 => absurd z9 (show ¬ ((1 : Int) = (0 : Int)) from by decide)) (fun _ => ?_)
              refine g_aload_n hk dX12_fired_51 rfl ?_
              refine g_iload_n hk dX12_fired_52 rfl ?_
              refine g_iload hk dX12_fired_53 rfl ?_
              refine g_callV (n := 2) hk (j169_X12_distanceOf l D zt r g I37124 A37124 L37124 x37120 y37380 hV37124 (by omega) (by omega) (by omega) (by omega) (by first | (rw [show (A37124 11 (5 * (I37124 15) + x37120).toNatClampNeg) = (A 11 (5 * (I 15) + x37120).toNatClampNeg) from (by rw [show I37124 15 = (I 15) from ((hI37124 15 rfl).trans (hI37115 15 rfl))]; exact ((congrFun (hA37124 11 rfl) _).trans (congrFun (hA37115 11 rfl) _)))] <;> omega) | omega) (by first | (rw [show (A37124 11 (5 * (I37124 15) + x37120).toNatClampNeg) = (A 11 (5 * (I 15) + x37120).toNatClampNeg) from (by rw [show I37124 15 = (I 15) from ((hI37124 15 rfl).trans (hI37115 15 rfl))]; exact ((congrFun (hA37124 11 rfl) _).trans (congrFun (hA37115 11 rfl) _)))] <;> omega) | omega)) (SP.same _) (fun _ h => h) (gi_V (List.mem_cons_of_mem _ (List.mem_append_left _ (List.mem_of_getElem? (i := 13) rfl))) (List.mem_cons_of_mem _ (List.mem_append_left _ (List.mem_of_getElem? (i := 14) rfl))) (List.mem_cons_of_mem _ (List.mem_append_left _ (List.mem_of_getElem? (i := 15) rfl))) (List.mem_cons_of_mem _ (List.mem_append_left _ (List.mem_of_getElem? (i := 3) rfl))) (gi_sub (fun w h => (List.mem_cons_of_mem _ (List.mem_append_right _ (List.mem_append_right _ (List.mem_append_right _ (List.mem_append_right _ (List.mem_append_right _ (List.mem_append_left _ h)))))))) zg_j169_X12_distanceOf)) rfl rfl rfl (by decide +kernel) ⟨Nat.le_of_ble_eq_true rfl, Nat.le_of_ble_eq_true rfl⟩ 0 rfl rfl rfl rfl (Nat.le_of_ble_eq_true rfl) ⟨Nat.le_of_ble_eq_true rfl, Nat.le_of_ble_eq_true rfl⟩ dX12_fired_55 (fun v ty' w' hp hk' => ?_)
              obtain ⟨I37398, A37398, L37398, hI37398, hA37398, hV37398, y37397, r37399, hL37398, hC, rfl, rfl⟩ := hp
              replace hF := FE.bdM hF hC
              have f37400 := IvM_f18 hV37398
              show GW κ 5 0 0 (wM r g I37398 A37398 L37398) 58 [(4, .int y37380), (3, .int x37120), (2, .int x37121), (0, .ref (r 0)), (1, .int z1)] [.int y37397]
              refine g_iload_n hk dX12_fired_58 rfl ?_
              have b37401l := Int32.le_toInt y37397
              have b37401h := Int32.toInt_lt y37397
              refine g_icmp_gt (tgt := 68) (a := y37397.toInt) (b := z1.toInt) hk dX12_fired_59 (by decide) rfl rfl (fun c37402 => ?_) (fun c37402 => ?_)
              · skip
                replace hF := FE.pos hF c37402
                obtain ⟨y37403, ey37403⟩ : ∃ y : Int32, y = x37120 + Int32.ofInt 1 := ⟨_, rfl⟩
                replace hF := FE.lt hF ey37403
                have hy37403 : y37403.toInt = x37120.toInt + 1 := i32_add ey37403 rfl (by decide) (by omega) (by omega)
                refine g_iinc (v := y37403) (lv' := [(3, .int y37403), (4, .int y37380), (2, .int x37121), (0, .ref (r 0)), (1, .int z1)]) hk 1 dX12_fired_68 rfl ey37403.symm (by decide) rfl ?_
                refine g_goto (tgt := 14) hk dX12_fired_71 (by decide) ?_
                have b37404l := Int32.le_toInt x37121
                have b37404h := Int32.toInt_lt x37121
                exact g_lv (List.forall_mem_cons.mpr ⟨List.mem_of_getElem? (i := 0) rfl, (List.forall_mem_cons.mpr ⟨List.mem_of_getElem? (i := 2) rfl, (List.forall_mem_cons.mpr ⟨List.mem_of_getElem? (i := 3) rfl, (List.forall_mem_cons.mpr ⟨List.mem_of_getElem? (i := 4) rfl, (fun _ h => absurd h List.not_mem_nil)⟩)⟩)⟩)⟩) (ih37373 y37403 x37121 I37398 A37398 L37398 (show Md [18, 19, 20] I37115 I37398 from Md.tr hI37124 (show Md [18, 19, 20] I37124 I37398 from (Md.tr Md.rf hI37398 rfl)) rfl) (show Md [19, 20, 21] A37115 A37398 from Md.tr hA37124 (show Md [19, 20, 21] A37124 A37398 from (Md.tr Md.rf hA37398 rfl)) rfl) hV37398 (show L37398 = L37115 from (hL37398.trans hL37124)) (by omega) (by omega) (by omega) (by omega) hF)
              · skip
                replace hF := FE.neg hF c37402
                refine g_iload_n hk dX12_fired_62 rfl ?_
                refine g_iconst (v := 1) hk dX12_fired_63 (by decide) ?_
                refine g_iload_n hk dX12_fired_64 rfl ?_
                refine g_ishl hk dX12_fired_65 ?_
                refine g_topi (fun y37405 ey37405 => ?_)
                replace hF := FE.lt hF ey37405
                refine g_ior hk dX12_fired_66 ?_
                refine g_topi (fun y37406 ey37406 => ?_)
                replace hF := FE.lt hF ey37406
                refine g_istore_n (lv' := [(2, .int y37406), (4, .int y37380), (3, .int x37120), (0, .ref (r 0)), (1, .int z1)]) hk dX12_fired_67 (by decide) rfl ?_
                obtain ⟨y37407, ey37407⟩ : ∃ y : Int32, y = x37120 + Int32.ofInt 1 := ⟨_, rfl⟩
                replace hF := FE.lt hF ey37407
                have hy37407 : y37407.toInt = x37120.toInt + 1 := i32_add ey37407 rfl (by decide) (by omega) (by omega)
                refine g_iinc (v := y37407) (lv' := [(3, .int y37407), (2, .int y37406), (4, .int y37380), (0, .ref (r 0)), (1, .int z1)]) hk 2 dX12_fired_68 rfl ey37407.symm (by decide) rfl ?_
                refine g_goto (tgt := 14) hk dX12_fired_71 (by decide) ?_
                have b37408l := Int32.le_toInt y37406
                have b37408h := Int32.toInt_lt y37406
                exact g_lv (List.forall_mem_cons.mpr ⟨List.mem_of_getElem? (i := 0) rfl, (List.forall_mem_cons.mpr ⟨List.mem_of_getElem? (i := 1) rfl, (List.forall_mem_cons.mpr ⟨List.mem_of_getElem? (i := 3) rfl, (List.forall_mem_cons.mpr ⟨List.mem_of_getElem? (i := 4) rfl, (fun _ h => absurd h List.not_mem_nil)⟩)⟩)⟩)⟩) (ih37373 y37407 y37406 I37398 A37398 L37398 (show Md [18, 19, 20] I37115 I37398 from Md.tr hI37124 (show Md [18, 19, 20] I37124 I37398 from (Md.tr Md.rf hI37398 rfl)) rfl) (show Md [19, 20, 21] A37115 A37398 from Md.tr hA37124 (show Md [19, 20, 21] A37124 A37398 from (Md.tr Md.rf hA37398 rfl)) rfl) hV37398 (show L37398 = L37115 from (hL37398.trans hL37124)) (by omega) (by omega) (by omega) (by omega) hF)
        replace hF := FE.neg hF c37375
        by_cases c37409 : (I 15).toInt = 1
        · have ec37409 : (I 15) = 1 := Int32.toInt_inj.mp c37409
          replace hF := FE.pos hF c37409
          rw [ec37409]
          show GW κ 5 0 0 (wM r g I37124 A37124 L37124) 23 [(3, .int x37120), (2, .int x37121), (0, .ref (r 0)), (1, .int z1)] [.int 1, .ref (r 11), .int x37120]
          refine lM_10 (v := (A 10 1)) hk (vp_in_iff.mpr ⟨by decide, by decide⟩) ((congrFun (hA37124 10 rfl) _).trans (congrFun (hA37115 10 rfl) _)) dX12_fired_23 ?_
          have f37410 := IvM_s10_1 hIv
          refine g_icmp_ge (tgt := 74) (a := x37120.toInt) (b := (A 10 1).toInt) hk dX12_fired_24 (by decide) rfl rfl (fun c37411 => ?_) (fun c37411 => ?_)
          · skip
            replace hF := FE.pos hF c37411
            refine g_iload_n hk dX12_fired_74 rfl ?_
            have b37412l := Int32.le_toInt x37121
            have b37412h := Int32.toInt_lt x37121
            exact g_iret hk hR rfl ⟨I37124, A37124, L37124, (show Md [18, 19, 20] I I37124 from (Md.tr (Md.tr Md.rf hI37115 rfl) hI37124 rfl)), (show Md [18, 19, 20, 21] A A37124 from (Md.tr (Md.tr Md.rf hA37115 rfl) hA37124 rfl)), hV37124, x37121, (show L37124 = L from (hL37124.trans hL37115)), hF, rfl, rfl⟩ dX12_fired_75
          · skip
            replace hF := FE.neg hF c37411
            refine g_aload_n hk dX12_fired_27 rfl ?_
            refine gM_r0_35 hk hin12 (List.mem_cons_of_mem _ (List.mem_append_left _ (List.mem_of_getElem? (i := 6) rfl))) dX12_fired_28 ?_
            refine g_iconst (v := 0) hk dX12_fired_31 (by decide) ?_
            refine lM_17 (v := (A 17 0)) hk (vp_in_iff.mpr ⟨by decide, by decide⟩) ((congrFun (hA37124 17 rfl) _).trans (congrFun (hA37115 17 rfl) _)) dX12_fired_32 ?_
            refine g_aload_n hk dX12_fired_33 rfl ?_
            refine g_iload_n hk dX12_fired_34 rfl ?_
            refine g_callV (n := 1) hk (j148_X12_wideOf l D zt r g I37124 A37124 L37124 x37120 hV37124 (by omega) (by omega)) (SP.same _) (fun _ h => h) (gi_V (List.mem_cons_of_mem _ (List.mem_append_left _ (List.mem_of_getElem? (i := 7) rfl))) (List.mem_cons_of_mem _ (List.mem_append_left _ (List.mem_of_getElem? (i := 8) rfl))) (List.mem_cons_of_mem _ (List.mem_append_left _ (List.mem_of_getElem? (i := 9) rfl))) (List.mem_cons_of_mem _ (List.mem_append_left _ (List.mem_of_getElem? (i := 3) rfl))) (gi_sub (fun w h => (List.mem_cons_of_mem _ (List.mem_append_right _ (List.mem_append_right _ (List.mem_append_right _ (List.mem_append_left _ h)))))) zg_j148_X12_wideOf)) rfl rfl rfl (by decide +kernel) ⟨Nat.le_of_ble_eq_true rfl, Nat.le_of_ble_eq_true rfl⟩ 0 rfl rfl rfl rfl (Nat.le_of_ble_eq_true rfl) ⟨Nat.le_of_ble_eq_true rfl, Nat.le_of_ble_eq_true rfl⟩ dX12_fired_35 (fun v ty' w' hp hk' => ?_)
            obtain ⟨rfl, rfl⟩ := hp
            show GW κ 5 0 0 (wM r g I37124 A37124 L37124) 38 [(3, .int x37120), (2, .int x37121), (0, .ref (r 0)), (1, .int z1)] [.int (A37124 11 (5 * (I37124 15) + x37120).toNatClampNeg), .int (A 17 0)]
            refine g_norm (v := (A 11 (5 * (I 15) + x37120).toNatClampNeg)) (by rw [show I37124 15 = (I 15) from ((hI37124 15 rfl).trans (hI37115 15 rfl))]; exact ((congrFun (hA37124 11 rfl) _).trans (congrFun (hA37115 11 rfl) _))) ?_
            have f37413 : 0 ≤ (A 11 (5 * (I 15) + x37120).toNatClampNeg).toInt ∧ (A 11 (5 * (I 15) + x37120).toNatClampNeg).toInt ≤ 16 := IvM_a11 hIv _
            refine g_isub hk dX12_fired_38 ?_
            refine g_topi (fun y37414 ey37414 => ?_)
            replace hF := FE.lt hF ey37414
            have hy37414 : y37414.toInt = (A 17 0).toInt - (A 11 (5 * (I 15) + x37120).toNatClampNeg).toInt := i32_sub ey37414 rfl rfl (by omega) (by omega)
            refine g_istore (lv' := [(4, .int y37414), (3, .int x37120), (2, .int x37121), (0, .ref (r 0)), (1, .int z1)]) hk dX12_fired_39 (by decide) rfl ?_
            refine g_aload_n hk dX12_fired_41 rfl ?_
            refine g_iload_n hk dX12_fired_42 rfl ?_
            refine g_iload hk dX12_fired_43 rfl ?_
            refine g_callV (n := 2) hk (j168_X12_isOf l D zt r g I37124 A37124 L37124 x37120 y37414 hV37124) (SP.same _) (fun _ h => h) (gi_V (List.mem_cons_of_mem _ (List.mem_append_left _ (List.mem_of_getElem? (i := 10) rfl))) (List.mem_cons_of_mem _ (List.mem_append_left _ (List.mem_of_getElem? (i := 11) rfl))) (List.mem_cons_of_mem _ (List.mem_append_left _ (List.mem_of_getElem? (i := 12) rfl))) (List.mem_cons_of_mem _ (List.mem_append_left _ (List.mem_of_getElem? (i := 3) rfl))) (gi_sub (fun w h => (List.mem_cons_of_mem _ (List.mem_append_right _ (List.mem_append_right _ (List.mem_append_right _ (List.mem_append_right _ (List.mem_append_left _ h))))))) zg_j168_X12_isOf)) rfl rfl rfl (by decide +kernel) ⟨Nat.le_of_ble_eq_true rfl, Nat.le_of_ble_eq_true rfl⟩ 0 rfl rfl rfl rfl (Nat.le_of_ble_eq_true rfl) ⟨Nat.le_of_ble_eq_true rfl, Nat.le_of_ble_eq_true rfl⟩ dX12_fired_45 (fun v ty' w' hp hk' => ?_)
            rcases hp with ⟨hC, rfl, rfl⟩ | ⟨c37416, c37417, c37418, c37419, c37420, c37421, c37422, c37423, c37424, c37425, c37426, c37427, hC, rfl, rfl⟩
            · skip
              replace hF := FE.pos hF hC
              show GW κ 5 0 0 (wM r g I37124 A37124 L37124) 48 [(4, .int y37414), (3, .int x37120), (2, .int x37121), (0, .ref (r 0)), (1, .int z1)] [.int 0]
              refine g_if_eq (tgt := 68) (a := 0) hk dX12_fired_48 (by decide) rfl (fun _ => ?_) (fun z9 => absurd (show (0 : Int) = (0 : Int) from by decide) z9)
              obtain ⟨y37429, ey37429⟩ : ∃ y : Int32, y = x37120 + Int32.ofInt 1 := ⟨_, rfl⟩
              replace hF := FE.lt hF ey37429
              have hy37429 : y37429.toInt = x37120.toInt + 1 := i32_add ey37429 rfl (by decide) (by omega) (by omega)
              refine g_iinc (v := y37429) (lv' := [(3, .int y37429), (4, .int y37414), (2, .int x37121), (0, .ref (r 0)), (1, .int z1)]) hk 1 dX12_fired_68 rfl ey37429.symm (by decide) rfl ?_
              refine g_goto (tgt := 14) hk dX12_fired_71 (by decide) ?_
              have b37430l := Int32.le_toInt x37121
              have b37430h := Int32.toInt_lt x37121
              exact g_lv (List.forall_mem_cons.mpr ⟨List.mem_of_getElem? (i := 0) rfl, (List.forall_mem_cons.mpr ⟨List.mem_of_getElem? (i := 2) rfl, (List.forall_mem_cons.mpr ⟨List.mem_of_getElem? (i := 3) rfl, (List.forall_mem_cons.mpr ⟨List.mem_of_getElem? (i := 4) rfl, (fun _ h => absurd h List.not_mem_nil)⟩)⟩)⟩)⟩) (ih37373 y37429 x37121 I37124 A37124 L37124 (show Md [18, 19, 20] I37115 I37124 from Md.tr hI37124 (show Md [18, 19, 20] I37124 I37124 from Md.rf) rfl) (show Md [19, 20, 21] A37115 A37124 from Md.tr hA37124 (show Md [19, 20, 21] A37124 A37124 from Md.rf) rfl) hV37124 (show L37124 = L37115 from hL37124) (by omega) (by omega) (by omega) (by omega) hF)
            · skip
              replace hF := FE.neg hF (fe_ne hC (by decide))
              rw [show (A37124 11 (5 * (I37124 15) + x37120).toNatClampNeg) = (A 11 (5 * (I 15) + x37120).toNatClampNeg) from (by rw [show I37124 15 = (I 15) from ((hI37124 15 rfl).trans (hI37115 15 rfl))]; exact ((congrFun (hA37124 11 rfl) _).trans (congrFun (hA37115 11 rfl) _)))] at c37426
              rw [show (A37124 11 (5 * (I37124 15) + x37120).toNatClampNeg) = (A 11 (5 * (I 15) + x37120).toNatClampNeg) from (by rw [show I37124 15 = (I 15) from ((hI37124 15 rfl).trans (hI37115 15 rfl))]; exact ((congrFun (hA37124 11 rfl) _).trans (congrFun (hA37115 11 rfl) _)))] at c37427
              show GW κ 5 0 0 (wM r g I37124 A37124 L37124) 48 [(4, .int y37414), (3, .int x37120), (2, .int x37121), (0, .ref (r 0)), (1, .int z1)] [.int 1]
              refine g_if_eq (tgt := 68) (a := 1) hk dX12_fired_48 (by decide) rfl (fun z9 => absurd z9 (show ¬ ((1 : Int) = (0 : Int)) from by decide)) (fun _ => ?_)
              refine g_aload_n hk dX12_fired_51 rfl ?_
              refine g_iload_n hk dX12_fired_52 rfl ?_
              refine g_iload hk dX12_fired_53 rfl ?_
              refine g_callV (n := 2) hk (j169_X12_distanceOf l D zt r g I37124 A37124 L37124 x37120 y37414 hV37124 (by omega) (by omega) (by omega) (by omega) (by first | (rw [show (A37124 11 (5 * (I37124 15) + x37120).toNatClampNeg) = (A 11 (5 * (I 15) + x37120).toNatClampNeg) from (by rw [show I37124 15 = (I 15) from ((hI37124 15 rfl).trans (hI37115 15 rfl))]; exact ((congrFun (hA37124 11 rfl) _).trans (congrFun (hA37115 11 rfl) _)))] <;> omega) | omega) (by first | (rw [show (A37124 11 (5 * (I37124 15) + x37120).toNatClampNeg) = (A 11 (5 * (I 15) + x37120).toNatClampNeg) from (by rw [show I37124 15 = (I 15) from ((hI37124 15 rfl).trans (hI37115 15 rfl))]; exact ((congrFun (hA37124 11 rfl) _).trans (congrFun (hA37115 11 rfl) _)))] <;> omega) | omega)) (SP.same _) (fun _ h => h) (gi_V (List.mem_cons_of_mem _ (List.mem_append_left _ (List.mem_of_getElem? (i := 13) rfl))) (List.mem_cons_of_mem _ (List.mem_append_left _ (List.mem_of_getElem? (i := 14) rfl))) (List.mem_cons_of_mem _ (List.mem_append_left _ (List.mem_of_getElem? (i := 15) rfl))) (List.mem_cons_of_mem _ (List.mem_append_left _ (List.mem_of_getElem? (i := 3) rfl))) (gi_sub (fun w h => (List.mem_cons_of_mem _ (List.mem_append_right _ (List.mem_append_right _ (List.mem_append_right _ (List.mem_append_right _ (List.mem_append_right _ (List.mem_append_left _ h)))))))) zg_j169_X12_distanceOf)) rfl rfl rfl (by decide +kernel) ⟨Nat.le_of_ble_eq_true rfl, Nat.le_of_ble_eq_true rfl⟩ 0 rfl rfl rfl rfl (Nat.le_of_ble_eq_true rfl) ⟨Nat.le_of_ble_eq_true rfl, Nat.le_of_ble_eq_true rfl⟩ dX12_fired_55 (fun v ty' w' hp hk' => ?_)
              obtain ⟨I37432, A37432, L37432, hI37432, hA37432, hV37432, y37431, r37433, hL37432, hC, rfl, rfl⟩ := hp
              replace hF := FE.bdM hF hC
              have f37434 := IvM_f18 hV37432
              show GW κ 5 0 0 (wM r g I37432 A37432 L37432) 58 [(4, .int y37414), (3, .int x37120), (2, .int x37121), (0, .ref (r 0)), (1, .int z1)] [.int y37431]
              refine g_iload_n hk dX12_fired_58 rfl ?_
              have b37435l := Int32.le_toInt y37431
              have b37435h := Int32.toInt_lt y37431
              refine g_icmp_gt (tgt := 68) (a := y37431.toInt) (b := z1.toInt) hk dX12_fired_59 (by decide) rfl rfl (fun c37436 => ?_) (fun c37436 => ?_)
              · skip
                replace hF := FE.pos hF c37436
                obtain ⟨y37437, ey37437⟩ : ∃ y : Int32, y = x37120 + Int32.ofInt 1 := ⟨_, rfl⟩
                replace hF := FE.lt hF ey37437
                have hy37437 : y37437.toInt = x37120.toInt + 1 := i32_add ey37437 rfl (by decide) (by omega) (by omega)
                refine g_iinc (v := y37437) (lv' := [(3, .int y37437), (4, .int y37414), (2, .int x37121), (0, .ref (r 0)), (1, .int z1)]) hk 1 dX12_fired_68 rfl ey37437.symm (by decide) rfl ?_
                refine g_goto (tgt := 14) hk dX12_fired_71 (by decide) ?_
                have b37438l := Int32.le_toInt x37121
                have b37438h := Int32.toInt_lt x37121
                exact g_lv (List.forall_mem_cons.mpr ⟨List.mem_of_getElem? (i := 0) rfl, (List.forall_mem_cons.mpr ⟨List.mem_of_getElem? (i := 2) rfl, (List.forall_mem_cons.mpr ⟨List.mem_of_getElem? (i := 3) rfl, (List.forall_mem_cons.mpr ⟨List.mem_of_getElem? (i := 4) rfl, (fun _ h => absurd h List.not_mem_nil)⟩)⟩)⟩)⟩) (ih37373 y37437 x37121 I37432 A37432 L37432 (show Md [18, 19, 20] I37115 I37432 from Md.tr hI37124 (show Md [18, 19, 20] I37124 I37432 from (Md.tr Md.rf hI37432 rfl)) rfl) (show Md [19, 20, 21] A37115 A37432 from Md.tr hA37124 (show Md [19, 20, 21] A37124 A37432 from (Md.tr Md.rf hA37432 rfl)) rfl) hV37432 (show L37432 = L37115 from (hL37432.trans hL37124)) (by omega) (by omega) (by omega) (by omega) hF)
              · skip
                replace hF := FE.neg hF c37436
                refine g_iload_n hk dX12_fired_62 rfl ?_
                refine g_iconst (v := 1) hk dX12_fired_63 (by decide) ?_
                refine g_iload_n hk dX12_fired_64 rfl ?_
                refine g_ishl hk dX12_fired_65 ?_
                refine g_topi (fun y37439 ey37439 => ?_)
                replace hF := FE.lt hF ey37439
                refine g_ior hk dX12_fired_66 ?_
                refine g_topi (fun y37440 ey37440 => ?_)
                replace hF := FE.lt hF ey37440
                refine g_istore_n (lv' := [(2, .int y37440), (4, .int y37414), (3, .int x37120), (0, .ref (r 0)), (1, .int z1)]) hk dX12_fired_67 (by decide) rfl ?_
                obtain ⟨y37441, ey37441⟩ : ∃ y : Int32, y = x37120 + Int32.ofInt 1 := ⟨_, rfl⟩
                replace hF := FE.lt hF ey37441
                have hy37441 : y37441.toInt = x37120.toInt + 1 := i32_add ey37441 rfl (by decide) (by omega) (by omega)
                refine g_iinc (v := y37441) (lv' := [(3, .int y37441), (2, .int y37440), (4, .int y37414), (0, .ref (r 0)), (1, .int z1)]) hk 2 dX12_fired_68 rfl ey37441.symm (by decide) rfl ?_
                refine g_goto (tgt := 14) hk dX12_fired_71 (by decide) ?_
                have b37442l := Int32.le_toInt y37440
                have b37442h := Int32.toInt_lt y37440
                exact g_lv (List.forall_mem_cons.mpr ⟨List.mem_of_getElem? (i := 0) rfl, (List.forall_mem_cons.mpr ⟨List.mem_of_getElem? (i := 1) rfl, (List.forall_mem_cons.mpr ⟨List.mem_of_getElem? (i := 3) rfl, (List.forall_mem_cons.mpr ⟨List.mem_of_getElem? (i := 4) rfl, (fun _ h => absurd h List.not_mem_nil)⟩)⟩)⟩)⟩) (ih37373 y37441 y37440 I37432 A37432 L37432 (show Md [18, 19, 20] I37115 I37432 from Md.tr hI37124 (show Md [18, 19, 20] I37124 I37432 from (Md.tr Md.rf hI37432 rfl)) rfl) (show Md [19, 20, 21] A37115 A37432 from Md.tr hA37124 (show Md [19, 20, 21] A37124 A37432 from (Md.tr Md.rf hA37432 rfl)) rfl) hV37432 (show L37432 = L37115 from (hL37432.trans hL37124)) (by omega) (by omega) (by omega) (by omega) hF)
        replace hF := FE.neg hF c37409
        exfalso; omega
    have k37443 : (0 : Int32).toInt = 0 := rfl
    have b37445 := Int32.le_toInt (0 : Int32)
    have b37446 := Int32.toInt_lt (0 : Int32)
    have n37444a : 6 - (0 : Int32).toInt < (FU : Int) := by have := FU_eq; omega
    have n37444b : 0 < FU := by have := FU_eq; omega
    exact lp37369 FU 0 0 I37115 A37115 L37115 Md.rf Md.rf hV37115 rfl (by omega) (by omega) n37444a n37444b hF
  · skip
    replace hF := FE.neg hF c37113
    refine g_iconst (v := (-1)) hk dX12_fired_4 (by decide) ?_
    exact g_iret hk hR rfl ⟨I, A, L, (show Md [18, 19, 20] I I from Md.rf), (show Md [18, 19, 20, 21] A A from Md.rf), hIv, (-1), (show L = L from rfl), hF, rfl, rfl⟩ dX12_fired_5
noncomputable def fM12_hold (I : Nat → Int32) (A : Nat → Nat → Int32) (L : Nat → Nat → Int64) (z1 : Int32) : Int32 × (Nat → Int32) × (Nat → Nat → Int32) × (Nat → Nat → Int64) := if fM12_in I A L z1 0 2 = 0 then (0, I, A, L) else if z1.toInt = 0 then (1, I, (up2 (up3 A 27 0 (vp_nar .boolean 1)) 28 (cpo (A 17) ((up3 A 27 0 (vp_nar .boolean 1)) 28) (165 * 0) 165)), L) else if z1.toInt = 1 then (1, I, (up2 (up3 A 27 1 (vp_nar .boolean 1)) 28 (cpo (A 17) ((up3 A 27 1 (vp_nar .boolean 1)) 28) (165 * 1) 165)), L) else if z1.toInt = 2 then (1, I, (up2 (up3 A 27 2 (vp_nar .boolean 1)) 28 (cpo (A 17) ((up3 A 27 2 (vp_nar .boolean 1)) 28) (165 * 2) 165)), L) else dfM
def wo_j215_X12_hold : List Cond := [Cond.methodLink RX12 244 yX12_in, Cond.static yX12_in, Cond.initialized RX12, Cond.fieldLink RX12 100 "WarpDeskModel" "isHeld" "[Z", Cond.fieldLink RX12 104 "WarpDeskModel" "heldRows" "[I", Cond.fieldLink RX12 70 "WarpDeskModel" "now" "[I"]
def wz_j215_X12_hold : List Cond := .code yX12_hold cX12_hold 3 (some .boolean) :: (wo_j215_X12_hold ++ (wsX120 ++ (wz_j145_X12_in ++ ([] : List Cond))))
theorem zg_j215_X12_hold : ∀ w ∈ wz_j215_X12_hold, goodWord w = true := zg_cons rfl (zg_app (by decide +kernel) (zg_app zgU_wsX120 (zg_app zg_j145_X12_in zg_nil)))
theorem zi_j215_X12_hold : ∀ w ∈ wz_j215_X12_hold, w ∈ lw_tbl := zi_cons zw_1938 (zi_app (zi_cons zw_1656 (zi_cons zw_1657 (zi_cons zw_115 (zi_cons zw_1431 (zi_cons zw_1432 (zi_cons zw_1413 zi_nil)))))) (zi_app inX12 (zi_app zi_j145_X12_in zi_nil)))
set_option maxHeartbeats 4000000 in
set_option maxRecDepth 100000 in
theorem j215_X12_hold (l : Launch) (D : va_G) (zt : Nat × Nat × Nat × (Nat → Nat) × (Nat → Nat)) (r : Nat → Nat) (g : Nat → ClassId) (I : Nat → Int32) (A : Nat → Nat → Int32) (L : Nat → Nat → Int64) (z1 : Int32) (hIv : IvM I A) : GM l D zt (tyM g) yX12_hold wz_j215_X12_hold ({ frames := 1, cells := 0, slots := 0, locals := 22 } : Room) [.ref (r 0), .int z1] (wM r g I A L) (fun v _ w' => ∃ (I' : Nat → Int32) (A' : Nat → Nat → Int32) (L' : Nat → Nat → Int64), Md [] I I' ∧ Md [27, 28] A A' ∧ IvM I' A' ∧ ∃ y0 : Int32, ((0 ≤ z1.toInt ∧ z1.toInt ≤ 2 ∧ y0.toInt = 1) ∨ ((z1.toInt < 0 ∨ 2 < z1.toInt) ∧ y0.toInt = 0)) ∧ (L' = L) ∧ (0 ≤ y0.toInt) ∧ (y0.toInt ≤ 1) ∧ FE (fM12_hold I A L z1) (y0, I', A', L') ∧ v = some (.int y0) ∧ w' = wM r g I' A' L') 0 0 := by
  refine GM.of (cc := cX12_hold) (maxL := 3) (ret := (some .boolean)) (own := RX12) (lv := [(0, .ref (r 0)), (1, .int z1)]) (by decide) rfl rfl (Nat.le_of_ble_eq_true rfl) rfl (fun κ sz hk hR hN => ?_)
  have hin12 : ∀ w ∈ u_ws RX12 TX12 55, w ∈ wz_j215_X12_hold := fun w h => (List.mem_cons_of_mem _ (List.mem_append_right _ (List.mem_append_left _ h)))
  have hF : FE (fM12_hold I A L z1) (fM12_hold I A L z1) := FE.rf
  refine g_iload_n hk dX12_hold_0 rfl ?_
  refine g_iconst (v := 0) hk dX12_hold_1 (by decide) ?_
  refine g_iconst (v := 2) hk dX12_hold_2 (by decide) ?_
  have k37447 : (0 : Int32).toInt = 0 := rfl
  have k37448 : (2 : Int32).toInt = 2 := rfl
  refine g_callS (n := 3) hk (j145_X12_in l D zt r g I A L z1 0 2 hIv) (SP.same _) (fun _ h => h) (gi_S (List.mem_cons_of_mem _ (List.mem_append_left _ (List.mem_of_getElem? (i := 0) rfl))) (List.mem_cons_of_mem _ (List.mem_append_left _ (List.mem_of_getElem? (i := 1) rfl))) (List.mem_cons_of_mem _ (List.mem_append_left _ (List.mem_of_getElem? (i := 2) rfl))) (gi_sub (fun w h => (List.mem_cons_of_mem _ (List.mem_append_right _ (List.mem_append_right _ (List.mem_append_left _ h))))) zg_j145_X12_in)) rfl rfl rfl (by decide +kernel) ⟨Nat.le_of_ble_eq_true rfl, Nat.le_of_ble_eq_true rfl⟩ rfl rfl (Nat.le_of_ble_eq_true rfl) ⟨Nat.le_of_ble_eq_true rfl, Nat.le_of_ble_eq_true rfl⟩ dX12_hold_3 (fun v ty' w' hp hk' => ?_)
  rcases hp with ⟨c37449, hC, rfl, rfl⟩ | ⟨c37451, c37452, hC, rfl, rfl⟩
  · skip
    replace hF := FE.pos hF hC
    have b37454l := Int32.le_toInt z1
    have b37454h := Int32.toInt_lt z1
    show GW κ 3 0 0 (wM r g I A L) 6 [(0, .ref (r 0)), (1, .int z1)] [.int 0]
    refine g_if_ne (tgt := 11) (a := 0) hk dX12_hold_6 (by decide) rfl (fun z9 => absurd z9 (show ¬ ((0 : Int) ≠ (0 : Int)) from by decide)) (fun _ => ?_)
    refine g_iconst (v := 0) hk dX12_hold_9 (by decide) ?_
    exact g_iret hk hR rfl ⟨I, A, L, (show Md [] I I from Md.rf), (show Md [27, 28] A A from Md.rf), hIv, 0, (show (0 ≤ z1.toInt ∧ z1.toInt ≤ 2 ∧ (0 : Int32).toInt = 1) ∨ ((z1.toInt < 0 ∨ 2 < z1.toInt) ∧ (0 : Int32).toInt = 0) from by omega), (show L = L from rfl), (by decide), (by decide), hF, rfl, rfl⟩ dX12_hold_10
  · skip
    replace hF := FE.neg hF (fe_ne hC (by decide))
    show GW κ 3 0 0 (wM r g I A L) 6 [(0, .ref (r 0)), (1, .int z1)] [.int 1]
    refine g_if_ne (tgt := 11) (a := 1) hk dX12_hold_6 (by decide) rfl (fun _ => ?_) (fun z9 => absurd (show (1 : Int) ≠ (0 : Int) from by decide) z9)
    refine g_aload_n hk dX12_hold_11 rfl ?_
    refine gM_r0_53 hk hin12 (List.mem_cons_of_mem _ (List.mem_append_left _ (List.mem_of_getElem? (i := 3) rfl))) dX12_hold_12 ?_
    refine g_iload_n hk dX12_hold_15 rfl ?_
    refine g_iconst (v := 1) hk dX12_hold_16 (by decide) ?_
    by_cases c37455 : z1.toInt = 0
    · have ec37455 : z1 = 0 := Int32.toInt_inj.mp c37455
      replace hF := FE.pos hF c37455
      rw [ec37455]
      show GW κ 3 0 0 (wM r g I A L) 17 [(0, .ref (r 0)), (1, .int 0)] [.int 1, .int 0, .ref (r 28)]
      have k37456 : (1 : Int32).toInt = 1 := rfl
      refine sM_27 (y := (vp_nar .boolean 1)) (j := 0) hk (vp_in_iff.mpr ⟨by decide, by decide⟩) (by decide) rfl dX12_hold_17 ?_
      refine g_iconst (v := 0) hk dX12_hold_18 (by decide) ?_
      refine g_istore_n (lv' := [(2, .int 0), (0, .ref (r 0)), (1, .int 0)]) hk dX12_hold_19 (by decide) rfl ?_
      have lp37457 : ∀ (n37459 k37458 : Nat), k37458 + n37459 = 165 → GW κ 3 0 0 (wM r g I (up2 (up3 A 27 0 (vp_nar .boolean 1)) 28 (cpo (A 17) ((up3 A 27 0 (vp_nar .boolean 1)) 28) (165 * 0) k37458)) L) 20 [(2, .int (nI k37458)), (0, .ref (r 0)), (1, .int 0)] [] := by
        intro n37459
        induction n37459 with
        | zero =>
          intro k37458 hk37458
          obtain rfl : k37458 = 165 := by omega
          show GW κ 3 0 0 (wM r g I (up2 (up3 A 27 0 (vp_nar .boolean 1)) 28 (cpo (A 17) ((up3 A 27 0 (vp_nar .boolean 1)) 28) (165 * 0) 165)) L) 20 [(2, .int 165), (0, .ref (r 0)), (1, .int 0)] []
          refine g_iload_n hk dX12_hold_20 rfl ?_
          refine g_sipush (v := 165) hk dX12_hold_21 (by decide) ?_
          refine g_icmp_ge (tgt := 51) (a := 165) (b := 165) hk dX12_hold_24 (by decide) rfl rfl (fun _ => ?_) (fun z9 => absurd (show (165 : Int) ≤ (165 : Int) from by decide) z9)
          refine g_iconst (v := 1) hk dX12_hold_51 (by decide) ?_
          exact g_iret hk hR rfl ⟨I, (up2 (up3 A 27 0 (vp_nar .boolean 1)) 28 (cpo (A 17) ((up3 A 27 0 (vp_nar .boolean 1)) 28) (165 * 0) 165)), L, (show Md [] I I from Md.rf), (show Md [27, 28] A (up2 (up3 A 27 0 (vp_nar .boolean 1)) 28 (cpo (A 17) ((up3 A 27 0 (vp_nar .boolean 1)) 28) (165 * 0) 165)) from (Md.up2 (Md.up3 Md.rf rfl) rfl)), ⟨(IvM_f1 (I := I) (A := A) hIv), (IvM_f2 (I := I) (A := A) hIv), (IvM_f3 (I := I) (A := A) hIv), (IvM_f4 (I := I) (A := A) hIv), (IvM_f6 (I := I) (A := A) hIv), (IvM_f8 (I := I) (A := A) hIv), (IvM_f15 (I := I) (A := A) hIv), (IvM_f16 (I := I) (A := A) hIv), (IvM_f17 (I := I) (A := A) hIv), (IvM_f18 (I := I) (A := A) hIv), (IvM_f22 (I := I) (A := A) hIv), (IvM_f23 (I := I) (A := A) hIv), (IvM_f24 (I := I) (A := A) hIv), (IvM_a11 (I := I) (A := A) hIv), (IvM_a26 (I := I) (A := A) hIv), (IvM_s8_0 (I := I) (A := A) hIv), (IvM_s8_1 (I := I) (A := A) hIv), (IvM_s10_0 (I := I) (A := A) hIv), (IvM_s10_1 (I := I) (A := A) hIv), (IvM_s17_0 (I := I) (A := A) hIv), (IvM_s17_164 (I := I) (A := A) hIv), (IvM_lv (I := I) (A := A) hIv), (IvM_sd (I := I) (A := A) hIv), (IvM_nq (I := I) (A := A) hIv), (IvM_hr (I := I) (A := A) hIv), (hh_cpo (IvM_hh (I := I) (A := A) hIv) ⟨(IvM_s17_0 (I := I) (A := A) hIv), (IvM_s17_164 (I := I) (A := A) hIv).1⟩), trivial⟩, 1, (show (0 ≤ z1.toInt ∧ z1.toInt ≤ 2 ∧ (1 : Int32).toInt = 1) ∨ ((z1.toInt < 0 ∨ 2 < z1.toInt) ∧ (1 : Int32).toInt = 0) from by omega), (show L = L from rfl), (by decide), (by decide), hF, rfl, rfl⟩ dX12_hold_52
        | succ n37459 ih37461 =>
          intro k37458 hk37458
          obtain ⟨x37460, ex37460⟩ : ∃ x : Int32, x = nI k37458 := ⟨_, rfl⟩
          have hx37460 : x37460.toInt = (k37458 : Int) := by rw [ex37460]; exact nI_toInt (by omega)
          have cx37460 : x37460.toNatClampNeg = k37458 := cl_nat hx37460
          rw [← ex37460]
          refine g_iload_n hk dX12_hold_20 rfl ?_
          refine g_sipush (v := 165) hk dX12_hold_21 (by decide) ?_
          refine g_icmp_ge (tgt := 51) (a := x37460.toInt) (b := 165) hk dX12_hold_24 (by decide) rfl rfl (fun z9 => absurd z9 (show ¬ (165 ≤ x37460.toInt) from by omega)) (fun _ => ?_)
          refine g_aload_n hk dX12_hold_27 rfl ?_
          refine gM_r0_54 hk hin12 (List.mem_cons_of_mem _ (List.mem_append_left _ (List.mem_of_getElem? (i := 4) rfl))) dX12_hold_28 ?_
          refine g_sipush (v := 165) hk dX12_hold_31 (by decide) ?_
          refine g_iload_n hk dX12_hold_34 rfl ?_
          refine g_imul hk dX12_hold_35 ?_
          refine g_norm (v := 0) (by decide) ?_
          refine g_iload_n hk dX12_hold_36 rfl ?_
          refine g_iadd hk dX12_hold_37 ?_
          refine g_topi (fun y37462 ey37462 => ?_)
          have hy37462 : y37462.toInt = 0 + x37460.toInt := i32_add ey37462 rfl rfl (by omega) (by omega)
          refine g_aload_n hk dX12_hold_38 rfl ?_
          refine gM_r0_35 hk hin12 (List.mem_cons_of_mem _ (List.mem_append_left _ (List.mem_of_getElem? (i := 5) rfl))) dX12_hold_39 ?_
          refine g_iload_n hk dX12_hold_42 rfl ?_
          refine lM_17 (v := (A 17 x37460.toNatClampNeg)) hk (vp_in_iff.mpr ⟨by omega, by omega⟩) rfl dX12_hold_43 ?_
          refine sM_28 (j := y37462.toNatClampNeg) hk (vp_in_iff.mpr ⟨by omega, by omega⟩) rfl dX12_hold_44 ?_
          obtain ⟨y37463, ey37463⟩ : ∃ y : Int32, y = x37460 + Int32.ofInt 1 := ⟨_, rfl⟩
          have hy37463 : y37463.toInt = x37460.toInt + 1 := i32_add ey37463 rfl (by decide) (by omega) (by omega)
          refine g_iinc (v := y37463) (lv' := [(2, .int y37463), (0, .ref (r 0)), (1, .int 0)]) hk 0 dX12_hold_45 rfl ey37463.symm (by decide) rfl ?_
          refine g_goto (tgt := 20) hk dX12_hold_48 (by decide) ?_
          have q37464 := cl_int (y := x37460) (by omega)
          have q37465 := cl_int (y := y37462) (by omega)
          have eW : (up3 (up2 (up3 A 27 0 (vp_nar .boolean 1)) 28 (cpo (A 17) ((up3 A 27 0 (vp_nar .boolean 1)) 28) (165 * 0) k37458)) 28 (y37462.toNatClampNeg) (A 17 x37460.toNatClampNeg)) = (up2 (up3 A 27 0 (vp_nar .boolean 1)) 28 (cpo (A 17) ((up3 A 27 0 (vp_nar .boolean 1)) 28) (165 * 0) (k37458 + 1))) := cpo_st (by omega) (show (A 17 x37460.toNatClampNeg) = (A 17 k37458) from by rw [show x37460.toNatClampNeg = k37458 from by omega])
          have fy : y37463 = nI (k37458 + 1) := nI_of_toInt (by omega) (by omega)
          rw [eW, fy]
          exact g_lv (List.forall_mem_cons.mpr ⟨List.mem_of_getElem? (i := 0) rfl, (List.forall_mem_cons.mpr ⟨List.mem_of_getElem? (i := 1) rfl, (List.forall_mem_cons.mpr ⟨List.mem_of_getElem? (i := 2) rfl, (fun _ h => absurd h List.not_mem_nil)⟩)⟩)⟩) (ih37461 (k37458 + 1) (by omega))
      have lp37457e := lp37457 165 0 (by omega)
      rw [cpo_0] at lp37457e
      exact lp37457e
    replace hF := FE.neg hF c37455
    by_cases c37466 : z1.toInt = 1
    · have ec37466 : z1 = 1 := Int32.toInt_inj.mp c37466
      replace hF := FE.pos hF c37466
      rw [ec37466]
      show GW κ 3 0 0 (wM r g I A L) 17 [(0, .ref (r 0)), (1, .int 1)] [.int 1, .int 1, .ref (r 28)]
      have k37467 : (1 : Int32).toInt = 1 := rfl
      refine sM_27 (y := (vp_nar .boolean 1)) (j := 1) hk (vp_in_iff.mpr ⟨by decide, by decide⟩) (by decide) rfl dX12_hold_17 ?_
      refine g_iconst (v := 0) hk dX12_hold_18 (by decide) ?_
      refine g_istore_n (lv' := [(2, .int 0), (0, .ref (r 0)), (1, .int 1)]) hk dX12_hold_19 (by decide) rfl ?_
      have lp37468 : ∀ (n37470 k37469 : Nat), k37469 + n37470 = 165 → GW κ 3 0 0 (wM r g I (up2 (up3 A 27 1 (vp_nar .boolean 1)) 28 (cpo (A 17) ((up3 A 27 1 (vp_nar .boolean 1)) 28) (165 * 1) k37469)) L) 20 [(2, .int (nI k37469)), (0, .ref (r 0)), (1, .int 1)] [] := by
        intro n37470
        induction n37470 with
        | zero =>
          intro k37469 hk37469
          obtain rfl : k37469 = 165 := by omega
          show GW κ 3 0 0 (wM r g I (up2 (up3 A 27 1 (vp_nar .boolean 1)) 28 (cpo (A 17) ((up3 A 27 1 (vp_nar .boolean 1)) 28) (165 * 1) 165)) L) 20 [(2, .int 165), (0, .ref (r 0)), (1, .int 1)] []
          refine g_iload_n hk dX12_hold_20 rfl ?_
          refine g_sipush (v := 165) hk dX12_hold_21 (by decide) ?_
          refine g_icmp_ge (tgt := 51) (a := 165) (b := 165) hk dX12_hold_24 (by decide) rfl rfl (fun _ => ?_) (fun z9 => absurd (show (165 : Int) ≤ (165 : Int) from by decide) z9)
          refine g_iconst (v := 1) hk dX12_hold_51 (by decide) ?_
          exact g_iret hk hR rfl ⟨I, (up2 (up3 A 27 1 (vp_nar .boolean 1)) 28 (cpo (A 17) ((up3 A 27 1 (vp_nar .boolean 1)) 28) (165 * 1) 165)), L, (show Md [] I I from Md.rf), (show Md [27, 28] A (up2 (up3 A 27 1 (vp_nar .boolean 1)) 28 (cpo (A 17) ((up3 A 27 1 (vp_nar .boolean 1)) 28) (165 * 1) 165)) from (Md.up2 (Md.up3 Md.rf rfl) rfl)), ⟨(IvM_f1 (I := I) (A := A) hIv), (IvM_f2 (I := I) (A := A) hIv), (IvM_f3 (I := I) (A := A) hIv), (IvM_f4 (I := I) (A := A) hIv), (IvM_f6 (I := I) (A := A) hIv), (IvM_f8 (I := I) (A := A) hIv), (IvM_f15 (I := I) (A := A) hIv), (IvM_f16 (I := I) (A := A) hIv), (IvM_f17 (I := I) (A := A) hIv), (IvM_f18 (I := I) (A := A) hIv), (IvM_f22 (I := I) (A := A) hIv), (IvM_f23 (I := I) (A := A) hIv), (IvM_f24 (I := I) (A := A) hIv), (IvM_a11 (I := I) (A := A) hIv), (IvM_a26 (I := I) (A := A) hIv), (IvM_s8_0 (I := I) (A := A) hIv), (IvM_s8_1 (I := I) (A := A) hIv), (IvM_s10_0 (I := I) (A := A) hIv), (IvM_s10_1 (I := I) (A := A) hIv), (IvM_s17_0 (I := I) (A := A) hIv), (IvM_s17_164 (I := I) (A := A) hIv), (IvM_lv (I := I) (A := A) hIv), (IvM_sd (I := I) (A := A) hIv), (IvM_nq (I := I) (A := A) hIv), (IvM_hr (I := I) (A := A) hIv), (hh_cpo (IvM_hh (I := I) (A := A) hIv) ⟨(IvM_s17_0 (I := I) (A := A) hIv), (IvM_s17_164 (I := I) (A := A) hIv).1⟩), trivial⟩, 1, (show (0 ≤ z1.toInt ∧ z1.toInt ≤ 2 ∧ (1 : Int32).toInt = 1) ∨ ((z1.toInt < 0 ∨ 2 < z1.toInt) ∧ (1 : Int32).toInt = 0) from by omega), (show L = L from rfl), (by decide), (by decide), hF, rfl, rfl⟩ dX12_hold_52
        | succ n37470 ih37472 =>
          intro k37469 hk37469
          obtain ⟨x37471, ex37471⟩ : ∃ x : Int32, x = nI k37469 := ⟨_, rfl⟩
          have hx37471 : x37471.toInt = (k37469 : Int) := by rw [ex37471]; exact nI_toInt (by omega)
          have cx37471 : x37471.toNatClampNeg = k37469 := cl_nat hx37471
          rw [← ex37471]
          refine g_iload_n hk dX12_hold_20 rfl ?_
          refine g_sipush (v := 165) hk dX12_hold_21 (by decide) ?_
          refine g_icmp_ge (tgt := 51) (a := x37471.toInt) (b := 165) hk dX12_hold_24 (by decide) rfl rfl (fun z9 => absurd z9 (show ¬ (165 ≤ x37471.toInt) from by omega)) (fun _ => ?_)
          refine g_aload_n hk dX12_hold_27 rfl ?_
          refine gM_r0_54 hk hin12 (List.mem_cons_of_mem _ (List.mem_append_left _ (List.mem_of_getElem? (i := 4) rfl))) dX12_hold_28 ?_
          refine g_sipush (v := 165) hk dX12_hold_31 (by decide) ?_
          refine g_iload_n hk dX12_hold_34 rfl ?_
          refine g_imul hk dX12_hold_35 ?_
          refine g_norm (v := 165) (by decide) ?_
          refine g_iload_n hk dX12_hold_36 rfl ?_
          refine g_iadd hk dX12_hold_37 ?_
          refine g_topi (fun y37473 ey37473 => ?_)
          have hy37473 : y37473.toInt = 165 + x37471.toInt := i32_add ey37473 rfl rfl (by omega) (by omega)
          refine g_aload_n hk dX12_hold_38 rfl ?_
          refine gM_r0_35 hk hin12 (List.mem_cons_of_mem _ (List.mem_append_left _ (List.mem_of_getElem? (i := 5) rfl))) dX12_hold_39 ?_
          refine g_iload_n hk dX12_hold_42 rfl ?_
          refine lM_17 (v := (A 17 x37471.toNatClampNeg)) hk (vp_in_iff.mpr ⟨by omega, by omega⟩) rfl dX12_hold_43 ?_
          refine sM_28 (j := y37473.toNatClampNeg) hk (vp_in_iff.mpr ⟨by omega, by omega⟩) rfl dX12_hold_44 ?_
          obtain ⟨y37474, ey37474⟩ : ∃ y : Int32, y = x37471 + Int32.ofInt 1 := ⟨_, rfl⟩
          have hy37474 : y37474.toInt = x37471.toInt + 1 := i32_add ey37474 rfl (by decide) (by omega) (by omega)
          refine g_iinc (v := y37474) (lv' := [(2, .int y37474), (0, .ref (r 0)), (1, .int 1)]) hk 0 dX12_hold_45 rfl ey37474.symm (by decide) rfl ?_
          refine g_goto (tgt := 20) hk dX12_hold_48 (by decide) ?_
          have q37475 := cl_int (y := x37471) (by omega)
          have q37476 := cl_int (y := y37473) (by omega)
          have eW : (up3 (up2 (up3 A 27 1 (vp_nar .boolean 1)) 28 (cpo (A 17) ((up3 A 27 1 (vp_nar .boolean 1)) 28) (165 * 1) k37469)) 28 (y37473.toNatClampNeg) (A 17 x37471.toNatClampNeg)) = (up2 (up3 A 27 1 (vp_nar .boolean 1)) 28 (cpo (A 17) ((up3 A 27 1 (vp_nar .boolean 1)) 28) (165 * 1) (k37469 + 1))) := cpo_st (by omega) (show (A 17 x37471.toNatClampNeg) = (A 17 k37469) from by rw [show x37471.toNatClampNeg = k37469 from by omega])
          have fy : y37474 = nI (k37469 + 1) := nI_of_toInt (by omega) (by omega)
          rw [eW, fy]
          exact g_lv (List.forall_mem_cons.mpr ⟨List.mem_of_getElem? (i := 0) rfl, (List.forall_mem_cons.mpr ⟨List.mem_of_getElem? (i := 1) rfl, (List.forall_mem_cons.mpr ⟨List.mem_of_getElem? (i := 2) rfl, (fun _ h => absurd h List.not_mem_nil)⟩)⟩)⟩) (ih37472 (k37469 + 1) (by omega))
      have lp37468e := lp37468 165 0 (by omega)
      rw [cpo_0] at lp37468e
      exact lp37468e
    replace hF := FE.neg hF c37466
    by_cases c37477 : z1.toInt = 2
    · have ec37477 : z1 = 2 := Int32.toInt_inj.mp c37477
      replace hF := FE.pos hF c37477
      rw [ec37477]
      show GW κ 3 0 0 (wM r g I A L) 17 [(0, .ref (r 0)), (1, .int 2)] [.int 1, .int 2, .ref (r 28)]
      have k37478 : (1 : Int32).toInt = 1 := rfl
      refine sM_27 (y := (vp_nar .boolean 1)) (j := 2) hk (vp_in_iff.mpr ⟨by decide, by decide⟩) (by decide) rfl dX12_hold_17 ?_
      refine g_iconst (v := 0) hk dX12_hold_18 (by decide) ?_
      refine g_istore_n (lv' := [(2, .int 0), (0, .ref (r 0)), (1, .int 2)]) hk dX12_hold_19 (by decide) rfl ?_
      have lp37479 : ∀ (n37481 k37480 : Nat), k37480 + n37481 = 165 → GW κ 3 0 0 (wM r g I (up2 (up3 A 27 2 (vp_nar .boolean 1)) 28 (cpo (A 17) ((up3 A 27 2 (vp_nar .boolean 1)) 28) (165 * 2) k37480)) L) 20 [(2, .int (nI k37480)), (0, .ref (r 0)), (1, .int 2)] [] := by
        intro n37481
        induction n37481 with
        | zero =>
          intro k37480 hk37480
          obtain rfl : k37480 = 165 := by omega
          show GW κ 3 0 0 (wM r g I (up2 (up3 A 27 2 (vp_nar .boolean 1)) 28 (cpo (A 17) ((up3 A 27 2 (vp_nar .boolean 1)) 28) (165 * 2) 165)) L) 20 [(2, .int 165), (0, .ref (r 0)), (1, .int 2)] []
          refine g_iload_n hk dX12_hold_20 rfl ?_
          refine g_sipush (v := 165) hk dX12_hold_21 (by decide) ?_
          refine g_icmp_ge (tgt := 51) (a := 165) (b := 165) hk dX12_hold_24 (by decide) rfl rfl (fun _ => ?_) (fun z9 => absurd (show (165 : Int) ≤ (165 : Int) from by decide) z9)
          refine g_iconst (v := 1) hk dX12_hold_51 (by decide) ?_
          exact g_iret hk hR rfl ⟨I, (up2 (up3 A 27 2 (vp_nar .boolean 1)) 28 (cpo (A 17) ((up3 A 27 2 (vp_nar .boolean 1)) 28) (165 * 2) 165)), L, (show Md [] I I from Md.rf), (show Md [27, 28] A (up2 (up3 A 27 2 (vp_nar .boolean 1)) 28 (cpo (A 17) ((up3 A 27 2 (vp_nar .boolean 1)) 28) (165 * 2) 165)) from (Md.up2 (Md.up3 Md.rf rfl) rfl)), ⟨(IvM_f1 (I := I) (A := A) hIv), (IvM_f2 (I := I) (A := A) hIv), (IvM_f3 (I := I) (A := A) hIv), (IvM_f4 (I := I) (A := A) hIv), (IvM_f6 (I := I) (A := A) hIv), (IvM_f8 (I := I) (A := A) hIv), (IvM_f15 (I := I) (A := A) hIv), (IvM_f16 (I := I) (A := A) hIv), (IvM_f17 (I := I) (A := A) hIv), (IvM_f18 (I := I) (A := A) hIv), (IvM_f22 (I := I) (A := A) hIv), (IvM_f23 (I := I) (A := A) hIv), (IvM_f24 (I := I) (A := A) hIv), (IvM_a11 (I := I) (A := A) hIv), (IvM_a26 (I := I) (A := A) hIv), (IvM_s8_0 (I := I) (A := A) hIv), (IvM_s8_1 (I := I) (A := A) hIv), (IvM_s10_0 (I := I) (A := A) hIv), (IvM_s10_1 (I := I) (A := A) hIv), (IvM_s17_0 (I := I) (A := A) hIv), (IvM_s17_164 (I := I) (A := A) hIv), (IvM_lv (I := I) (A := A) hIv), (IvM_sd (I := I) (A := A) hIv), (IvM_nq (I := I) (A := A) hIv), (IvM_hr (I := I) (A := A) hIv), (hh_cpo (IvM_hh (I := I) (A := A) hIv) ⟨(IvM_s17_0 (I := I) (A := A) hIv), (IvM_s17_164 (I := I) (A := A) hIv).1⟩), trivial⟩, 1, (show (0 ≤ z1.toInt ∧ z1.toInt ≤ 2 ∧ (1 : Int32).toInt = 1) ∨ ((z1.toInt < 0 ∨ 2 < z1.toInt) ∧ (1 : Int32).toInt = 0) from by omega), (show L = L from rfl), (by decide), (by decide), hF, rfl, rfl⟩ dX12_hold_52
        | succ n37481 ih37483 =>
          intro k37480 hk37480
          obtain ⟨x37482, ex37482⟩ : ∃ x : Int32, x = nI k37480 := ⟨_, rfl⟩
          have hx37482 : x37482.toInt = (k37480 : Int) := by rw [ex37482]; exact nI_toInt (by omega)
          have cx37482 : x37482.toNatClampNeg = k37480 := cl_nat hx37482
          rw [← ex37482]
          refine g_iload_n hk dX12_hold_20 rfl ?_
          refine g_sipush (v := 165) hk dX12_hold_21 (by decide) ?_
          refine g_icmp_ge (tgt := 51) (a := x37482.toInt) (b := 165) hk dX12_hold_24 (by decide) rfl rfl (fun z9 => absurd z9 (show ¬ (165 ≤ x37482.toInt) from by omega)) (fun _ => ?_)
          refine g_aload_n hk dX12_hold_27 rfl ?_
          refine gM_r0_54 hk hin12 (List.mem_cons_of_mem _ (List.mem_append_left _ (List.mem_of_getElem? (i := 4) rfl))) dX12_hold_28 ?_
          refine g_sipush (v := 165) hk dX12_hold_31 (by decide) ?_
          refine g_iload_n hk dX12_hold_34 rfl ?_
          refine g_imul hk dX12_hold_35 ?_
          refine g_norm (v := 330) (by decide) ?_
          refine g_iload_n hk dX12_hold_36 rfl ?_
          refine g_iadd hk dX12_hold_37 ?_
          refine g_topi (fun y37484 ey37484 => ?_)
          have hy37484 : y37484.toInt = 330 + x37482.toInt := i32_add ey37484 rfl rfl (by omega) (by omega)
          refine g_aload_n hk dX12_hold_38 rfl ?_
          refine gM_r0_35 hk hin12 (List.mem_cons_of_mem _ (List.mem_append_left _ (List.mem_of_getElem? (i := 5) rfl))) dX12_hold_39 ?_
          refine g_iload_n hk dX12_hold_42 rfl ?_
          refine lM_17 (v := (A 17 x37482.toNatClampNeg)) hk (vp_in_iff.mpr ⟨by omega, by omega⟩) rfl dX12_hold_43 ?_
          refine sM_28 (j := y37484.toNatClampNeg) hk (vp_in_iff.mpr ⟨by omega, by omega⟩) rfl dX12_hold_44 ?_
          obtain ⟨y37485, ey37485⟩ : ∃ y : Int32, y = x37482 + Int32.ofInt 1 := ⟨_, rfl⟩
          have hy37485 : y37485.toInt = x37482.toInt + 1 := i32_add ey37485 rfl (by decide) (by omega) (by omega)
          refine g_iinc (v := y37485) (lv' := [(2, .int y37485), (0, .ref (r 0)), (1, .int 2)]) hk 0 dX12_hold_45 rfl ey37485.symm (by decide) rfl ?_
          refine g_goto (tgt := 20) hk dX12_hold_48 (by decide) ?_
          have q37486 := cl_int (y := x37482) (by omega)
          have q37487 := cl_int (y := y37484) (by omega)
          have eW : (up3 (up2 (up3 A 27 2 (vp_nar .boolean 1)) 28 (cpo (A 17) ((up3 A 27 2 (vp_nar .boolean 1)) 28) (165 * 2) k37480)) 28 (y37484.toNatClampNeg) (A 17 x37482.toNatClampNeg)) = (up2 (up3 A 27 2 (vp_nar .boolean 1)) 28 (cpo (A 17) ((up3 A 27 2 (vp_nar .boolean 1)) 28) (165 * 2) (k37480 + 1))) := cpo_st (by omega) (show (A 17 x37482.toNatClampNeg) = (A 17 k37480) from by rw [show x37482.toNatClampNeg = k37480 from by omega])
          have fy : y37485 = nI (k37480 + 1) := nI_of_toInt (by omega) (by omega)
          rw [eW, fy]
          exact g_lv (List.forall_mem_cons.mpr ⟨List.mem_of_getElem? (i := 0) rfl, (List.forall_mem_cons.mpr ⟨List.mem_of_getElem? (i := 1) rfl, (List.forall_mem_cons.mpr ⟨List.mem_of_getElem? (i := 2) rfl, (fun _ h => absurd h List.not_mem_nil)⟩)⟩)⟩) (ih37483 (k37480 + 1) (by omega))
      have lp37479e := lp37479 165 0 (by omega)
      rw [cpo_0] at lp37479e
      exact lp37479e
    replace hF := FE.neg hF c37477
    exfalso; omega
noncomputable def fM12_restore (I : Nat → Int32) (A : Nat → Nat → Int32) (L : Nat → Nat → Int64) (z1 : Int32) : Int32 × (Nat → Int32) × (Nat → Nat → Int32) × (Nat → Nat → Int64) := if fM12_in I A L z1 0 2 = 0 then (0, I, A, L) else if z1.toInt = 0 then if (A 27 0).toInt ≠ 0 then (1, (upd I 22 0), (up2 A 17 (cpo (fun k => A 28 (165 * 0 + k)) (A 17) 0 165)), L) else (0, I, A, L) else if z1.toInt = 1 then if (A 27 1).toInt ≠ 0 then (1, (upd I 22 0), (up2 A 17 (cpo (fun k => A 28 (165 * 1 + k)) (A 17) 0 165)), L) else (0, I, A, L) else if z1.toInt = 2 then if (A 27 2).toInt ≠ 0 then (1, (upd I 22 0), (up2 A 17 (cpo (fun k => A 28 (165 * 2 + k)) (A 17) 0 165)), L) else (0, I, A, L) else dfM
def wo_j216_X12_restore : List Cond := [Cond.methodLink RX12 244 yX12_in, Cond.static yX12_in, Cond.initialized RX12, Cond.fieldLink RX12 100 "WarpDeskModel" "isHeld" "[Z", Cond.fieldLink RX12 209 "WarpDeskModel" "undos" "I", Cond.fieldLink RX12 70 "WarpDeskModel" "now" "[I", Cond.fieldLink RX12 104 "WarpDeskModel" "heldRows" "[I"]
def wz_j216_X12_restore : List Cond := .code yX12_restore cX12_restore 3 (some .boolean) :: (wo_j216_X12_restore ++ (wsX120 ++ (wz_j145_X12_in ++ ([] : List Cond))))
theorem zg_j216_X12_restore : ∀ w ∈ wz_j216_X12_restore, goodWord w = true := zg_cons rfl (zg_app (by decide +kernel) (zg_app zgU_wsX120 (zg_app zg_j145_X12_in zg_nil)))
theorem zi_j216_X12_restore : ∀ w ∈ wz_j216_X12_restore, w ∈ lw_tbl := zi_cons zw_1942 (zi_app (zi_cons zw_1656 (zi_cons zw_1657 (zi_cons zw_115 (zi_cons zw_1431 (zi_cons zw_1422 (zi_cons zw_1413 (zi_cons zw_1432 zi_nil))))))) (zi_app inX12 (zi_app zi_j145_X12_in zi_nil)))
set_option maxHeartbeats 4000000 in
set_option maxRecDepth 100000 in
theorem j216_X12_restore (l : Launch) (D : va_G) (zt : Nat × Nat × Nat × (Nat → Nat) × (Nat → Nat)) (r : Nat → Nat) (g : Nat → ClassId) (I : Nat → Int32) (A : Nat → Nat → Int32) (L : Nat → Nat → Int64) (z1 : Int32) (hIv : IvM I A) : GM l D zt (tyM g) yX12_restore wz_j216_X12_restore ({ frames := 1, cells := 0, slots := 0, locals := 22 } : Room) [.ref (r 0), .int z1] (wM r g I A L) (fun v _ w' => ∃ (I' : Nat → Int32) (A' : Nat → Nat → Int32) (L' : Nat → Nat → Int64), Md [22] I I' ∧ Md [17] A A' ∧ IvM I' A' ∧ ∃ y0 : Int32, (L' = L) ∧ (0 ≤ y0.toInt) ∧ (y0.toInt ≤ 1) ∧ FE (fM12_restore I A L z1) (y0, I', A', L') ∧ v = some (.int y0) ∧ w' = wM r g I' A' L') 0 0 := by
  refine GM.of (cc := cX12_restore) (maxL := 3) (ret := (some .boolean)) (own := RX12) (lv := [(0, .ref (r 0)), (1, .int z1)]) (by decide) rfl rfl (Nat.le_of_ble_eq_true rfl) rfl (fun κ sz hk hR hN => ?_)
  have hin12 : ∀ w ∈ u_ws RX12 TX12 55, w ∈ wz_j216_X12_restore := fun w h => (List.mem_cons_of_mem _ (List.mem_append_right _ (List.mem_append_left _ h)))
  have hF : FE (fM12_restore I A L z1) (fM12_restore I A L z1) := FE.rf
  refine g_iload_n hk dX12_restore_0 rfl ?_
  refine g_iconst (v := 0) hk dX12_restore_1 (by decide) ?_
  refine g_iconst (v := 2) hk dX12_restore_2 (by decide) ?_
  have k37488 : (0 : Int32).toInt = 0 := rfl
  have k37489 : (2 : Int32).toInt = 2 := rfl
  refine g_callS (n := 3) hk (j145_X12_in l D zt r g I A L z1 0 2 hIv) (SP.same _) (fun _ h => h) (gi_S (List.mem_cons_of_mem _ (List.mem_append_left _ (List.mem_of_getElem? (i := 0) rfl))) (List.mem_cons_of_mem _ (List.mem_append_left _ (List.mem_of_getElem? (i := 1) rfl))) (List.mem_cons_of_mem _ (List.mem_append_left _ (List.mem_of_getElem? (i := 2) rfl))) (gi_sub (fun w h => (List.mem_cons_of_mem _ (List.mem_append_right _ (List.mem_append_right _ (List.mem_append_left _ h))))) zg_j145_X12_in)) rfl rfl rfl (by decide +kernel) ⟨Nat.le_of_ble_eq_true rfl, Nat.le_of_ble_eq_true rfl⟩ rfl rfl (Nat.le_of_ble_eq_true rfl) ⟨Nat.le_of_ble_eq_true rfl, Nat.le_of_ble_eq_true rfl⟩ dX12_restore_3 (fun v ty' w' hp hk' => ?_)
  rcases hp with ⟨c37490, hC, rfl, rfl⟩ | ⟨c37492, c37493, hC, rfl, rfl⟩
  · skip
    replace hF := FE.pos hF hC
    have b37495l := Int32.le_toInt z1
    have b37495h := Int32.toInt_lt z1
    show GW κ 3 0 0 (wM r g I A L) 6 [(0, .ref (r 0)), (1, .int z1)] [.int 0]
    refine g_if_eq (tgt := 18) (a := 0) hk dX12_restore_6 (by decide) rfl (fun _ => ?_) (fun z9 => absurd (show (0 : Int) = (0 : Int) from by decide) z9)
    refine g_iconst (v := 0) hk dX12_restore_18 (by decide) ?_
    exact g_iret hk hR rfl ⟨I, A, L, (show Md [22] I I from Md.rf), (show Md [17] A A from Md.rf), hIv, 0, (show L = L from rfl), (by decide), (by decide), hF, rfl, rfl⟩ dX12_restore_19
  · skip
    replace hF := FE.neg hF (fe_ne hC (by decide))
    show GW κ 3 0 0 (wM r g I A L) 6 [(0, .ref (r 0)), (1, .int z1)] [.int 1]
    refine g_if_eq (tgt := 18) (a := 1) hk dX12_restore_6 (by decide) rfl (fun z9 => absurd z9 (show ¬ ((1 : Int) = (0 : Int)) from by decide)) (fun _ => ?_)
    refine g_aload_n hk dX12_restore_9 rfl ?_
    refine gM_r0_53 hk hin12 (List.mem_cons_of_mem _ (List.mem_append_left _ (List.mem_of_getElem? (i := 3) rfl))) dX12_restore_10 ?_
    refine g_iload_n hk dX12_restore_13 rfl ?_
    by_cases c37496 : z1.toInt = 0
    · have ec37496 : z1 = 0 := Int32.toInt_inj.mp c37496
      replace hF := FE.pos hF c37496
      rw [ec37496]
      show GW κ 3 0 0 (wM r g I A L) 14 [(0, .ref (r 0)), (1, .int 0)] [.int 0, .ref (r 28)]
      refine lM_27 (v := (A 27 0)) hk (vp_in_iff.mpr ⟨by decide, by decide⟩) rfl dX12_restore_14 ?_
      have b37497l := Int32.le_toInt (A 27 0)
      have b37497h := Int32.toInt_lt (A 27 0)
      refine g_if_ne (tgt := 20) (a := (A 27 0).toInt) hk dX12_restore_15 (by decide) rfl (fun c37498 => ?_) (fun c37498 => ?_)
      · skip
        replace hF := FE.pos hF c37498
        refine g_iconst (v := 0) hk dX12_restore_20 (by decide) ?_
        refine g_istore_n (lv' := [(2, .int 0), (0, .ref (r 0)), (1, .int 0)]) hk dX12_restore_21 (by decide) rfl ?_
        have lp37499 : ∀ (n37501 k37500 : Nat), k37500 + n37501 = 165 → GW κ 3 0 0 (wM r g I (up2 A 17 (cpo (fun k => A 28 (165 * 0 + k)) (A 17) 0 k37500)) L) 22 [(2, .int (nI k37500)), (0, .ref (r 0)), (1, .int 0)] [] := by
          intro n37501
          induction n37501 with
          | zero =>
            intro k37500 hk37500
            obtain rfl : k37500 = 165 := by omega
            show GW κ 3 0 0 (wM r g I (up2 A 17 (cpo (fun k => A 28 (165 * 0 + k)) (A 17) 0 165)) L) 22 [(2, .int 165), (0, .ref (r 0)), (1, .int 0)] []
            refine g_iload_n hk dX12_restore_22 rfl ?_
            refine g_sipush (v := 165) hk dX12_restore_23 (by decide) ?_
            refine g_icmp_ge (tgt := 53) (a := 165) (b := 165) hk dX12_restore_26 (by decide) rfl rfl (fun _ => ?_) (fun z9 => absurd (show (165 : Int) ≤ (165 : Int) from by decide) z9)
            refine g_aload_n hk dX12_restore_53 rfl ?_
            refine g_iconst (v := 0) hk dX12_restore_54 (by decide) ?_
            refine pM_i22 hk hin12 (List.mem_cons_of_mem _ (List.mem_append_left _ (List.mem_of_getElem? (i := 4) rfl))) dX12_restore_55 ?_
            refine g_iconst (v := 1) hk dX12_restore_58 (by decide) ?_
            have hw37504 := (IvM_hh (I := I) (A := A) hIv) 0 (by decide) (by omega)
            have g37505 : 0 ≤ (A 28 (165 * 0 + 0)).toInt ∧ (A 28 (165 * 0 + 0)).toInt ≤ 160 := hw37504.1
            have g37506 : 1 ≤ (A 28 (165 * 0 + 164)).toInt := hw37504.2
            have g37507 := Int32.toInt_lt (A 28 (165 * 0 + 164))
            exact g_iret hk hR rfl ⟨(upd I 22 0), (up2 A 17 (cpo (fun k => A 28 (165 * 0 + k)) (A 17) 0 165)), L, (show Md [22] I (upd I 22 0) from (Md.up Md.rf rfl)), (show Md [17] A (up2 A 17 (cpo (fun k => A 28 (165 * 0 + k)) (A 17) 0 165)) from (Md.up2 Md.rf rfl)), ⟨(IvM_f1 (I := I) (A := A) hIv), (IvM_f2 (I := I) (A := A) hIv), (IvM_f3 (I := I) (A := A) hIv), (IvM_f4 (I := I) (A := A) hIv), (IvM_f6 (I := I) (A := A) hIv), (IvM_f8 (I := I) (A := A) hIv), (IvM_f15 (I := I) (A := A) hIv), (IvM_f16 (I := I) (A := A) hIv), (IvM_f17 (I := I) (A := A) hIv), (IvM_f18 (I := I) (A := A) hIv), (show 0 ≤ (0 : Int32).toInt ∧ (0 : Int32).toInt ≤ 40 from ⟨by decide, by decide⟩), (IvM_f23 (I := I) (A := A) hIv), (IvM_f24 (I := I) (A := A) hIv), (IvM_a11 (I := I) (A := A) hIv), (IvM_a26 (I := I) (A := A) hIv), (IvM_s8_0 (I := I) (A := A) hIv), (IvM_s8_1 (I := I) (A := A) hIv), (IvM_s10_0 (I := I) (A := A) hIv), (IvM_s10_1 (I := I) (A := A) hIv), (show 0 ≤ ((up2 A 17 (cpo (fun k => A 28 (165 * 0 + k)) (A 17) 0 165)) 17 0).toInt ∧ ((up2 A 17 (cpo (fun k => A 28 (165 * 0 + k)) (A 17) 0 165)) 17 0).toInt ≤ 160 from by rw [show (up2 A 17 (cpo (fun k => A 28 (165 * 0 + k)) (A 17) 0 165)) 17 0 = (A 28 (165 * 0 + 0)) from rfl]; exact ⟨by omega, by omega⟩), (show 1 ≤ ((up2 A 17 (cpo (fun k => A 28 (165 * 0 + k)) (A 17) 0 165)) 17 164).toInt ∧ ((up2 A 17 (cpo (fun k => A 28 (165 * 0 + k)) (A 17) 0 165)) 17 164).toInt ≤ 2147483647 from by rw [show (up2 A 17 (cpo (fun k => A 28 (165 * 0 + k)) (A 17) 0 165)) 17 164 = (A 28 (165 * 0 + 164)) from rfl]; exact ⟨by omega, by omega⟩), (IvM_lv (I := I) (A := A) hIv), (IvM_sd (I := I) (A := A) hIv), (IvM_nq (I := I) (A := A) hIv), (fun j hj => absurd (show (j : Int) < (0 : Int32).toInt from hj) (by have : (0 : Int32).toInt = 0 := rfl; omega)), (IvM_hh (I := I) (A := A) hIv), trivial⟩, 1, (show L = L from rfl), (by decide), (by decide), hF, rfl, rfl⟩ dX12_restore_59
          | succ n37501 ih37503 =>
            intro k37500 hk37500
            obtain ⟨x37502, ex37502⟩ : ∃ x : Int32, x = nI k37500 := ⟨_, rfl⟩
            have hx37502 : x37502.toInt = (k37500 : Int) := by rw [ex37502]; exact nI_toInt (by omega)
            have cx37502 : x37502.toNatClampNeg = k37500 := cl_nat hx37502
            rw [← ex37502]
            refine g_iload_n hk dX12_restore_22 rfl ?_
            refine g_sipush (v := 165) hk dX12_restore_23 (by decide) ?_
            refine g_icmp_ge (tgt := 53) (a := x37502.toInt) (b := 165) hk dX12_restore_26 (by decide) rfl rfl (fun z9 => absurd z9 (show ¬ (165 ≤ x37502.toInt) from by omega)) (fun _ => ?_)
            refine g_aload_n hk dX12_restore_29 rfl ?_
            refine gM_r0_35 hk hin12 (List.mem_cons_of_mem _ (List.mem_append_left _ (List.mem_of_getElem? (i := 5) rfl))) dX12_restore_30 ?_
            refine g_iload_n hk dX12_restore_33 rfl ?_
            refine g_aload_n hk dX12_restore_34 rfl ?_
            refine gM_r0_54 hk hin12 (List.mem_cons_of_mem _ (List.mem_append_left _ (List.mem_of_getElem? (i := 6) rfl))) dX12_restore_35 ?_
            refine g_sipush (v := 165) hk dX12_restore_38 (by decide) ?_
            refine g_iload_n hk dX12_restore_41 rfl ?_
            refine g_imul hk dX12_restore_42 ?_
            refine g_norm (v := 0) (by decide) ?_
            refine g_iload_n hk dX12_restore_43 rfl ?_
            refine g_iadd hk dX12_restore_44 ?_
            refine g_topi (fun y37508 ey37508 => ?_)
            have hy37508 : y37508.toInt = 0 + x37502.toInt := i32_add ey37508 rfl rfl (by omega) (by omega)
            refine lM_28 (v := (A 28 y37508.toNatClampNeg)) hk (vp_in_iff.mpr ⟨by omega, by omega⟩) rfl dX12_restore_45 ?_
            refine sM_17 (j := x37502.toNatClampNeg) hk (vp_in_iff.mpr ⟨by omega, by omega⟩) rfl dX12_restore_46 ?_
            obtain ⟨y37509, ey37509⟩ : ∃ y : Int32, y = x37502 + Int32.ofInt 1 := ⟨_, rfl⟩
            have hy37509 : y37509.toInt = x37502.toInt + 1 := i32_add ey37509 rfl (by decide) (by omega) (by omega)
            refine g_iinc (v := y37509) (lv' := [(2, .int y37509), (0, .ref (r 0)), (1, .int 0)]) hk 0 dX12_restore_47 rfl ey37509.symm (by decide) rfl ?_
            refine g_goto (tgt := 22) hk dX12_restore_50 (by decide) ?_
            have q37510 := cl_int (y := y37508) (by omega)
            have q37511 := cl_int (y := x37502) (by omega)
            have eW : (up3 (up2 A 17 (cpo (fun k => A 28 (165 * 0 + k)) (A 17) 0 k37500)) 17 (x37502.toNatClampNeg) (A 28 y37508.toNatClampNeg)) = (up2 A 17 (cpo (fun k => A 28 (165 * 0 + k)) (A 17) 0 (k37500 + 1))) := cpo_st (by omega) (show (A 28 y37508.toNatClampNeg) = (A 28 (165 * 0 + k37500)) from by rw [show y37508.toNatClampNeg = 165 * 0 + k37500 from by omega])
            have fy : y37509 = nI (k37500 + 1) := nI_of_toInt (by omega) (by omega)
            rw [eW, fy]
            exact g_lv (List.forall_mem_cons.mpr ⟨List.mem_of_getElem? (i := 0) rfl, (List.forall_mem_cons.mpr ⟨List.mem_of_getElem? (i := 1) rfl, (List.forall_mem_cons.mpr ⟨List.mem_of_getElem? (i := 2) rfl, (fun _ h => absurd h List.not_mem_nil)⟩)⟩)⟩) (ih37503 (k37500 + 1) (by omega))
        have lp37499e := lp37499 165 0 (by omega)
        rw [cpo_0] at lp37499e
        exact lp37499e
      · skip
        replace hF := FE.neg hF c37498
        refine g_iconst (v := 0) hk dX12_restore_18 (by decide) ?_
        exact g_iret hk hR rfl ⟨I, A, L, (show Md [22] I I from Md.rf), (show Md [17] A A from Md.rf), hIv, 0, (show L = L from rfl), (by decide), (by decide), hF, rfl, rfl⟩ dX12_restore_19
    replace hF := FE.neg hF c37496
    by_cases c37512 : z1.toInt = 1
    · have ec37512 : z1 = 1 := Int32.toInt_inj.mp c37512
      replace hF := FE.pos hF c37512
      rw [ec37512]
      show GW κ 3 0 0 (wM r g I A L) 14 [(0, .ref (r 0)), (1, .int 1)] [.int 1, .ref (r 28)]
      refine lM_27 (v := (A 27 1)) hk (vp_in_iff.mpr ⟨by decide, by decide⟩) rfl dX12_restore_14 ?_
      have b37513l := Int32.le_toInt (A 27 1)
      have b37513h := Int32.toInt_lt (A 27 1)
      refine g_if_ne (tgt := 20) (a := (A 27 1).toInt) hk dX12_restore_15 (by decide) rfl (fun c37514 => ?_) (fun c37514 => ?_)
      · skip
        replace hF := FE.pos hF c37514
        refine g_iconst (v := 0) hk dX12_restore_20 (by decide) ?_
        refine g_istore_n (lv' := [(2, .int 0), (0, .ref (r 0)), (1, .int 1)]) hk dX12_restore_21 (by decide) rfl ?_
        have lp37515 : ∀ (n37517 k37516 : Nat), k37516 + n37517 = 165 → GW κ 3 0 0 (wM r g I (up2 A 17 (cpo (fun k => A 28 (165 * 1 + k)) (A 17) 0 k37516)) L) 22 [(2, .int (nI k37516)), (0, .ref (r 0)), (1, .int 1)] [] := by
          intro n37517
          induction n37517 with
          | zero =>
            intro k37516 hk37516
            obtain rfl : k37516 = 165 := by omega
            show GW κ 3 0 0 (wM r g I (up2 A 17 (cpo (fun k => A 28 (165 * 1 + k)) (A 17) 0 165)) L) 22 [(2, .int 165), (0, .ref (r 0)), (1, .int 1)] []
            refine g_iload_n hk dX12_restore_22 rfl ?_
            refine g_sipush (v := 165) hk dX12_restore_23 (by decide) ?_
            refine g_icmp_ge (tgt := 53) (a := 165) (b := 165) hk dX12_restore_26 (by decide) rfl rfl (fun _ => ?_) (fun z9 => absurd (show (165 : Int) ≤ (165 : Int) from by decide) z9)
            refine g_aload_n hk dX12_restore_53 rfl ?_
            refine g_iconst (v := 0) hk dX12_restore_54 (by decide) ?_
            refine pM_i22 hk hin12 (List.mem_cons_of_mem _ (List.mem_append_left _ (List.mem_of_getElem? (i := 4) rfl))) dX12_restore_55 ?_
            refine g_iconst (v := 1) hk dX12_restore_58 (by decide) ?_
            have hw37520 := (IvM_hh (I := I) (A := A) hIv) 1 (by decide) (by omega)
            have g37521 : 0 ≤ (A 28 (165 * 1 + 0)).toInt ∧ (A 28 (165 * 1 + 0)).toInt ≤ 160 := hw37520.1
            have g37522 : 1 ≤ (A 28 (165 * 1 + 164)).toInt := hw37520.2
            have g37523 := Int32.toInt_lt (A 28 (165 * 1 + 164))
            exact g_iret hk hR rfl ⟨(upd I 22 0), (up2 A 17 (cpo (fun k => A 28 (165 * 1 + k)) (A 17) 0 165)), L, (show Md [22] I (upd I 22 0) from (Md.up Md.rf rfl)), (show Md [17] A (up2 A 17 (cpo (fun k => A 28 (165 * 1 + k)) (A 17) 0 165)) from (Md.up2 Md.rf rfl)), ⟨(IvM_f1 (I := I) (A := A) hIv), (IvM_f2 (I := I) (A := A) hIv), (IvM_f3 (I := I) (A := A) hIv), (IvM_f4 (I := I) (A := A) hIv), (IvM_f6 (I := I) (A := A) hIv), (IvM_f8 (I := I) (A := A) hIv), (IvM_f15 (I := I) (A := A) hIv), (IvM_f16 (I := I) (A := A) hIv), (IvM_f17 (I := I) (A := A) hIv), (IvM_f18 (I := I) (A := A) hIv), (show 0 ≤ (0 : Int32).toInt ∧ (0 : Int32).toInt ≤ 40 from ⟨by decide, by decide⟩), (IvM_f23 (I := I) (A := A) hIv), (IvM_f24 (I := I) (A := A) hIv), (IvM_a11 (I := I) (A := A) hIv), (IvM_a26 (I := I) (A := A) hIv), (IvM_s8_0 (I := I) (A := A) hIv), (IvM_s8_1 (I := I) (A := A) hIv), (IvM_s10_0 (I := I) (A := A) hIv), (IvM_s10_1 (I := I) (A := A) hIv), (show 0 ≤ ((up2 A 17 (cpo (fun k => A 28 (165 * 1 + k)) (A 17) 0 165)) 17 0).toInt ∧ ((up2 A 17 (cpo (fun k => A 28 (165 * 1 + k)) (A 17) 0 165)) 17 0).toInt ≤ 160 from by rw [show (up2 A 17 (cpo (fun k => A 28 (165 * 1 + k)) (A 17) 0 165)) 17 0 = (A 28 (165 * 1 + 0)) from rfl]; exact ⟨by omega, by omega⟩), (show 1 ≤ ((up2 A 17 (cpo (fun k => A 28 (165 * 1 + k)) (A 17) 0 165)) 17 164).toInt ∧ ((up2 A 17 (cpo (fun k => A 28 (165 * 1 + k)) (A 17) 0 165)) 17 164).toInt ≤ 2147483647 from by rw [show (up2 A 17 (cpo (fun k => A 28 (165 * 1 + k)) (A 17) 0 165)) 17 164 = (A 28 (165 * 1 + 164)) from rfl]; exact ⟨by omega, by omega⟩), (IvM_lv (I := I) (A := A) hIv), (IvM_sd (I := I) (A := A) hIv), (IvM_nq (I := I) (A := A) hIv), (fun j hj => absurd (show (j : Int) < (0 : Int32).toInt from hj) (by have : (0 : Int32).toInt = 0 := rfl; omega)), (IvM_hh (I := I) (A := A) hIv), trivial⟩, 1, (show L = L from rfl), (by decide), (by decide), hF, rfl, rfl⟩ dX12_restore_59
          | succ n37517 ih37519 =>
            intro k37516 hk37516
            obtain ⟨x37518, ex37518⟩ : ∃ x : Int32, x = nI k37516 := ⟨_, rfl⟩
            have hx37518 : x37518.toInt = (k37516 : Int) := by rw [ex37518]; exact nI_toInt (by omega)
            have cx37518 : x37518.toNatClampNeg = k37516 := cl_nat hx37518
            rw [← ex37518]
            refine g_iload_n hk dX12_restore_22 rfl ?_
            refine g_sipush (v := 165) hk dX12_restore_23 (by decide) ?_
            refine g_icmp_ge (tgt := 53) (a := x37518.toInt) (b := 165) hk dX12_restore_26 (by decide) rfl rfl (fun z9 => absurd z9 (show ¬ (165 ≤ x37518.toInt) from by omega)) (fun _ => ?_)
            refine g_aload_n hk dX12_restore_29 rfl ?_
            refine gM_r0_35 hk hin12 (List.mem_cons_of_mem _ (List.mem_append_left _ (List.mem_of_getElem? (i := 5) rfl))) dX12_restore_30 ?_
            refine g_iload_n hk dX12_restore_33 rfl ?_
            refine g_aload_n hk dX12_restore_34 rfl ?_
            refine gM_r0_54 hk hin12 (List.mem_cons_of_mem _ (List.mem_append_left _ (List.mem_of_getElem? (i := 6) rfl))) dX12_restore_35 ?_
            refine g_sipush (v := 165) hk dX12_restore_38 (by decide) ?_
            refine g_iload_n hk dX12_restore_41 rfl ?_
            refine g_imul hk dX12_restore_42 ?_
            refine g_norm (v := 165) (by decide) ?_
            refine g_iload_n hk dX12_restore_43 rfl ?_
            refine g_iadd hk dX12_restore_44 ?_
            refine g_topi (fun y37524 ey37524 => ?_)
            have hy37524 : y37524.toInt = 165 + x37518.toInt := i32_add ey37524 rfl rfl (by omega) (by omega)
            refine lM_28 (v := (A 28 y37524.toNatClampNeg)) hk (vp_in_iff.mpr ⟨by omega, by omega⟩) rfl dX12_restore_45 ?_
            refine sM_17 (j := x37518.toNatClampNeg) hk (vp_in_iff.mpr ⟨by omega, by omega⟩) rfl dX12_restore_46 ?_
            obtain ⟨y37525, ey37525⟩ : ∃ y : Int32, y = x37518 + Int32.ofInt 1 := ⟨_, rfl⟩
            have hy37525 : y37525.toInt = x37518.toInt + 1 := i32_add ey37525 rfl (by decide) (by omega) (by omega)
            refine g_iinc (v := y37525) (lv' := [(2, .int y37525), (0, .ref (r 0)), (1, .int 1)]) hk 0 dX12_restore_47 rfl ey37525.symm (by decide) rfl ?_
            refine g_goto (tgt := 22) hk dX12_restore_50 (by decide) ?_
            have q37526 := cl_int (y := y37524) (by omega)
            have q37527 := cl_int (y := x37518) (by omega)
            have eW : (up3 (up2 A 17 (cpo (fun k => A 28 (165 * 1 + k)) (A 17) 0 k37516)) 17 (x37518.toNatClampNeg) (A 28 y37524.toNatClampNeg)) = (up2 A 17 (cpo (fun k => A 28 (165 * 1 + k)) (A 17) 0 (k37516 + 1))) := cpo_st (by omega) (show (A 28 y37524.toNatClampNeg) = (A 28 (165 * 1 + k37516)) from by rw [show y37524.toNatClampNeg = 165 * 1 + k37516 from by omega])
            have fy : y37525 = nI (k37516 + 1) := nI_of_toInt (by omega) (by omega)
            rw [eW, fy]
            exact g_lv (List.forall_mem_cons.mpr ⟨List.mem_of_getElem? (i := 0) rfl, (List.forall_mem_cons.mpr ⟨List.mem_of_getElem? (i := 1) rfl, (List.forall_mem_cons.mpr ⟨List.mem_of_getElem? (i := 2) rfl, (fun _ h => absurd h List.not_mem_nil)⟩)⟩)⟩) (ih37519 (k37516 + 1) (by omega))
        have lp37515e := lp37515 165 0 (by omega)
        rw [cpo_0] at lp37515e
        exact lp37515e
      · skip
        replace hF := FE.neg hF c37514
        refine g_iconst (v := 0) hk dX12_restore_18 (by decide) ?_
        exact g_iret hk hR rfl ⟨I, A, L, (show Md [22] I I from Md.rf), (show Md [17] A A from Md.rf), hIv, 0, (show L = L from rfl), (by decide), (by decide), hF, rfl, rfl⟩ dX12_restore_19
    replace hF := FE.neg hF c37512
    by_cases c37528 : z1.toInt = 2
    · have ec37528 : z1 = 2 := Int32.toInt_inj.mp c37528
      replace hF := FE.pos hF c37528
      rw [ec37528]
      show GW κ 3 0 0 (wM r g I A L) 14 [(0, .ref (r 0)), (1, .int 2)] [.int 2, .ref (r 28)]
      refine lM_27 (v := (A 27 2)) hk (vp_in_iff.mpr ⟨by decide, by decide⟩) rfl dX12_restore_14 ?_
      have b37529l := Int32.le_toInt (A 27 2)
      have b37529h := Int32.toInt_lt (A 27 2)
      refine g_if_ne (tgt := 20) (a := (A 27 2).toInt) hk dX12_restore_15 (by decide) rfl (fun c37530 => ?_) (fun c37530 => ?_)
      · skip
        replace hF := FE.pos hF c37530
        refine g_iconst (v := 0) hk dX12_restore_20 (by decide) ?_
        refine g_istore_n (lv' := [(2, .int 0), (0, .ref (r 0)), (1, .int 2)]) hk dX12_restore_21 (by decide) rfl ?_
        have lp37531 : ∀ (n37533 k37532 : Nat), k37532 + n37533 = 165 → GW κ 3 0 0 (wM r g I (up2 A 17 (cpo (fun k => A 28 (165 * 2 + k)) (A 17) 0 k37532)) L) 22 [(2, .int (nI k37532)), (0, .ref (r 0)), (1, .int 2)] [] := by
          intro n37533
          induction n37533 with
          | zero =>
            intro k37532 hk37532
            obtain rfl : k37532 = 165 := by omega
            show GW κ 3 0 0 (wM r g I (up2 A 17 (cpo (fun k => A 28 (165 * 2 + k)) (A 17) 0 165)) L) 22 [(2, .int 165), (0, .ref (r 0)), (1, .int 2)] []
            refine g_iload_n hk dX12_restore_22 rfl ?_
            refine g_sipush (v := 165) hk dX12_restore_23 (by decide) ?_
            refine g_icmp_ge (tgt := 53) (a := 165) (b := 165) hk dX12_restore_26 (by decide) rfl rfl (fun _ => ?_) (fun z9 => absurd (show (165 : Int) ≤ (165 : Int) from by decide) z9)
            refine g_aload_n hk dX12_restore_53 rfl ?_
            refine g_iconst (v := 0) hk dX12_restore_54 (by decide) ?_
            refine pM_i22 hk hin12 (List.mem_cons_of_mem _ (List.mem_append_left _ (List.mem_of_getElem? (i := 4) rfl))) dX12_restore_55 ?_
            refine g_iconst (v := 1) hk dX12_restore_58 (by decide) ?_
            have hw37536 := (IvM_hh (I := I) (A := A) hIv) 2 (by decide) (by omega)
            have g37537 : 0 ≤ (A 28 (165 * 2 + 0)).toInt ∧ (A 28 (165 * 2 + 0)).toInt ≤ 160 := hw37536.1
            have g37538 : 1 ≤ (A 28 (165 * 2 + 164)).toInt := hw37536.2
            have g37539 := Int32.toInt_lt (A 28 (165 * 2 + 164))
            exact g_iret hk hR rfl ⟨(upd I 22 0), (up2 A 17 (cpo (fun k => A 28 (165 * 2 + k)) (A 17) 0 165)), L, (show Md [22] I (upd I 22 0) from (Md.up Md.rf rfl)), (show Md [17] A (up2 A 17 (cpo (fun k => A 28 (165 * 2 + k)) (A 17) 0 165)) from (Md.up2 Md.rf rfl)), ⟨(IvM_f1 (I := I) (A := A) hIv), (IvM_f2 (I := I) (A := A) hIv), (IvM_f3 (I := I) (A := A) hIv), (IvM_f4 (I := I) (A := A) hIv), (IvM_f6 (I := I) (A := A) hIv), (IvM_f8 (I := I) (A := A) hIv), (IvM_f15 (I := I) (A := A) hIv), (IvM_f16 (I := I) (A := A) hIv), (IvM_f17 (I := I) (A := A) hIv), (IvM_f18 (I := I) (A := A) hIv), (show 0 ≤ (0 : Int32).toInt ∧ (0 : Int32).toInt ≤ 40 from ⟨by decide, by decide⟩), (IvM_f23 (I := I) (A := A) hIv), (IvM_f24 (I := I) (A := A) hIv), (IvM_a11 (I := I) (A := A) hIv), (IvM_a26 (I := I) (A := A) hIv), (IvM_s8_0 (I := I) (A := A) hIv), (IvM_s8_1 (I := I) (A := A) hIv), (IvM_s10_0 (I := I) (A := A) hIv), (IvM_s10_1 (I := I) (A := A) hIv), (show 0 ≤ ((up2 A 17 (cpo (fun k => A 28 (165 * 2 + k)) (A 17) 0 165)) 17 0).toInt ∧ ((up2 A 17 (cpo (fun k => A 28 (165 * 2 + k)) (A 17) 0 165)) 17 0).toInt ≤ 160 from by rw [show (up2 A 17 (cpo (fun k => A 28 (165 * 2 + k)) (A 17) 0 165)) 17 0 = (A 28 (165 * 2 + 0)) from rfl]; exact ⟨by omega, by omega⟩), (show 1 ≤ ((up2 A 17 (cpo (fun k => A 28 (165 * 2 + k)) (A 17) 0 165)) 17 164).toInt ∧ ((up2 A 17 (cpo (fun k => A 28 (165 * 2 + k)) (A 17) 0 165)) 17 164).toInt ≤ 2147483647 from by rw [show (up2 A 17 (cpo (fun k => A 28 (165 * 2 + k)) (A 17) 0 165)) 17 164 = (A 28 (165 * 2 + 164)) from rfl]; exact ⟨by omega, by omega⟩), (IvM_lv (I := I) (A := A) hIv), (IvM_sd (I := I) (A := A) hIv), (IvM_nq (I := I) (A := A) hIv), (fun j hj => absurd (show (j : Int) < (0 : Int32).toInt from hj) (by have : (0 : Int32).toInt = 0 := rfl; omega)), (IvM_hh (I := I) (A := A) hIv), trivial⟩, 1, (show L = L from rfl), (by decide), (by decide), hF, rfl, rfl⟩ dX12_restore_59
          | succ n37533 ih37535 =>
            intro k37532 hk37532
            obtain ⟨x37534, ex37534⟩ : ∃ x : Int32, x = nI k37532 := ⟨_, rfl⟩
            have hx37534 : x37534.toInt = (k37532 : Int) := by rw [ex37534]; exact nI_toInt (by omega)
            have cx37534 : x37534.toNatClampNeg = k37532 := cl_nat hx37534
            rw [← ex37534]
            refine g_iload_n hk dX12_restore_22 rfl ?_
            refine g_sipush (v := 165) hk dX12_restore_23 (by decide) ?_
            refine g_icmp_ge (tgt := 53) (a := x37534.toInt) (b := 165) hk dX12_restore_26 (by decide) rfl rfl (fun z9 => absurd z9 (show ¬ (165 ≤ x37534.toInt) from by omega)) (fun _ => ?_)
            refine g_aload_n hk dX12_restore_29 rfl ?_
            refine gM_r0_35 hk hin12 (List.mem_cons_of_mem _ (List.mem_append_left _ (List.mem_of_getElem? (i := 5) rfl))) dX12_restore_30 ?_
            refine g_iload_n hk dX12_restore_33 rfl ?_
            refine g_aload_n hk dX12_restore_34 rfl ?_
            refine gM_r0_54 hk hin12 (List.mem_cons_of_mem _ (List.mem_append_left _ (List.mem_of_getElem? (i := 6) rfl))) dX12_restore_35 ?_
            refine g_sipush (v := 165) hk dX12_restore_38 (by decide) ?_
            refine g_iload_n hk dX12_restore_41 rfl ?_
            refine g_imul hk dX12_restore_42 ?_
            refine g_norm (v := 330) (by decide) ?_
            refine g_iload_n hk dX12_restore_43 rfl ?_
            refine g_iadd hk dX12_restore_44 ?_
            refine g_topi (fun y37540 ey37540 => ?_)
            have hy37540 : y37540.toInt = 330 + x37534.toInt := i32_add ey37540 rfl rfl (by omega) (by omega)
            refine lM_28 (v := (A 28 y37540.toNatClampNeg)) hk (vp_in_iff.mpr ⟨by omega, by omega⟩) rfl dX12_restore_45 ?_
            refine sM_17 (j := x37534.toNatClampNeg) hk (vp_in_iff.mpr ⟨by omega, by omega⟩) rfl dX12_restore_46 ?_
            obtain ⟨y37541, ey37541⟩ : ∃ y : Int32, y = x37534 + Int32.ofInt 1 := ⟨_, rfl⟩
            have hy37541 : y37541.toInt = x37534.toInt + 1 := i32_add ey37541 rfl (by decide) (by omega) (by omega)
            refine g_iinc (v := y37541) (lv' := [(2, .int y37541), (0, .ref (r 0)), (1, .int 2)]) hk 0 dX12_restore_47 rfl ey37541.symm (by decide) rfl ?_
            refine g_goto (tgt := 22) hk dX12_restore_50 (by decide) ?_
            have q37542 := cl_int (y := y37540) (by omega)
            have q37543 := cl_int (y := x37534) (by omega)
            have eW : (up3 (up2 A 17 (cpo (fun k => A 28 (165 * 2 + k)) (A 17) 0 k37532)) 17 (x37534.toNatClampNeg) (A 28 y37540.toNatClampNeg)) = (up2 A 17 (cpo (fun k => A 28 (165 * 2 + k)) (A 17) 0 (k37532 + 1))) := cpo_st (by omega) (show (A 28 y37540.toNatClampNeg) = (A 28 (165 * 2 + k37532)) from by rw [show y37540.toNatClampNeg = 165 * 2 + k37532 from by omega])
            have fy : y37541 = nI (k37532 + 1) := nI_of_toInt (by omega) (by omega)
            rw [eW, fy]
            exact g_lv (List.forall_mem_cons.mpr ⟨List.mem_of_getElem? (i := 0) rfl, (List.forall_mem_cons.mpr ⟨List.mem_of_getElem? (i := 1) rfl, (List.forall_mem_cons.mpr ⟨List.mem_of_getElem? (i := 2) rfl, (fun _ h => absurd h List.not_mem_nil)⟩)⟩)⟩) (ih37535 (k37532 + 1) (by omega))
        have lp37531e := lp37531 165 0 (by omega)
        rw [cpo_0] at lp37531e
        exact lp37531e
      · skip
        replace hF := FE.neg hF c37530
        refine g_iconst (v := 0) hk dX12_restore_18 (by decide) ?_
        exact g_iret hk hR rfl ⟨I, A, L, (show Md [22] I I from Md.rf), (show Md [17] A A from Md.rf), hIv, 0, (show L = L from rfl), (by decide), (by decide), hF, rfl, rfl⟩ dX12_restore_19
    replace hF := FE.neg hF c37528
    exfalso; omega
noncomputable def bM12_gaps_4 (A : Nat → Nat → Int32) (I : Nat → Int32) (L : Nat → Nat → Int64) : (Int32 → Int32 → (Int32)) → Int32 → Int32 → (Int32) := fun kk37619 x37547 x37548 => if (A 17 0).toInt ≤ x37547.toInt then x37548 else if fM12_isThere I A L x37547 = 0 then f_lt (x37548 + Int32.ofInt 1) fun y37632 => f_lt (x37547 + Int32.ofInt 1) fun y37633 => kk37619 y37633 y37632 else f_lt (x37547 + Int32.ofInt 1) fun y37635 => kk37619 y37635 x37548
noncomputable def fM12_gaps (I : Nat → Int32) (A : Nat → Nat → Int32) (L : Nat → Nat → Int64) : Int32 := itr_ii (0 : Int32) (bM12_gaps_4 A I L) FU 0 0
def wo_j218_X12_gaps : List Cond := [Cond.fieldLink RX12 70 "WarpDeskModel" "now" "[I", Cond.methodLink RX12 320 yX12_isThere, Cond.instanceMethod yX12_isThere, Cond.selects RX12 yX12_isThere yX12_isThere, Cond.initialized RX12]
def wz_j218_X12_gaps : List Cond := .code yX12_gaps cX12_gaps 3 (some .int) :: (wo_j218_X12_gaps ++ (wsX120 ++ (wz_j143_X12_isThere ++ ([] : List Cond))))
theorem zg_j218_X12_gaps : ∀ w ∈ wz_j218_X12_gaps, goodWord w = true := zg_cons rfl (zg_app (by decide +kernel) (zg_app zgU_wsX120 (zg_app zg_j143_X12_isThere zg_nil)))
theorem zi_j218_X12_gaps : ∀ w ∈ wz_j218_X12_gaps, w ∈ lw_tbl := zi_cons zw_1950 (zi_app (zi_cons zw_1413 (zi_cons zw_1648 (zi_cons zw_1650 (zi_cons zw_65 (zi_cons zw_115 zi_nil))))) (zi_app inX12 (zi_app zi_j143_X12_isThere zi_nil)))
set_option maxHeartbeats 4000000 in
set_option maxRecDepth 100000 in
theorem j218_X12_gaps (l : Launch) (D : va_G) (zt : Nat × Nat × Nat × (Nat → Nat) × (Nat → Nat)) (r : Nat → Nat) (g : Nat → ClassId) (I : Nat → Int32) (A : Nat → Nat → Int32) (L : Nat → Nat → Int64) (hIv : IvM I A) : GM l D zt (tyM g) yX12_gaps wz_j218_X12_gaps ({ frames := 3, cells := 0, slots := 0, locals := 64 } : Room) [.ref (r 0)] (wM r g I A L) (fun v _ w' => ∃ y0 : Int32, FE (fM12_gaps I A L) y0 ∧ v = some (.int y0) ∧ w' = wM r g I A L) 0 0 := by
  refine GM.of (cc := cX12_gaps) (maxL := 3) (ret := (some .int)) (own := RX12) (lv := [(0, .ref (r 0))]) (by decide) rfl rfl (Nat.le_of_ble_eq_true rfl) rfl (fun κ sz hk hR hN => ?_)
  have hin12 : ∀ w ∈ u_ws RX12 TX12 55, w ∈ wz_j218_X12_gaps := fun w h => (List.mem_cons_of_mem _ (List.mem_append_right _ (List.mem_append_left _ h)))
  have hF : FE (fM12_gaps I A L) (fM12_gaps I A L) := FE.rf
  refine g_iconst (v := 0) hk dX12_gaps_0 (by decide) ?_
  refine g_istore_n (lv' := [(1, .int 0), (0, .ref (r 0))]) hk dX12_gaps_1 (by decide) rfl ?_
  refine g_iconst (v := 0) hk dX12_gaps_2 (by decide) ?_
  refine g_istore_n (lv' := [(2, .int 0), (1, .int 0), (0, .ref (r 0))]) hk dX12_gaps_3 (by decide) rfl ?_
  have lp37616 : ∀ (n37617 : Nat) (x37547 : Int32) (x37548 : Int32), (0 ≤ x37547.toInt) → (x37547.toInt ≤ 160) → (161 - x37547.toInt < (n37617 : Int)) → (0 < n37617) → (FE (fM12_gaps I A L) (itr_ii (0 : Int32) (bM12_gaps_4 A I L) n37617 x37547 x37548)) → GW κ 3 0 0 (wM r g I A L) 4 [(2, .int x37547), (1, .int x37548), (0, .ref (r 0))] [] := by
    intro n37617
    induction n37617 with
    | zero =>
      intro x37547 x37548 h37614 h37615 m37618 m37618z hF
      exact absurd m37618z (Nat.lt_irrefl 0)
    | succ n37617 ih37620 =>
      intro x37547 x37548 h37614 h37615 m37618 m37618z hF
      replace hF := FE.itr_ii hF
      refine g_iload_n hk dX12_gaps_4 rfl ?_
      refine g_aload_n hk dX12_gaps_5 rfl ?_
      refine gM_r0_35 hk hin12 (List.mem_cons_of_mem _ (List.mem_append_left _ (List.mem_of_getElem? (i := 0) rfl))) dX12_gaps_6 ?_
      refine g_iconst (v := 0) hk dX12_gaps_9 (by decide) ?_
      refine lM_17 (v := (A 17 0)) hk (vp_in_iff.mpr ⟨by decide, by decide⟩) rfl dX12_gaps_10 ?_
      have f37621 := IvM_s17_0 hIv
      refine g_icmp_ge (tgt := 31) (a := x37547.toInt) (b := (A 17 0).toInt) hk dX12_gaps_11 (by decide) rfl rfl (fun c37622 => ?_) (fun c37622 => ?_)
      · skip
        replace hF := FE.pos hF c37622
        refine g_iload_n hk dX12_gaps_31 rfl ?_
        have b37623l := Int32.le_toInt x37548
        have b37623h := Int32.toInt_lt x37548
        exact g_iret hk hR rfl ⟨x37548, hF, rfl, rfl⟩ dX12_gaps_32
      · skip
        replace hF := FE.neg hF c37622
        refine g_aload_n hk dX12_gaps_14 rfl ?_
        refine g_iload_n hk dX12_gaps_15 rfl ?_
        refine g_callV (n := 1) hk (j143_X12_isThere l D zt r g I A L x37547 hIv) (SP.same _) (fun _ h => h) (gi_V (List.mem_cons_of_mem _ (List.mem_append_left _ (List.mem_of_getElem? (i := 1) rfl))) (List.mem_cons_of_mem _ (List.mem_append_left _ (List.mem_of_getElem? (i := 2) rfl))) (List.mem_cons_of_mem _ (List.mem_append_left _ (List.mem_of_getElem? (i := 3) rfl))) (List.mem_cons_of_mem _ (List.mem_append_left _ (List.mem_of_getElem? (i := 4) rfl))) (gi_sub (fun w h => (List.mem_cons_of_mem _ (List.mem_append_right _ (List.mem_append_right _ (List.mem_append_left _ h))))) zg_j143_X12_isThere)) rfl rfl rfl (by decide +kernel) ⟨Nat.le_of_ble_eq_true rfl, Nat.le_of_ble_eq_true rfl⟩ 0 rfl rfl rfl rfl (Nat.le_of_ble_eq_true rfl) ⟨Nat.le_of_ble_eq_true rfl, Nat.le_of_ble_eq_true rfl⟩ dX12_gaps_16 (fun v ty' w' hp hk' => ?_)
        rcases hp with ⟨hC, rfl, rfl⟩ | ⟨c37625, c37626, c37627, c37628, c37629, hC, rfl, rfl⟩
        · skip
          replace hF := FE.pos hF hC
          show GW κ 3 0 0 (wM r g I A L) 19 [(2, .int x37547), (1, .int x37548), (0, .ref (r 0))] [.int 0]
          refine g_if_ne (tgt := 25) (a := 0) hk dX12_gaps_19 (by decide) rfl (fun z9 => absurd z9 (show ¬ ((0 : Int) ≠ (0 : Int)) from by decide)) (fun _ => ?_)
          have b37631l := Int32.le_toInt x37548
          have b37631h := Int32.toInt_lt x37548
          obtain ⟨y37632, ey37632⟩ : ∃ y : Int32, y = x37548 + Int32.ofInt 1 := ⟨_, rfl⟩
          replace hF := FE.lt hF ey37632
          refine g_iinc (v := y37632) (lv' := [(1, .int y37632), (2, .int x37547), (0, .ref (r 0))]) hk 1 dX12_gaps_22 rfl ey37632.symm (by decide) rfl ?_
          obtain ⟨y37633, ey37633⟩ : ∃ y : Int32, y = x37547 + Int32.ofInt 1 := ⟨_, rfl⟩
          replace hF := FE.lt hF ey37633
          have hy37633 : y37633.toInt = x37547.toInt + 1 := i32_add ey37633 rfl (by decide) (by omega) (by omega)
          refine g_iinc (v := y37633) (lv' := [(2, .int y37633), (1, .int y37632), (0, .ref (r 0))]) hk 1 dX12_gaps_25 rfl ey37633.symm (by decide) rfl ?_
          refine g_goto (tgt := 4) hk dX12_gaps_28 (by decide) ?_
          have b37634l := Int32.le_toInt y37632
          have b37634h := Int32.toInt_lt y37632
          exact g_lv (List.forall_mem_cons.mpr ⟨List.mem_of_getElem? (i := 0) rfl, (List.forall_mem_cons.mpr ⟨List.mem_of_getElem? (i := 1) rfl, (List.forall_mem_cons.mpr ⟨List.mem_of_getElem? (i := 2) rfl, (fun _ h => absurd h List.not_mem_nil)⟩)⟩)⟩) (ih37620 y37633 y37632 (by omega) (by omega) (by omega) (by omega) hF)
        · skip
          replace hF := FE.neg hF (fe_ne hC (by decide))
          show GW κ 3 0 0 (wM r g I A L) 19 [(2, .int x37547), (1, .int x37548), (0, .ref (r 0))] [.int 1]
          refine g_if_ne (tgt := 25) (a := 1) hk dX12_gaps_19 (by decide) rfl (fun _ => ?_) (fun z9 => absurd (show (1 : Int) ≠ (0 : Int) from by decide) z9)
          obtain ⟨y37635, ey37635⟩ : ∃ y : Int32, y = x37547 + Int32.ofInt 1 := ⟨_, rfl⟩
          replace hF := FE.lt hF ey37635
          have hy37635 : y37635.toInt = x37547.toInt + 1 := i32_add ey37635 rfl (by decide) (by omega) (by omega)
          refine g_iinc (v := y37635) (lv' := [(2, .int y37635), (1, .int x37548), (0, .ref (r 0))]) hk 0 dX12_gaps_25 rfl ey37635.symm (by decide) rfl ?_
          refine g_goto (tgt := 4) hk dX12_gaps_28 (by decide) ?_
          have b37636l := Int32.le_toInt x37548
          have b37636h := Int32.toInt_lt x37548
          exact g_lv (List.forall_mem_cons.mpr ⟨List.mem_of_getElem? (i := 0) rfl, (List.forall_mem_cons.mpr ⟨List.mem_of_getElem? (i := 1) rfl, (List.forall_mem_cons.mpr ⟨List.mem_of_getElem? (i := 2) rfl, (fun _ h => absurd h List.not_mem_nil)⟩)⟩)⟩) (ih37620 y37635 x37548 (by omega) (by omega) (by omega) (by omega) hF)
  have k37637 : (0 : Int32).toInt = 0 := rfl
  have b37639 := Int32.le_toInt (0 : Int32)
  have b37640 := Int32.toInt_lt (0 : Int32)
  have n37638a : 161 - (0 : Int32).toInt < (FU : Int) := by have := FU_eq; omega
  have n37638b : 0 < FU := by have := FU_eq; omega
  exact lp37616 FU 0 0 (by omega) (by omega) n37638a n37638b hF
noncomputable def bM12_count_134 (A : Nat → Nat → Int32) (I : Nat → Int32) (L : Nat → Nat → Int64) : (Int32 → (Int32)) → Int32 → (Int32) := fun kk37679 x37659 => f_lt ((A 17 0) - (1 : Int32)) fun y37682 => f_lt (y37682 - x37659) fun y37683 => if fM12_isThere I A L y37683 = 0 then x37659 else f_lt (x37659 + Int32.ofInt 1) fun y37691 => kk37679 y37691
noncomputable def bM12_count_171 (A : Nat → Nat → Int32) (I : Nat → Int32) (L : Nat → Nat → Int64) : (Int32 → Int32 → (Int32)) → Int32 → Int32 → (Int32) := fun kk37769 x37701 x37702 => if (A 17 0).toInt ≤ x37701.toInt then x37702 else if fM12_isThere I A L x37701 = 0 then f_lt (x37701 + Int32.ofInt 1) fun y37781 => kk37769 y37781 x37702 else f_lt ((1 : Int32) + x37701) fun y37783 => f_lt (x37702 + (A 17 y37783.toNatClampNeg)) fun y37786 => f_lt (x37701 + Int32.ofInt 1) fun y37787 => kk37769 y37787 y37786
noncomputable def bM12_count_259 (A : Nat → Nat → Int32) (I : Nat → Int32) (L : Nat → Nat → Int64) : (Int32 → Int32 → (Int32)) → Int32 → Int32 → (Int32) := fun kk37883 x37809 x37810 => if (A 17 0).toInt ≤ x37809.toInt then x37810 else if fM12_isThere I A L x37809 = 0 then f_lt (x37809 + Int32.ofInt 1) fun y37895 => kk37883 y37895 x37810 else f_lt ((1 : Int32) + x37809) fun y37897 => if (A 17 y37897.toNatClampNeg).toInt ≤ x37810.toInt then f_lt (x37809 + Int32.ofInt 1) fun y37901 => kk37883 y37901 x37810 else f_lt ((1 : Int32) + x37809) fun y37902 => f_lt (x37809 + Int32.ofInt 1) fun y37903 => kk37883 y37903 (A 17 y37902.toNatClampNeg)
noncomputable def bM12_count_311 (A : Nat → Nat → Int32) (I : Nat → Int32) (L : Nat → Nat → Int64) : (Int32 → Int32 → (Int32)) → Int32 → Int32 → (Int32) := fun kk37959 x37911 x37912 => if (A 17 0).toInt ≤ x37911.toInt then if x37912.toInt ≠ 100000 then x37912 else (-1000) else f_lt ((1 : Int32) + x37911) fun y37965 => if x37912.toInt ≤ (A 17 y37965.toNatClampNeg).toInt then f_lt (x37911 + Int32.ofInt 1) fun y37969 => kk37959 y37969 x37912 else f_lt ((1 : Int32) + x37911) fun y37970 => f_lt (x37911 + Int32.ofInt 1) fun y37971 => kk37959 y37971 (A 17 y37970.toNatClampNeg)
noncomputable def bM12_count_362 (I : Nat → Int32) (A : Nat → Nat → Int32) (L : Nat → Nat → Int64) : (Int32 → (Int32)) → Int32 → (Int32) := fun kk37996 x37979 => if fM12_isThere I A L x37979 = 0 then x37979 else f_lt (x37979 + Int32.ofInt 1) fun y38005 => kk37996 y38005
noncomputable def fM12_count (I : Nat → Int32) (A : Nat → Nat → Int32) (L : Nat → Nat → Int64) (z1 : Int32) : Int32 := if z1.toInt = 0 then (A 17 0) else if z1.toInt = 1 then f_lt (fM12_gaps I A L) fun y37641 => y37641 else if z1.toInt = 2 then if (I 15).toInt = 0 then (A 10 0) else if (I 15).toInt = 1 then (A 10 1) else (0 : Int32) else if z1.toInt = 3 then (A 17 161) else if z1.toInt = 4 then (A 17 162) else if z1.toInt = 5 then (A 17 163) else if z1.toInt = 6 then (A 17 164) else if z1.toInt = 7 then itr_i (0 : Int32) (bM12_count_134 A I L) FU 0 else if z1.toInt = 8 then (I 1) else if z1.toInt = 9 then (I 22) else if z1.toInt = 10 then itr_ii (0 : Int32) (bM12_count_171 A I L) FU 0 0 else if z1.toInt = 11 then if (A 27 0).toInt = 0 then if (A 27 1).toInt = 0 then if (A 27 2).toInt = 0 then 0 else 1 else if (A 27 2).toInt = 0 then 1 else 2 else if (A 27 1).toInt = 0 then if (A 27 2).toInt = 0 then 1 else 2 else if (A 27 2).toInt = 0 then 2 else 3 else if z1.toInt = 12 then itr_ii (0 : Int32) (bM12_count_259 A I L) FU 0 (-1000) else if z1.toInt = 13 then itr_ii (0 : Int32) (bM12_count_311 A I L) FU 0 100000 else if z1.toInt = 14 then itr_i (0 : Int32) (bM12_count_362 I A L) FU 0 else (-1)
def wo_j217_X12_count : List Cond := [Cond.fieldLink RX12 70 "WarpDeskModel" "now" "[I", Cond.methodLink RX12 391 yX12_gaps, Cond.instanceMethod yX12_gaps, Cond.selects RX12 yX12_gaps yX12_gaps, Cond.initialized RX12, Cond.fieldLink RX12 49 "WarpDeskModel" "queries" "[I", Cond.fieldLink RX12 197 "WarpDeskModel" "live" "I", Cond.methodLink RX12 320 yX12_isThere, Cond.instanceMethod yX12_isThere, Cond.selects RX12 yX12_isThere yX12_isThere, Cond.fieldLink RX12 124 "WarpDeskModel" "taped" "I", Cond.fieldLink RX12 209 "WarpDeskModel" "undos" "I", Cond.fieldLink RX12 100 "WarpDeskModel" "isHeld" "[Z", Cond.constant RX12 239 (100000)]
def wz_j217_X12_count : List Cond := .code yX12_count cX12_count 4 (some .int) :: (wo_j217_X12_count ++ (wsX120 ++ (wz_j218_X12_gaps ++ (wz_j143_X12_isThere ++ ([] : List Cond)))))
theorem zg_j217_X12_count : ∀ w ∈ wz_j217_X12_count, goodWord w = true := zg_cons rfl (zg_app (by decide +kernel) (zg_app zgU_wsX120 (zg_app zg_j218_X12_gaps (zg_app zg_j143_X12_isThere zg_nil))))
theorem zi_j217_X12_count : ∀ w ∈ wz_j217_X12_count, w ∈ lw_tbl := zi_cons zw_1946 (zi_app (zi_cons zw_1413 (zi_cons zw_1947 (zi_cons zw_1949 (zi_cons zw_101 (zi_cons zw_115 (zi_cons zw_1406 (zi_cons zw_1400 (zi_cons zw_1648 (zi_cons zw_1650 (zi_cons zw_65 (zi_cons zw_1381 (zi_cons zw_1422 (zi_cons zw_1431 (zi_cons zw_1607 zi_nil)))))))))))))) (zi_app inX12 (zi_app zi_j218_X12_gaps (zi_app zi_j143_X12_isThere zi_nil))))
set_option maxHeartbeats 4000000 in
set_option maxRecDepth 100000 in
theorem j217_X12_count (l : Launch) (D : va_G) (zt : Nat × Nat × Nat × (Nat → Nat) × (Nat → Nat)) (r : Nat → Nat) (g : Nat → ClassId) (I : Nat → Int32) (A : Nat → Nat → Int32) (L : Nat → Nat → Int64) (z1 : Int32) (hIv : IvM I A) : GM l D zt (tyM g) yX12_count wz_j217_X12_count ({ frames := 4, cells := 0, slots := 0, locals := 86 } : Room) [.ref (r 0), .int z1] (wM r g I A L) (fun v _ w' => ∃ y0 : Int32, FE (fM12_count I A L z1) y0 ∧ v = some (.int y0) ∧ w' = wM r g I A L) 0 0 := by
  refine GM.of (cc := cX12_count) (maxL := 4) (ret := (some .int)) (own := RX12) (lv := [(0, .ref (r 0)), (1, .int z1)]) (by decide) rfl rfl (Nat.le_of_ble_eq_true rfl) rfl (fun κ sz hk hR hN => ?_)
  have hin12 : ∀ w ∈ u_ws RX12 TX12 55, w ∈ wz_j217_X12_count := fun w h => (List.mem_cons_of_mem _ (List.mem_append_right _ (List.mem_append_left _ h)))
  have hF : FE (fM12_count I A L z1) (fM12_count I A L z1) := FE.rf
  refine g_iconst (v := 0) hk dX12_count_0 (by decide) ?_
  refine g_istore_n (lv' := [(2, .int 0), (0, .ref (r 0)), (1, .int z1)]) hk dX12_count_1 (by decide) rfl ?_
  refine g_iload_n hk dX12_count_2 rfl ?_
  by_cases c37544 : z1.toInt = 0
  · refine g_tabIn (tgt := 76) (a := 0) hk dX12_count_3 c37544 (by decide) (by decide) rfl (by decide) ?_
    replace hF := FE.pos hF c37544
    refine g_aload_n hk dX12_count_76 rfl ?_
    refine gM_r0_35 hk hin12 (List.mem_cons_of_mem _ (List.mem_append_left _ (List.mem_of_getElem? (i := 0) rfl))) dX12_count_77 ?_
    refine g_iconst (v := 0) hk dX12_count_80 (by decide) ?_
    refine lM_17 (v := (A 17 0)) hk (vp_in_iff.mpr ⟨by decide, by decide⟩) rfl dX12_count_81 ?_
    have f37545 := IvM_s17_0 hIv
    exact g_iret hk hR rfl ⟨(A 17 0), hF, rfl, rfl⟩ dX12_count_82
  replace hF := FE.neg hF c37544
  by_cases c37546 : z1.toInt = 1
  · refine g_tabIn (tgt := 83) (a := 1) hk dX12_count_3 c37546 (by decide) (by decide) rfl (by decide) ?_
    replace hF := FE.pos hF c37546
    refine g_aload_n hk dX12_count_83 rfl ?_
    refine g_callV (n := 0) hk (j218_X12_gaps l D zt r g I A L  hIv) (SP.same _) (fun _ h => h) (gi_V (List.mem_cons_of_mem _ (List.mem_append_left _ (List.mem_of_getElem? (i := 1) rfl))) (List.mem_cons_of_mem _ (List.mem_append_left _ (List.mem_of_getElem? (i := 2) rfl))) (List.mem_cons_of_mem _ (List.mem_append_left _ (List.mem_of_getElem? (i := 3) rfl))) (List.mem_cons_of_mem _ (List.mem_append_left _ (List.mem_of_getElem? (i := 4) rfl))) (gi_sub (fun w h => (List.mem_cons_of_mem _ (List.mem_append_right _ (List.mem_append_right _ (List.mem_append_left _ h))))) zg_j218_X12_gaps)) rfl rfl rfl (by decide +kernel) ⟨Nat.le_of_ble_eq_true rfl, Nat.le_of_ble_eq_true rfl⟩ 0 rfl rfl rfl rfl (Nat.le_of_ble_eq_true rfl) ⟨Nat.le_of_ble_eq_true rfl, Nat.le_of_ble_eq_true rfl⟩ dX12_count_84 (fun v ty' w' hp hk' => ?_)
    obtain ⟨y37641, hC, rfl, rfl⟩ := hp
    replace hF := FE.lt hF (fe_s hC)
    show GW κ 4 0 0 (wM r g I A L) 87 [(2, .int 0), (0, .ref (r 0)), (1, .int z1)] [.int y37641]
    have b37642l := Int32.le_toInt y37641
    have b37642h := Int32.toInt_lt y37641
    exact g_iret hk hR rfl ⟨y37641, hF, rfl, rfl⟩ dX12_count_87
  replace hF := FE.neg hF c37546
  by_cases c37643 : z1.toInt = 2
  · refine g_tabIn (tgt := 88) (a := 2) hk dX12_count_3 c37643 (by decide) (by decide) rfl (by decide) ?_
    replace hF := FE.pos hF c37643
    refine g_aload_n hk dX12_count_88 rfl ?_
    refine gM_r0_28 hk hin12 (List.mem_cons_of_mem _ (List.mem_append_left _ (List.mem_of_getElem? (i := 5) rfl))) dX12_count_89 ?_
    refine g_aload_n hk dX12_count_92 rfl ?_
    refine gM_i15 (v := (I 15)) hk hin12 (List.mem_cons_of_mem _ (List.mem_append_left _ (List.mem_of_getElem? (i := 6) rfl))) dX12_count_93 rfl ?_
    have f37644 := IvM_f15 hIv
    by_cases c37645 : (I 15).toInt = 0
    · have ec37645 : (I 15) = 0 := Int32.toInt_inj.mp c37645
      replace hF := FE.pos hF c37645
      rw [ec37645]
      show GW κ 4 0 0 (wM r g I A L) 96 [(2, .int 0), (0, .ref (r 0)), (1, .int z1)] [.int 0, .ref (r 11)]
      refine lM_10 (v := (A 10 0)) hk (vp_in_iff.mpr ⟨by decide, by decide⟩) rfl dX12_count_96 ?_
      have f37646 := IvM_s10_0 hIv
      exact g_iret hk hR rfl ⟨(A 10 0), hF, rfl, rfl⟩ dX12_count_97
    replace hF := FE.neg hF c37645
    by_cases c37647 : (I 15).toInt = 1
    · have ec37647 : (I 15) = 1 := Int32.toInt_inj.mp c37647
      replace hF := FE.pos hF c37647
      rw [ec37647]
      show GW κ 4 0 0 (wM r g I A L) 96 [(2, .int 0), (0, .ref (r 0)), (1, .int z1)] [.int 1, .ref (r 11)]
      refine lM_10 (v := (A 10 1)) hk (vp_in_iff.mpr ⟨by decide, by decide⟩) rfl dX12_count_96 ?_
      have f37648 := IvM_s10_1 hIv
      exact g_iret hk hR rfl ⟨(A 10 1), hF, rfl, rfl⟩ dX12_count_97
    replace hF := FE.neg hF c37647
    exfalso; omega
  replace hF := FE.neg hF c37643
  by_cases c37649 : z1.toInt = 3
  · refine g_tabIn (tgt := 98) (a := 3) hk dX12_count_3 c37649 (by decide) (by decide) rfl (by decide) ?_
    replace hF := FE.pos hF c37649
    refine g_aload_n hk dX12_count_98 rfl ?_
    refine gM_r0_35 hk hin12 (List.mem_cons_of_mem _ (List.mem_append_left _ (List.mem_of_getElem? (i := 0) rfl))) dX12_count_99 ?_
    refine g_sipush (v := 161) hk dX12_count_102 (by decide) ?_
    refine lM_17 (v := (A 17 161)) hk (vp_in_iff.mpr ⟨by decide, by decide⟩) rfl dX12_count_105 ?_
    have b37650l := Int32.le_toInt (A 17 161)
    have b37650h := Int32.toInt_lt (A 17 161)
    exact g_iret hk hR rfl ⟨(A 17 161), hF, rfl, rfl⟩ dX12_count_106
  replace hF := FE.neg hF c37649
  by_cases c37651 : z1.toInt = 4
  · refine g_tabIn (tgt := 107) (a := 4) hk dX12_count_3 c37651 (by decide) (by decide) rfl (by decide) ?_
    replace hF := FE.pos hF c37651
    refine g_aload_n hk dX12_count_107 rfl ?_
    refine gM_r0_35 hk hin12 (List.mem_cons_of_mem _ (List.mem_append_left _ (List.mem_of_getElem? (i := 0) rfl))) dX12_count_108 ?_
    refine g_sipush (v := 162) hk dX12_count_111 (by decide) ?_
    refine lM_17 (v := (A 17 162)) hk (vp_in_iff.mpr ⟨by decide, by decide⟩) rfl dX12_count_114 ?_
    have b37652l := Int32.le_toInt (A 17 162)
    have b37652h := Int32.toInt_lt (A 17 162)
    exact g_iret hk hR rfl ⟨(A 17 162), hF, rfl, rfl⟩ dX12_count_115
  replace hF := FE.neg hF c37651
  by_cases c37653 : z1.toInt = 5
  · refine g_tabIn (tgt := 116) (a := 5) hk dX12_count_3 c37653 (by decide) (by decide) rfl (by decide) ?_
    replace hF := FE.pos hF c37653
    refine g_aload_n hk dX12_count_116 rfl ?_
    refine gM_r0_35 hk hin12 (List.mem_cons_of_mem _ (List.mem_append_left _ (List.mem_of_getElem? (i := 0) rfl))) dX12_count_117 ?_
    refine g_sipush (v := 163) hk dX12_count_120 (by decide) ?_
    refine lM_17 (v := (A 17 163)) hk (vp_in_iff.mpr ⟨by decide, by decide⟩) rfl dX12_count_123 ?_
    have b37654l := Int32.le_toInt (A 17 163)
    have b37654h := Int32.toInt_lt (A 17 163)
    exact g_iret hk hR rfl ⟨(A 17 163), hF, rfl, rfl⟩ dX12_count_124
  replace hF := FE.neg hF c37653
  by_cases c37655 : z1.toInt = 6
  · refine g_tabIn (tgt := 125) (a := 6) hk dX12_count_3 c37655 (by decide) (by decide) rfl (by decide) ?_
    replace hF := FE.pos hF c37655
    refine g_aload_n hk dX12_count_125 rfl ?_
    refine gM_r0_35 hk hin12 (List.mem_cons_of_mem _ (List.mem_append_left _ (List.mem_of_getElem? (i := 0) rfl))) dX12_count_126 ?_
    refine g_sipush (v := 164) hk dX12_count_129 (by decide) ?_
    refine lM_17 (v := (A 17 164)) hk (vp_in_iff.mpr ⟨by decide, by decide⟩) rfl dX12_count_132 ?_
    have f37656 := IvM_s17_164 hIv
    have b37657l := Int32.le_toInt (A 17 164)
    have b37657h := Int32.toInt_lt (A 17 164)
    exact g_iret hk hR rfl ⟨(A 17 164), hF, rfl, rfl⟩ dX12_count_133
  replace hF := FE.neg hF c37655
  by_cases c37658 : z1.toInt = 7
  · refine g_tabIn (tgt := 134) (a := 7) hk dX12_count_3 c37658 (by decide) (by decide) rfl (by decide) ?_
    replace hF := FE.pos hF c37658
    have lp37676 : ∀ (n37677 : Nat) (x37659 : Int32), (0 ≤ x37659.toInt) → (x37659.toInt ≤ 160) → (161 - x37659.toInt < (n37677 : Int)) → (0 < n37677) → (FE (fM12_count I A L z1) (itr_i (0 : Int32) (bM12_count_134 A I L) n37677 x37659)) → GW κ 4 0 0 (wM r g I A L) 134 [(2, .int x37659), (0, .ref (r 0)), (1, .int z1)] [] := by
      intro n37677
      induction n37677 with
      | zero =>
        intro x37659 h37674 h37675 m37678 m37678z hF
        exact absurd m37678z (Nat.lt_irrefl 0)
      | succ n37677 ih37680 =>
        intro x37659 h37674 h37675 m37678 m37678z hF
        replace hF := FE.itr_i hF
        refine g_aload_n hk dX12_count_134 rfl ?_
        refine g_aload_n hk dX12_count_135 rfl ?_
        refine gM_r0_35 hk hin12 (List.mem_cons_of_mem _ (List.mem_append_left _ (List.mem_of_getElem? (i := 0) rfl))) dX12_count_136 ?_
        refine g_iconst (v := 0) hk dX12_count_139 (by decide) ?_
        refine lM_17 (v := (A 17 0)) hk (vp_in_iff.mpr ⟨by decide, by decide⟩) rfl dX12_count_140 ?_
        have f37681 := IvM_s17_0 hIv
        refine g_iconst (v := 1) hk dX12_count_141 (by decide) ?_
        refine g_isub hk dX12_count_142 ?_
        refine g_topi (fun y37682 ey37682 => ?_)
        replace hF := FE.lt hF ey37682
        have hy37682 : y37682.toInt = (A 17 0).toInt - 1 := i32_sub ey37682 rfl rfl (by omega) (by omega)
        refine g_iload_n hk dX12_count_143 rfl ?_
        refine g_isub hk dX12_count_144 ?_
        refine g_topi (fun y37683 ey37683 => ?_)
        replace hF := FE.lt hF ey37683
        have hy37683 : y37683.toInt = y37682.toInt - x37659.toInt := i32_sub ey37683 rfl rfl (by omega) (by omega)
        refine g_callV (n := 1) hk (j143_X12_isThere l D zt r g I A L y37683 hIv) (SP.same _) (fun _ h => h) (gi_V (List.mem_cons_of_mem _ (List.mem_append_left _ (List.mem_of_getElem? (i := 7) rfl))) (List.mem_cons_of_mem _ (List.mem_append_left _ (List.mem_of_getElem? (i := 8) rfl))) (List.mem_cons_of_mem _ (List.mem_append_left _ (List.mem_of_getElem? (i := 9) rfl))) (List.mem_cons_of_mem _ (List.mem_append_left _ (List.mem_of_getElem? (i := 4) rfl))) (gi_sub (fun w h => (List.mem_cons_of_mem _ (List.mem_append_right _ (List.mem_append_right _ (List.mem_append_right _ (List.mem_append_left _ h)))))) zg_j143_X12_isThere)) rfl rfl rfl (by decide +kernel) ⟨Nat.le_of_ble_eq_true rfl, Nat.le_of_ble_eq_true rfl⟩ 0 rfl rfl rfl rfl (Nat.le_of_ble_eq_true rfl) ⟨Nat.le_of_ble_eq_true rfl, Nat.le_of_ble_eq_true rfl⟩ dX12_count_145 (fun v ty' w' hp hk' => ?_)
        rcases hp with ⟨hC, rfl, rfl⟩ | ⟨c37685, c37686, c37687, c37688, c37689, hC, rfl, rfl⟩
        · skip
          replace hF := FE.pos hF hC
          show GW κ 4 0 0 (wM r g I A L) 148 [(2, .int x37659), (0, .ref (r 0)), (1, .int z1)] [.int 0]
          refine g_if_eq (tgt := 157) (a := 0) hk dX12_count_148 (by decide) rfl (fun _ => ?_) (fun z9 => absurd (show (0 : Int) = (0 : Int) from by decide) z9)
          refine g_iload_n hk dX12_count_157 rfl ?_
          exact g_iret hk hR rfl ⟨x37659, hF, rfl, rfl⟩ dX12_count_158
        · skip
          replace hF := FE.neg hF (fe_ne hC (by decide))
          show GW κ 4 0 0 (wM r g I A L) 148 [(2, .int x37659), (0, .ref (r 0)), (1, .int z1)] [.int 1]
          refine g_if_eq (tgt := 157) (a := 1) hk dX12_count_148 (by decide) rfl (fun z9 => absurd z9 (show ¬ ((1 : Int) = (0 : Int)) from by decide)) (fun _ => ?_)
          obtain ⟨y37691, ey37691⟩ : ∃ y : Int32, y = x37659 + Int32.ofInt 1 := ⟨_, rfl⟩
          replace hF := FE.lt hF ey37691
          have hy37691 : y37691.toInt = x37659.toInt + 1 := i32_add ey37691 rfl (by decide) (by omega) (by omega)
          refine g_iinc (v := y37691) (lv' := [(2, .int y37691), (0, .ref (r 0)), (1, .int z1)]) hk 0 dX12_count_151 rfl ey37691.symm (by decide) rfl ?_
          refine g_goto (tgt := 134) hk dX12_count_154 (by decide) ?_
          exact g_lv (List.forall_mem_cons.mpr ⟨List.mem_of_getElem? (i := 0) rfl, (List.forall_mem_cons.mpr ⟨List.mem_of_getElem? (i := 1) rfl, (List.forall_mem_cons.mpr ⟨List.mem_of_getElem? (i := 2) rfl, (fun _ h => absurd h List.not_mem_nil)⟩)⟩)⟩) (ih37680 y37691 (by omega) (by omega) (by omega) (by omega) hF)
    have k37692 : (0 : Int32).toInt = 0 := rfl
    have b37694 := Int32.le_toInt (0 : Int32)
    have b37695 := Int32.toInt_lt (0 : Int32)
    have n37693a : 161 - (0 : Int32).toInt < (FU : Int) := by have := FU_eq; omega
    have n37693b : 0 < FU := by have := FU_eq; omega
    exact lp37676 FU 0 (by omega) (by omega) n37693a n37693b hF
  replace hF := FE.neg hF c37658
  by_cases c37696 : z1.toInt = 8
  · refine g_tabIn (tgt := 159) (a := 8) hk dX12_count_3 c37696 (by decide) (by decide) rfl (by decide) ?_
    replace hF := FE.pos hF c37696
    refine g_aload_n hk dX12_count_159 rfl ?_
    refine gM_i1 (v := (I 1)) hk hin12 (List.mem_cons_of_mem _ (List.mem_append_left _ (List.mem_of_getElem? (i := 10) rfl))) dX12_count_160 rfl ?_
    have f37697 := IvM_f1 hIv
    exact g_iret hk hR rfl ⟨(I 1), hF, rfl, rfl⟩ dX12_count_163
  replace hF := FE.neg hF c37696
  by_cases c37698 : z1.toInt = 9
  · refine g_tabIn (tgt := 164) (a := 9) hk dX12_count_3 c37698 (by decide) (by decide) rfl (by decide) ?_
    replace hF := FE.pos hF c37698
    refine g_aload_n hk dX12_count_164 rfl ?_
    refine gM_i22 (v := (I 22)) hk hin12 (List.mem_cons_of_mem _ (List.mem_append_left _ (List.mem_of_getElem? (i := 11) rfl))) dX12_count_165 rfl ?_
    have f37699 := IvM_f22 hIv
    exact g_iret hk hR rfl ⟨(I 22), hF, rfl, rfl⟩ dX12_count_168
  replace hF := FE.neg hF c37698
  by_cases c37700 : z1.toInt = 10
  · refine g_tabIn (tgt := 169) (a := 10) hk dX12_count_3 c37700 (by decide) (by decide) rfl (by decide) ?_
    replace hF := FE.pos hF c37700
    refine g_iconst (v := 0) hk dX12_count_169 (by decide) ?_
    refine g_istore_n (lv' := [(3, .int 0), (2, .int 0), (0, .ref (r 0)), (1, .int z1)]) hk dX12_count_170 (by decide) rfl ?_
    have lp37766 : ∀ (n37767 : Nat) (x37701 : Int32) (x37702 : Int32), (0 ≤ x37701.toInt) → (x37701.toInt ≤ 160) → (161 - x37701.toInt < (n37767 : Int)) → (0 < n37767) → (FE (fM12_count I A L z1) (itr_ii (0 : Int32) (bM12_count_171 A I L) n37767 x37701 x37702)) → GW κ 4 0 0 (wM r g I A L) 171 [(3, .int x37701), (2, .int x37702), (0, .ref (r 0)), (1, .int z1)] [] := by
      intro n37767
      induction n37767 with
      | zero =>
        intro x37701 x37702 h37764 h37765 m37768 m37768z hF
        exact absurd m37768z (Nat.lt_irrefl 0)
      | succ n37767 ih37770 =>
        intro x37701 x37702 h37764 h37765 m37768 m37768z hF
        replace hF := FE.itr_ii hF
        refine g_iload_n hk dX12_count_171 rfl ?_
        refine g_aload_n hk dX12_count_172 rfl ?_
        refine gM_r0_35 hk hin12 (List.mem_cons_of_mem _ (List.mem_append_left _ (List.mem_of_getElem? (i := 0) rfl))) dX12_count_173 ?_
        refine g_iconst (v := 0) hk dX12_count_176 (by decide) ?_
        refine lM_17 (v := (A 17 0)) hk (vp_in_iff.mpr ⟨by decide, by decide⟩) rfl dX12_count_177 ?_
        have f37771 := IvM_s17_0 hIv
        refine g_icmp_ge (tgt := 206) (a := x37701.toInt) (b := (A 17 0).toInt) hk dX12_count_178 (by decide) rfl rfl (fun c37772 => ?_) (fun c37772 => ?_)
        · skip
          replace hF := FE.pos hF c37772
          refine g_iload_n hk dX12_count_206 rfl ?_
          have b37773l := Int32.le_toInt x37702
          have b37773h := Int32.toInt_lt x37702
          exact g_iret hk hR rfl ⟨x37702, hF, rfl, rfl⟩ dX12_count_207
        · skip
          replace hF := FE.neg hF c37772
          refine g_aload_n hk dX12_count_181 rfl ?_
          refine g_iload_n hk dX12_count_182 rfl ?_
          refine g_callV (n := 1) hk (j143_X12_isThere l D zt r g I A L x37701 hIv) (SP.same _) (fun _ h => h) (gi_V (List.mem_cons_of_mem _ (List.mem_append_left _ (List.mem_of_getElem? (i := 7) rfl))) (List.mem_cons_of_mem _ (List.mem_append_left _ (List.mem_of_getElem? (i := 8) rfl))) (List.mem_cons_of_mem _ (List.mem_append_left _ (List.mem_of_getElem? (i := 9) rfl))) (List.mem_cons_of_mem _ (List.mem_append_left _ (List.mem_of_getElem? (i := 4) rfl))) (gi_sub (fun w h => (List.mem_cons_of_mem _ (List.mem_append_right _ (List.mem_append_right _ (List.mem_append_right _ (List.mem_append_left _ h)))))) zg_j143_X12_isThere)) rfl rfl rfl (by decide +kernel) ⟨Nat.le_of_ble_eq_true rfl, Nat.le_of_ble_eq_true rfl⟩ 0 rfl rfl rfl rfl (Nat.le_of_ble_eq_true rfl) ⟨Nat.le_of_ble_eq_true rfl, Nat.le_of_ble_eq_true rfl⟩ dX12_count_183 (fun v ty' w' hp hk' => ?_)
          rcases hp with ⟨hC, rfl, rfl⟩ | ⟨c37775, c37776, c37777, c37778, c37779, hC, rfl, rfl⟩
          · skip
            replace hF := FE.pos hF hC
            show GW κ 4 0 0 (wM r g I A L) 186 [(3, .int x37701), (2, .int x37702), (0, .ref (r 0)), (1, .int z1)] [.int 0]
            refine g_if_eq (tgt := 200) (a := 0) hk dX12_count_186 (by decide) rfl (fun _ => ?_) (fun z9 => absurd (show (0 : Int) = (0 : Int) from by decide) z9)
            obtain ⟨y37781, ey37781⟩ : ∃ y : Int32, y = x37701 + Int32.ofInt 1 := ⟨_, rfl⟩
            replace hF := FE.lt hF ey37781
            have hy37781 : y37781.toInt = x37701.toInt + 1 := i32_add ey37781 rfl (by decide) (by omega) (by omega)
            refine g_iinc (v := y37781) (lv' := [(3, .int y37781), (2, .int x37702), (0, .ref (r 0)), (1, .int z1)]) hk 0 dX12_count_200 rfl ey37781.symm (by decide) rfl ?_
            refine g_goto (tgt := 171) hk dX12_count_203 (by decide) ?_
            have b37782l := Int32.le_toInt x37702
            have b37782h := Int32.toInt_lt x37702
            exact g_lv (List.forall_mem_cons.mpr ⟨List.mem_of_getElem? (i := 0) rfl, (List.forall_mem_cons.mpr ⟨List.mem_of_getElem? (i := 1) rfl, (List.forall_mem_cons.mpr ⟨List.mem_of_getElem? (i := 2) rfl, (List.forall_mem_cons.mpr ⟨List.mem_of_getElem? (i := 3) rfl, (fun _ h => absurd h List.not_mem_nil)⟩)⟩)⟩)⟩) (ih37770 y37781 x37702 (by omega) (by omega) (by omega) (by omega) hF)
          · skip
            replace hF := FE.neg hF (fe_ne hC (by decide))
            show GW κ 4 0 0 (wM r g I A L) 186 [(3, .int x37701), (2, .int x37702), (0, .ref (r 0)), (1, .int z1)] [.int 1]
            refine g_if_eq (tgt := 200) (a := 1) hk dX12_count_186 (by decide) rfl (fun z9 => absurd z9 (show ¬ ((1 : Int) = (0 : Int)) from by decide)) (fun _ => ?_)
            refine g_iload_n hk dX12_count_189 rfl ?_
            refine g_aload_n hk dX12_count_190 rfl ?_
            refine gM_r0_35 hk hin12 (List.mem_cons_of_mem _ (List.mem_append_left _ (List.mem_of_getElem? (i := 0) rfl))) dX12_count_191 ?_
            refine g_iconst (v := 1) hk dX12_count_194 (by decide) ?_
            refine g_iload_n hk dX12_count_195 rfl ?_
            refine g_iadd hk dX12_count_196 ?_
            refine g_topi (fun y37783 ey37783 => ?_)
            replace hF := FE.lt hF ey37783
            have hy37783 : y37783.toInt = 1 + x37701.toInt := i32_add ey37783 rfl rfl (by omega) (by omega)
            refine lM_17 (v := (A 17 y37783.toNatClampNeg)) hk (vp_in_iff.mpr ⟨by omega, by omega⟩) rfl dX12_count_197 ?_
            have b37784l := Int32.le_toInt x37702
            have b37784h := Int32.toInt_lt x37702
            have b37785l := Int32.le_toInt (A 17 y37783.toNatClampNeg)
            have b37785h := Int32.toInt_lt (A 17 y37783.toNatClampNeg)
            refine g_iadd hk dX12_count_198 ?_
            refine g_topi (fun y37786 ey37786 => ?_)
            replace hF := FE.lt hF ey37786
            refine g_istore_n (lv' := [(2, .int y37786), (3, .int x37701), (0, .ref (r 0)), (1, .int z1)]) hk dX12_count_199 (by decide) rfl ?_
            obtain ⟨y37787, ey37787⟩ : ∃ y : Int32, y = x37701 + Int32.ofInt 1 := ⟨_, rfl⟩
            replace hF := FE.lt hF ey37787
            have hy37787 : y37787.toInt = x37701.toInt + 1 := i32_add ey37787 rfl (by decide) (by omega) (by omega)
            refine g_iinc (v := y37787) (lv' := [(3, .int y37787), (2, .int y37786), (0, .ref (r 0)), (1, .int z1)]) hk 1 dX12_count_200 rfl ey37787.symm (by decide) rfl ?_
            refine g_goto (tgt := 171) hk dX12_count_203 (by decide) ?_
            have b37788l := Int32.le_toInt y37786
            have b37788h := Int32.toInt_lt y37786
            exact g_lv (List.forall_mem_cons.mpr ⟨List.mem_of_getElem? (i := 0) rfl, (List.forall_mem_cons.mpr ⟨List.mem_of_getElem? (i := 1) rfl, (List.forall_mem_cons.mpr ⟨List.mem_of_getElem? (i := 2) rfl, (List.forall_mem_cons.mpr ⟨List.mem_of_getElem? (i := 3) rfl, (fun _ h => absurd h List.not_mem_nil)⟩)⟩)⟩)⟩) (ih37770 y37787 y37786 (by omega) (by omega) (by omega) (by omega) hF)
    have k37789 : (0 : Int32).toInt = 0 := rfl
    have b37791 := Int32.le_toInt (0 : Int32)
    have b37792 := Int32.toInt_lt (0 : Int32)
    have n37790a : 161 - (0 : Int32).toInt < (FU : Int) := by have := FU_eq; omega
    have n37790b : 0 < FU := by have := FU_eq; omega
    exact lp37766 FU 0 0 (by omega) (by omega) n37790a n37790b hF
  replace hF := FE.neg hF c37700
  by_cases c37793 : z1.toInt = 11
  · refine g_tabIn (tgt := 208) (a := 11) hk dX12_count_3 c37793 (by decide) (by decide) rfl (by decide) ?_
    replace hF := FE.pos hF c37793
    refine g_aload_n hk dX12_count_208 rfl ?_
    refine gM_r0_53 hk hin12 (List.mem_cons_of_mem _ (List.mem_append_left _ (List.mem_of_getElem? (i := 12) rfl))) dX12_count_209 ?_
    refine g_iconst (v := 0) hk dX12_count_212 (by decide) ?_
    refine lM_27 (v := (A 27 0)) hk (vp_in_iff.mpr ⟨by decide, by decide⟩) rfl dX12_count_213 ?_
    have b37794l := Int32.le_toInt (A 27 0)
    have b37794h := Int32.toInt_lt (A 27 0)
    refine g_if_eq (tgt := 221) (a := (A 27 0).toInt) hk dX12_count_214 (by decide) rfl (fun c37795 => ?_) (fun c37795 => ?_)
    · skip
      replace hF := FE.pos hF c37795
      refine g_iconst (v := 0) hk dX12_count_221 (by decide) ?_
      refine g_aload_n hk dX12_count_222 rfl ?_
      refine gM_r0_53 hk hin12 (List.mem_cons_of_mem _ (List.mem_append_left _ (List.mem_of_getElem? (i := 12) rfl))) dX12_count_223 ?_
      refine g_iconst (v := 1) hk dX12_count_226 (by decide) ?_
      refine lM_27 (v := (A 27 1)) hk (vp_in_iff.mpr ⟨by decide, by decide⟩) rfl dX12_count_227 ?_
      have b37796l := Int32.le_toInt (A 27 1)
      have b37796h := Int32.toInt_lt (A 27 1)
      refine g_if_eq (tgt := 235) (a := (A 27 1).toInt) hk dX12_count_228 (by decide) rfl (fun c37797 => ?_) (fun c37797 => ?_)
      · skip
        replace hF := FE.pos hF c37797
        refine g_iconst (v := 0) hk dX12_count_235 (by decide) ?_
        refine g_iadd hk dX12_count_236 ?_
        refine g_norm (v := 0) (by decide) ?_
        refine g_aload_n hk dX12_count_237 rfl ?_
        refine gM_r0_53 hk hin12 (List.mem_cons_of_mem _ (List.mem_append_left _ (List.mem_of_getElem? (i := 12) rfl))) dX12_count_238 ?_
        refine g_iconst (v := 2) hk dX12_count_241 (by decide) ?_
        refine lM_27 (v := (A 27 2)) hk (vp_in_iff.mpr ⟨by decide, by decide⟩) rfl dX12_count_242 ?_
        have b37798l := Int32.le_toInt (A 27 2)
        have b37798h := Int32.toInt_lt (A 27 2)
        refine g_if_eq (tgt := 250) (a := (A 27 2).toInt) hk dX12_count_243 (by decide) rfl (fun c37799 => ?_) (fun c37799 => ?_)
        · skip
          replace hF := FE.pos hF c37799
          refine g_iconst (v := 0) hk dX12_count_250 (by decide) ?_
          refine g_iadd hk dX12_count_251 ?_
          refine g_norm (v := 0) (by decide) ?_
          exact g_iret hk hR rfl ⟨0, hF, rfl, rfl⟩ dX12_count_252
        · skip
          replace hF := FE.neg hF c37799
          refine g_iconst (v := 1) hk dX12_count_246 (by decide) ?_
          refine g_goto (tgt := 251) hk dX12_count_247 (by decide) ?_
          refine g_iadd hk dX12_count_251 ?_
          refine g_norm (v := 1) (by decide) ?_
          exact g_iret hk hR rfl ⟨1, hF, rfl, rfl⟩ dX12_count_252
      · skip
        replace hF := FE.neg hF c37797
        refine g_iconst (v := 1) hk dX12_count_231 (by decide) ?_
        refine g_goto (tgt := 236) hk dX12_count_232 (by decide) ?_
        refine g_iadd hk dX12_count_236 ?_
        refine g_norm (v := 1) (by decide) ?_
        refine g_aload_n hk dX12_count_237 rfl ?_
        refine gM_r0_53 hk hin12 (List.mem_cons_of_mem _ (List.mem_append_left _ (List.mem_of_getElem? (i := 12) rfl))) dX12_count_238 ?_
        refine g_iconst (v := 2) hk dX12_count_241 (by decide) ?_
        refine lM_27 (v := (A 27 2)) hk (vp_in_iff.mpr ⟨by decide, by decide⟩) rfl dX12_count_242 ?_
        have b37800l := Int32.le_toInt (A 27 2)
        have b37800h := Int32.toInt_lt (A 27 2)
        refine g_if_eq (tgt := 250) (a := (A 27 2).toInt) hk dX12_count_243 (by decide) rfl (fun c37801 => ?_) (fun c37801 => ?_)
        · skip
          replace hF := FE.pos hF c37801
          refine g_iconst (v := 0) hk dX12_count_250 (by decide) ?_
          refine g_iadd hk dX12_count_251 ?_
          refine g_norm (v := 1) (by decide) ?_
          exact g_iret hk hR rfl ⟨1, hF, rfl, rfl⟩ dX12_count_252
        · skip
          replace hF := FE.neg hF c37801
          refine g_iconst (v := 1) hk dX12_count_246 (by decide) ?_
          refine g_goto (tgt := 251) hk dX12_count_247 (by decide) ?_
          refine g_iadd hk dX12_count_251 ?_
          refine g_norm (v := 2) (by decide) ?_
          exact g_iret hk hR rfl ⟨2, hF, rfl, rfl⟩ dX12_count_252
    · skip
      replace hF := FE.neg hF c37795
      refine g_iconst (v := 1) hk dX12_count_217 (by decide) ?_
      refine g_goto (tgt := 222) hk dX12_count_218 (by decide) ?_
      refine g_aload_n hk dX12_count_222 rfl ?_
      refine gM_r0_53 hk hin12 (List.mem_cons_of_mem _ (List.mem_append_left _ (List.mem_of_getElem? (i := 12) rfl))) dX12_count_223 ?_
      refine g_iconst (v := 1) hk dX12_count_226 (by decide) ?_
      refine lM_27 (v := (A 27 1)) hk (vp_in_iff.mpr ⟨by decide, by decide⟩) rfl dX12_count_227 ?_
      have b37802l := Int32.le_toInt (A 27 1)
      have b37802h := Int32.toInt_lt (A 27 1)
      refine g_if_eq (tgt := 235) (a := (A 27 1).toInt) hk dX12_count_228 (by decide) rfl (fun c37803 => ?_) (fun c37803 => ?_)
      · skip
        replace hF := FE.pos hF c37803
        refine g_iconst (v := 0) hk dX12_count_235 (by decide) ?_
        refine g_iadd hk dX12_count_236 ?_
        refine g_norm (v := 1) (by decide) ?_
        refine g_aload_n hk dX12_count_237 rfl ?_
        refine gM_r0_53 hk hin12 (List.mem_cons_of_mem _ (List.mem_append_left _ (List.mem_of_getElem? (i := 12) rfl))) dX12_count_238 ?_
        refine g_iconst (v := 2) hk dX12_count_241 (by decide) ?_
        refine lM_27 (v := (A 27 2)) hk (vp_in_iff.mpr ⟨by decide, by decide⟩) rfl dX12_count_242 ?_
        have b37804l := Int32.le_toInt (A 27 2)
        have b37804h := Int32.toInt_lt (A 27 2)
        refine g_if_eq (tgt := 250) (a := (A 27 2).toInt) hk dX12_count_243 (by decide) rfl (fun c37805 => ?_) (fun c37805 => ?_)
        · skip
          replace hF := FE.pos hF c37805
          refine g_iconst (v := 0) hk dX12_count_250 (by decide) ?_
          refine g_iadd hk dX12_count_251 ?_
          refine g_norm (v := 1) (by decide) ?_
          exact g_iret hk hR rfl ⟨1, hF, rfl, rfl⟩ dX12_count_252
        · skip
          replace hF := FE.neg hF c37805
          refine g_iconst (v := 1) hk dX12_count_246 (by decide) ?_
          refine g_goto (tgt := 251) hk dX12_count_247 (by decide) ?_
          refine g_iadd hk dX12_count_251 ?_
          refine g_norm (v := 2) (by decide) ?_
          exact g_iret hk hR rfl ⟨2, hF, rfl, rfl⟩ dX12_count_252
      · skip
        replace hF := FE.neg hF c37803
        refine g_iconst (v := 1) hk dX12_count_231 (by decide) ?_
        refine g_goto (tgt := 236) hk dX12_count_232 (by decide) ?_
        refine g_iadd hk dX12_count_236 ?_
        refine g_norm (v := 2) (by decide) ?_
        refine g_aload_n hk dX12_count_237 rfl ?_
        refine gM_r0_53 hk hin12 (List.mem_cons_of_mem _ (List.mem_append_left _ (List.mem_of_getElem? (i := 12) rfl))) dX12_count_238 ?_
        refine g_iconst (v := 2) hk dX12_count_241 (by decide) ?_
        refine lM_27 (v := (A 27 2)) hk (vp_in_iff.mpr ⟨by decide, by decide⟩) rfl dX12_count_242 ?_
        have b37806l := Int32.le_toInt (A 27 2)
        have b37806h := Int32.toInt_lt (A 27 2)
        refine g_if_eq (tgt := 250) (a := (A 27 2).toInt) hk dX12_count_243 (by decide) rfl (fun c37807 => ?_) (fun c37807 => ?_)
        · skip
          replace hF := FE.pos hF c37807
          refine g_iconst (v := 0) hk dX12_count_250 (by decide) ?_
          refine g_iadd hk dX12_count_251 ?_
          refine g_norm (v := 2) (by decide) ?_
          exact g_iret hk hR rfl ⟨2, hF, rfl, rfl⟩ dX12_count_252
        · skip
          replace hF := FE.neg hF c37807
          refine g_iconst (v := 1) hk dX12_count_246 (by decide) ?_
          refine g_goto (tgt := 251) hk dX12_count_247 (by decide) ?_
          refine g_iadd hk dX12_count_251 ?_
          refine g_norm (v := 3) (by decide) ?_
          exact g_iret hk hR rfl ⟨3, hF, rfl, rfl⟩ dX12_count_252
  replace hF := FE.neg hF c37793
  by_cases c37808 : z1.toInt = 12
  · refine g_tabIn (tgt := 253) (a := 12) hk dX12_count_3 c37808 (by decide) (by decide) rfl (by decide) ?_
    replace hF := FE.pos hF c37808
    refine g_sipush (v := (-1000)) hk dX12_count_253 (by decide) ?_
    refine g_istore_n (lv' := [(2, .int (-1000)), (0, .ref (r 0)), (1, .int z1)]) hk dX12_count_256 (by decide) rfl ?_
    refine g_iconst (v := 0) hk dX12_count_257 (by decide) ?_
    refine g_istore_n (lv' := [(3, .int 0), (2, .int (-1000)), (0, .ref (r 0)), (1, .int z1)]) hk dX12_count_258 (by decide) rfl ?_
    have lp37880 : ∀ (n37881 : Nat) (x37809 : Int32) (x37810 : Int32), (0 ≤ x37809.toInt) → (x37809.toInt ≤ 160) → (161 - x37809.toInt < (n37881 : Int)) → (0 < n37881) → (FE (fM12_count I A L z1) (itr_ii (0 : Int32) (bM12_count_259 A I L) n37881 x37809 x37810)) → GW κ 4 0 0 (wM r g I A L) 259 [(3, .int x37809), (2, .int x37810), (0, .ref (r 0)), (1, .int z1)] [] := by
      intro n37881
      induction n37881 with
      | zero =>
        intro x37809 x37810 h37878 h37879 m37882 m37882z hF
        exact absurd m37882z (Nat.lt_irrefl 0)
      | succ n37881 ih37884 =>
        intro x37809 x37810 h37878 h37879 m37882 m37882z hF
        replace hF := FE.itr_ii hF
        refine g_iload_n hk dX12_count_259 rfl ?_
        refine g_aload_n hk dX12_count_260 rfl ?_
        refine gM_r0_35 hk hin12 (List.mem_cons_of_mem _ (List.mem_append_left _ (List.mem_of_getElem? (i := 0) rfl))) dX12_count_261 ?_
        refine g_iconst (v := 0) hk dX12_count_264 (by decide) ?_
        refine lM_17 (v := (A 17 0)) hk (vp_in_iff.mpr ⟨by decide, by decide⟩) rfl dX12_count_265 ?_
        have f37885 := IvM_s17_0 hIv
        refine g_icmp_ge (tgt := 304) (a := x37809.toInt) (b := (A 17 0).toInt) hk dX12_count_266 (by decide) rfl rfl (fun c37886 => ?_) (fun c37886 => ?_)
        · skip
          replace hF := FE.pos hF c37886
          refine g_iload_n hk dX12_count_304 rfl ?_
          have b37887l := Int32.le_toInt x37810
          have b37887h := Int32.toInt_lt x37810
          exact g_iret hk hR rfl ⟨x37810, hF, rfl, rfl⟩ dX12_count_305
        · skip
          replace hF := FE.neg hF c37886
          refine g_aload_n hk dX12_count_269 rfl ?_
          refine g_iload_n hk dX12_count_270 rfl ?_
          refine g_callV (n := 1) hk (j143_X12_isThere l D zt r g I A L x37809 hIv) (SP.same _) (fun _ h => h) (gi_V (List.mem_cons_of_mem _ (List.mem_append_left _ (List.mem_of_getElem? (i := 7) rfl))) (List.mem_cons_of_mem _ (List.mem_append_left _ (List.mem_of_getElem? (i := 8) rfl))) (List.mem_cons_of_mem _ (List.mem_append_left _ (List.mem_of_getElem? (i := 9) rfl))) (List.mem_cons_of_mem _ (List.mem_append_left _ (List.mem_of_getElem? (i := 4) rfl))) (gi_sub (fun w h => (List.mem_cons_of_mem _ (List.mem_append_right _ (List.mem_append_right _ (List.mem_append_right _ (List.mem_append_left _ h)))))) zg_j143_X12_isThere)) rfl rfl rfl (by decide +kernel) ⟨Nat.le_of_ble_eq_true rfl, Nat.le_of_ble_eq_true rfl⟩ 0 rfl rfl rfl rfl (Nat.le_of_ble_eq_true rfl) ⟨Nat.le_of_ble_eq_true rfl, Nat.le_of_ble_eq_true rfl⟩ dX12_count_271 (fun v ty' w' hp hk' => ?_)
          rcases hp with ⟨hC, rfl, rfl⟩ | ⟨c37889, c37890, c37891, c37892, c37893, hC, rfl, rfl⟩
          · skip
            replace hF := FE.pos hF hC
            show GW κ 4 0 0 (wM r g I A L) 274 [(3, .int x37809), (2, .int x37810), (0, .ref (r 0)), (1, .int z1)] [.int 0]
            refine g_if_eq (tgt := 298) (a := 0) hk dX12_count_274 (by decide) rfl (fun _ => ?_) (fun z9 => absurd (show (0 : Int) = (0 : Int) from by decide) z9)
            obtain ⟨y37895, ey37895⟩ : ∃ y : Int32, y = x37809 + Int32.ofInt 1 := ⟨_, rfl⟩
            replace hF := FE.lt hF ey37895
            have hy37895 : y37895.toInt = x37809.toInt + 1 := i32_add ey37895 rfl (by decide) (by omega) (by omega)
            refine g_iinc (v := y37895) (lv' := [(3, .int y37895), (2, .int x37810), (0, .ref (r 0)), (1, .int z1)]) hk 0 dX12_count_298 rfl ey37895.symm (by decide) rfl ?_
            refine g_goto (tgt := 259) hk dX12_count_301 (by decide) ?_
            have b37896l := Int32.le_toInt x37810
            have b37896h := Int32.toInt_lt x37810
            exact g_lv (List.forall_mem_cons.mpr ⟨List.mem_of_getElem? (i := 0) rfl, (List.forall_mem_cons.mpr ⟨List.mem_of_getElem? (i := 1) rfl, (List.forall_mem_cons.mpr ⟨List.mem_of_getElem? (i := 2) rfl, (List.forall_mem_cons.mpr ⟨List.mem_of_getElem? (i := 3) rfl, (fun _ h => absurd h List.not_mem_nil)⟩)⟩)⟩)⟩) (ih37884 y37895 x37810 (by omega) (by omega) (by omega) (by omega) hF)
          · skip
            replace hF := FE.neg hF (fe_ne hC (by decide))
            show GW κ 4 0 0 (wM r g I A L) 274 [(3, .int x37809), (2, .int x37810), (0, .ref (r 0)), (1, .int z1)] [.int 1]
            refine g_if_eq (tgt := 298) (a := 1) hk dX12_count_274 (by decide) rfl (fun z9 => absurd z9 (show ¬ ((1 : Int) = (0 : Int)) from by decide)) (fun _ => ?_)
            refine g_aload_n hk dX12_count_277 rfl ?_
            refine gM_r0_35 hk hin12 (List.mem_cons_of_mem _ (List.mem_append_left _ (List.mem_of_getElem? (i := 0) rfl))) dX12_count_278 ?_
            refine g_iconst (v := 1) hk dX12_count_281 (by decide) ?_
            refine g_iload_n hk dX12_count_282 rfl ?_
            refine g_iadd hk dX12_count_283 ?_
            refine g_topi (fun y37897 ey37897 => ?_)
            replace hF := FE.lt hF ey37897
            have hy37897 : y37897.toInt = 1 + x37809.toInt := i32_add ey37897 rfl rfl (by omega) (by omega)
            refine lM_17 (v := (A 17 y37897.toNatClampNeg)) hk (vp_in_iff.mpr ⟨by omega, by omega⟩) rfl dX12_count_284 ?_
            refine g_iload_n hk dX12_count_285 rfl ?_
            have b37898l := Int32.le_toInt (A 17 y37897.toNatClampNeg)
            have b37898h := Int32.toInt_lt (A 17 y37897.toNatClampNeg)
            have b37899l := Int32.le_toInt x37810
            have b37899h := Int32.toInt_lt x37810
            refine g_icmp_le (tgt := 298) (a := (A 17 y37897.toNatClampNeg).toInt) (b := x37810.toInt) hk dX12_count_286 (by decide) rfl rfl (fun c37900 => ?_) (fun c37900 => ?_)
            · skip
              replace hF := FE.pos hF c37900
              obtain ⟨y37901, ey37901⟩ : ∃ y : Int32, y = x37809 + Int32.ofInt 1 := ⟨_, rfl⟩
              replace hF := FE.lt hF ey37901
              have hy37901 : y37901.toInt = x37809.toInt + 1 := i32_add ey37901 rfl (by decide) (by omega) (by omega)
              refine g_iinc (v := y37901) (lv' := [(3, .int y37901), (2, .int x37810), (0, .ref (r 0)), (1, .int z1)]) hk 0 dX12_count_298 rfl ey37901.symm (by decide) rfl ?_
              refine g_goto (tgt := 259) hk dX12_count_301 (by decide) ?_
              exact g_lv (List.forall_mem_cons.mpr ⟨List.mem_of_getElem? (i := 0) rfl, (List.forall_mem_cons.mpr ⟨List.mem_of_getElem? (i := 1) rfl, (List.forall_mem_cons.mpr ⟨List.mem_of_getElem? (i := 2) rfl, (List.forall_mem_cons.mpr ⟨List.mem_of_getElem? (i := 3) rfl, (fun _ h => absurd h List.not_mem_nil)⟩)⟩)⟩)⟩) (ih37884 y37901 x37810 (by omega) (by omega) (by omega) (by omega) hF)
            · skip
              replace hF := FE.neg hF c37900
              refine g_aload_n hk dX12_count_289 rfl ?_
              refine gM_r0_35 hk hin12 (List.mem_cons_of_mem _ (List.mem_append_left _ (List.mem_of_getElem? (i := 0) rfl))) dX12_count_290 ?_
              refine g_iconst (v := 1) hk dX12_count_293 (by decide) ?_
              refine g_iload_n hk dX12_count_294 rfl ?_
              refine g_iadd hk dX12_count_295 ?_
              refine g_topi (fun y37902 ey37902 => ?_)
              replace hF := FE.lt hF ey37902
              have hy37902 : y37902.toInt = 1 + x37809.toInt := i32_add ey37902 rfl rfl (by omega) (by omega)
              refine lM_17 (v := (A 17 y37902.toNatClampNeg)) hk (vp_in_iff.mpr ⟨by omega, by omega⟩) rfl dX12_count_296 ?_
              refine g_istore_n (lv' := [(2, .int (A 17 y37902.toNatClampNeg)), (3, .int x37809), (0, .ref (r 0)), (1, .int z1)]) hk dX12_count_297 (by decide) rfl ?_
              obtain ⟨y37903, ey37903⟩ : ∃ y : Int32, y = x37809 + Int32.ofInt 1 := ⟨_, rfl⟩
              replace hF := FE.lt hF ey37903
              have hy37903 : y37903.toInt = x37809.toInt + 1 := i32_add ey37903 rfl (by decide) (by omega) (by omega)
              refine g_iinc (v := y37903) (lv' := [(3, .int y37903), (2, .int (A 17 y37902.toNatClampNeg)), (0, .ref (r 0)), (1, .int z1)]) hk 1 dX12_count_298 rfl ey37903.symm (by decide) rfl ?_
              refine g_goto (tgt := 259) hk dX12_count_301 (by decide) ?_
              have b37904l := Int32.le_toInt (A 17 y37902.toNatClampNeg)
              have b37904h := Int32.toInt_lt (A 17 y37902.toNatClampNeg)
              exact g_lv (List.forall_mem_cons.mpr ⟨List.mem_of_getElem? (i := 0) rfl, (List.forall_mem_cons.mpr ⟨List.mem_of_getElem? (i := 1) rfl, (List.forall_mem_cons.mpr ⟨List.mem_of_getElem? (i := 2) rfl, (List.forall_mem_cons.mpr ⟨List.mem_of_getElem? (i := 3) rfl, (fun _ h => absurd h List.not_mem_nil)⟩)⟩)⟩)⟩) (ih37884 y37903 (A 17 y37902.toNatClampNeg) (by omega) (by omega) (by omega) (by omega) hF)
    have k37905 : (0 : Int32).toInt = 0 := rfl
    have k37906 : ((-1000) : Int32).toInt = (-1000) := rfl
    have b37908 := Int32.le_toInt (0 : Int32)
    have b37909 := Int32.toInt_lt (0 : Int32)
    have n37907a : 161 - (0 : Int32).toInt < (FU : Int) := by have := FU_eq; omega
    have n37907b : 0 < FU := by have := FU_eq; omega
    exact lp37880 FU 0 (-1000) (by omega) (by omega) n37907a n37907b hF
  replace hF := FE.neg hF c37808
  by_cases c37910 : z1.toInt = 13
  · refine g_tabIn (tgt := 306) (a := 13) hk dX12_count_3 c37910 (by decide) (by decide) rfl (by decide) ?_
    replace hF := FE.pos hF c37910
    refine g_ldc (v := 100000) hk (List.mem_cons_of_mem _ (List.mem_append_left _ (List.mem_of_getElem? (i := 13) rfl))) dX12_count_306 ?_
    refine g_istore_n (lv' := [(2, .int 100000), (0, .ref (r 0)), (1, .int z1)]) hk dX12_count_308 (by decide) rfl ?_
    refine g_iconst (v := 0) hk dX12_count_309 (by decide) ?_
    refine g_istore_n (lv' := [(3, .int 0), (2, .int 100000), (0, .ref (r 0)), (1, .int z1)]) hk dX12_count_310 (by decide) rfl ?_
    have lp37956 : ∀ (n37957 : Nat) (x37911 : Int32) (x37912 : Int32), (0 ≤ x37911.toInt) → (x37911.toInt ≤ 160) → (161 - x37911.toInt < (n37957 : Int)) → (0 < n37957) → (FE (fM12_count I A L z1) (itr_ii (0 : Int32) (bM12_count_311 A I L) n37957 x37911 x37912)) → GW κ 4 0 0 (wM r g I A L) 311 [(3, .int x37911), (2, .int x37912), (0, .ref (r 0)), (1, .int z1)] [] := by
      intro n37957
      induction n37957 with
      | zero =>
        intro x37911 x37912 h37954 h37955 m37958 m37958z hF
        exact absurd m37958z (Nat.lt_irrefl 0)
      | succ n37957 ih37960 =>
        intro x37911 x37912 h37954 h37955 m37958 m37958z hF
        replace hF := FE.itr_ii hF
        refine g_iload_n hk dX12_count_311 rfl ?_
        refine g_aload_n hk dX12_count_312 rfl ?_
        refine gM_r0_35 hk hin12 (List.mem_cons_of_mem _ (List.mem_append_left _ (List.mem_of_getElem? (i := 0) rfl))) dX12_count_313 ?_
        refine g_iconst (v := 0) hk dX12_count_316 (by decide) ?_
        refine lM_17 (v := (A 17 0)) hk (vp_in_iff.mpr ⟨by decide, by decide⟩) rfl dX12_count_317 ?_
        have f37961 := IvM_s17_0 hIv
        refine g_icmp_ge (tgt := 348) (a := x37911.toInt) (b := (A 17 0).toInt) hk dX12_count_318 (by decide) rfl rfl (fun c37962 => ?_) (fun c37962 => ?_)
        · skip
          replace hF := FE.pos hF c37962
          refine g_iload_n hk dX12_count_348 rfl ?_
          refine g_ldc (v := 100000) hk (List.mem_cons_of_mem _ (List.mem_append_left _ (List.mem_of_getElem? (i := 13) rfl))) dX12_count_349 ?_
          have b37963l := Int32.le_toInt x37912
          have b37963h := Int32.toInt_lt x37912
          refine g_icmp_ne (tgt := 360) (a := x37912.toInt) (b := 100000) hk dX12_count_351 (by decide) rfl rfl (fun c37964 => ?_) (fun c37964 => ?_)
          · skip
            replace hF := FE.pos hF c37964
            refine g_iload_n hk dX12_count_360 rfl ?_
            exact g_iret hk hR rfl ⟨x37912, hF, rfl, rfl⟩ dX12_count_361
          · skip
            replace hF := FE.neg hF c37964
            refine g_sipush (v := (-1000)) hk dX12_count_354 (by decide) ?_
            refine g_goto (tgt := 361) hk dX12_count_357 (by decide) ?_
            exact g_iret hk hR rfl ⟨(-1000), hF, rfl, rfl⟩ dX12_count_361
        · skip
          replace hF := FE.neg hF c37962
          refine g_aload_n hk dX12_count_321 rfl ?_
          refine gM_r0_35 hk hin12 (List.mem_cons_of_mem _ (List.mem_append_left _ (List.mem_of_getElem? (i := 0) rfl))) dX12_count_322 ?_
          refine g_iconst (v := 1) hk dX12_count_325 (by decide) ?_
          refine g_iload_n hk dX12_count_326 rfl ?_
          refine g_iadd hk dX12_count_327 ?_
          refine g_topi (fun y37965 ey37965 => ?_)
          replace hF := FE.lt hF ey37965
          have hy37965 : y37965.toInt = 1 + x37911.toInt := i32_add ey37965 rfl rfl (by omega) (by omega)
          refine lM_17 (v := (A 17 y37965.toNatClampNeg)) hk (vp_in_iff.mpr ⟨by omega, by omega⟩) rfl dX12_count_328 ?_
          refine g_iload_n hk dX12_count_329 rfl ?_
          have b37966l := Int32.le_toInt (A 17 y37965.toNatClampNeg)
          have b37966h := Int32.toInt_lt (A 17 y37965.toNatClampNeg)
          have b37967l := Int32.le_toInt x37912
          have b37967h := Int32.toInt_lt x37912
          refine g_icmp_ge (tgt := 342) (a := (A 17 y37965.toNatClampNeg).toInt) (b := x37912.toInt) hk dX12_count_330 (by decide) rfl rfl (fun c37968 => ?_) (fun c37968 => ?_)
          · skip
            replace hF := FE.pos hF c37968
            obtain ⟨y37969, ey37969⟩ : ∃ y : Int32, y = x37911 + Int32.ofInt 1 := ⟨_, rfl⟩
            replace hF := FE.lt hF ey37969
            have hy37969 : y37969.toInt = x37911.toInt + 1 := i32_add ey37969 rfl (by decide) (by omega) (by omega)
            refine g_iinc (v := y37969) (lv' := [(3, .int y37969), (2, .int x37912), (0, .ref (r 0)), (1, .int z1)]) hk 0 dX12_count_342 rfl ey37969.symm (by decide) rfl ?_
            refine g_goto (tgt := 311) hk dX12_count_345 (by decide) ?_
            exact g_lv (List.forall_mem_cons.mpr ⟨List.mem_of_getElem? (i := 0) rfl, (List.forall_mem_cons.mpr ⟨List.mem_of_getElem? (i := 1) rfl, (List.forall_mem_cons.mpr ⟨List.mem_of_getElem? (i := 2) rfl, (List.forall_mem_cons.mpr ⟨List.mem_of_getElem? (i := 3) rfl, (fun _ h => absurd h List.not_mem_nil)⟩)⟩)⟩)⟩) (ih37960 y37969 x37912 (by omega) (by omega) (by omega) (by omega) hF)
          · skip
            replace hF := FE.neg hF c37968
            refine g_aload_n hk dX12_count_333 rfl ?_
            refine gM_r0_35 hk hin12 (List.mem_cons_of_mem _ (List.mem_append_left _ (List.mem_of_getElem? (i := 0) rfl))) dX12_count_334 ?_
            refine g_iconst (v := 1) hk dX12_count_337 (by decide) ?_
            refine g_iload_n hk dX12_count_338 rfl ?_
            refine g_iadd hk dX12_count_339 ?_
            refine g_topi (fun y37970 ey37970 => ?_)
            replace hF := FE.lt hF ey37970
            have hy37970 : y37970.toInt = 1 + x37911.toInt := i32_add ey37970 rfl rfl (by omega) (by omega)
            refine lM_17 (v := (A 17 y37970.toNatClampNeg)) hk (vp_in_iff.mpr ⟨by omega, by omega⟩) rfl dX12_count_340 ?_
            refine g_istore_n (lv' := [(2, .int (A 17 y37970.toNatClampNeg)), (3, .int x37911), (0, .ref (r 0)), (1, .int z1)]) hk dX12_count_341 (by decide) rfl ?_
            obtain ⟨y37971, ey37971⟩ : ∃ y : Int32, y = x37911 + Int32.ofInt 1 := ⟨_, rfl⟩
            replace hF := FE.lt hF ey37971
            have hy37971 : y37971.toInt = x37911.toInt + 1 := i32_add ey37971 rfl (by decide) (by omega) (by omega)
            refine g_iinc (v := y37971) (lv' := [(3, .int y37971), (2, .int (A 17 y37970.toNatClampNeg)), (0, .ref (r 0)), (1, .int z1)]) hk 1 dX12_count_342 rfl ey37971.symm (by decide) rfl ?_
            refine g_goto (tgt := 311) hk dX12_count_345 (by decide) ?_
            have b37972l := Int32.le_toInt (A 17 y37970.toNatClampNeg)
            have b37972h := Int32.toInt_lt (A 17 y37970.toNatClampNeg)
            exact g_lv (List.forall_mem_cons.mpr ⟨List.mem_of_getElem? (i := 0) rfl, (List.forall_mem_cons.mpr ⟨List.mem_of_getElem? (i := 1) rfl, (List.forall_mem_cons.mpr ⟨List.mem_of_getElem? (i := 2) rfl, (List.forall_mem_cons.mpr ⟨List.mem_of_getElem? (i := 3) rfl, (fun _ h => absurd h List.not_mem_nil)⟩)⟩)⟩)⟩) (ih37960 y37971 (A 17 y37970.toNatClampNeg) (by omega) (by omega) (by omega) (by omega) hF)
    have k37973 : (0 : Int32).toInt = 0 := rfl
    have k37974 : (100000 : Int32).toInt = 100000 := rfl
    have b37976 := Int32.le_toInt (0 : Int32)
    have b37977 := Int32.toInt_lt (0 : Int32)
    have n37975a : 161 - (0 : Int32).toInt < (FU : Int) := by have := FU_eq; omega
    have n37975b : 0 < FU := by have := FU_eq; omega
    exact lp37956 FU 0 100000 (by omega) (by omega) n37975a n37975b hF
  replace hF := FE.neg hF c37910
  by_cases c37978 : z1.toInt = 14
  · refine g_tabIn (tgt := 362) (a := 14) hk dX12_count_3 c37978 (by decide) (by decide) rfl (by decide) ?_
    replace hF := FE.pos hF c37978
    have lp37993 : ∀ (n37994 : Nat) (x37979 : Int32), (0 ≤ x37979.toInt) → (x37979.toInt ≤ 160) → (161 - x37979.toInt < (n37994 : Int)) → (0 < n37994) → (FE (fM12_count I A L z1) (itr_i (0 : Int32) (bM12_count_362 I A L) n37994 x37979)) → GW κ 4 0 0 (wM r g I A L) 362 [(2, .int x37979), (0, .ref (r 0)), (1, .int z1)] [] := by
      intro n37994
      induction n37994 with
      | zero =>
        intro x37979 h37991 h37992 m37995 m37995z hF
        exact absurd m37995z (Nat.lt_irrefl 0)
      | succ n37994 ih37997 =>
        intro x37979 h37991 h37992 m37995 m37995z hF
        replace hF := FE.itr_i hF
        refine g_aload_n hk dX12_count_362 rfl ?_
        refine g_iload_n hk dX12_count_363 rfl ?_
        refine g_callV (n := 1) hk (j143_X12_isThere l D zt r g I A L x37979 hIv) (SP.same _) (fun _ h => h) (gi_V (List.mem_cons_of_mem _ (List.mem_append_left _ (List.mem_of_getElem? (i := 7) rfl))) (List.mem_cons_of_mem _ (List.mem_append_left _ (List.mem_of_getElem? (i := 8) rfl))) (List.mem_cons_of_mem _ (List.mem_append_left _ (List.mem_of_getElem? (i := 9) rfl))) (List.mem_cons_of_mem _ (List.mem_append_left _ (List.mem_of_getElem? (i := 4) rfl))) (gi_sub (fun w h => (List.mem_cons_of_mem _ (List.mem_append_right _ (List.mem_append_right _ (List.mem_append_right _ (List.mem_append_left _ h)))))) zg_j143_X12_isThere)) rfl rfl rfl (by decide +kernel) ⟨Nat.le_of_ble_eq_true rfl, Nat.le_of_ble_eq_true rfl⟩ 0 rfl rfl rfl rfl (Nat.le_of_ble_eq_true rfl) ⟨Nat.le_of_ble_eq_true rfl, Nat.le_of_ble_eq_true rfl⟩ dX12_count_364 (fun v ty' w' hp hk' => ?_)
        rcases hp with ⟨hC, rfl, rfl⟩ | ⟨c37999, c38000, c38001, c38002, c38003, hC, rfl, rfl⟩
        · skip
          replace hF := FE.pos hF hC
          show GW κ 4 0 0 (wM r g I A L) 367 [(2, .int x37979), (0, .ref (r 0)), (1, .int z1)] [.int 0]
          refine g_if_eq (tgt := 376) (a := 0) hk dX12_count_367 (by decide) rfl (fun _ => ?_) (fun z9 => absurd (show (0 : Int) = (0 : Int) from by decide) z9)
          refine g_iload_n hk dX12_count_376 rfl ?_
          exact g_iret hk hR rfl ⟨x37979, hF, rfl, rfl⟩ dX12_count_377
        · skip
          replace hF := FE.neg hF (fe_ne hC (by decide))
          show GW κ 4 0 0 (wM r g I A L) 367 [(2, .int x37979), (0, .ref (r 0)), (1, .int z1)] [.int 1]
          refine g_if_eq (tgt := 376) (a := 1) hk dX12_count_367 (by decide) rfl (fun z9 => absurd z9 (show ¬ ((1 : Int) = (0 : Int)) from by decide)) (fun _ => ?_)
          obtain ⟨y38005, ey38005⟩ : ∃ y : Int32, y = x37979 + Int32.ofInt 1 := ⟨_, rfl⟩
          replace hF := FE.lt hF ey38005
          have hy38005 : y38005.toInt = x37979.toInt + 1 := i32_add ey38005 rfl (by decide) (by omega) (by omega)
          refine g_iinc (v := y38005) (lv' := [(2, .int y38005), (0, .ref (r 0)), (1, .int z1)]) hk 0 dX12_count_370 rfl ey38005.symm (by decide) rfl ?_
          refine g_goto (tgt := 362) hk dX12_count_373 (by decide) ?_
          exact g_lv (List.forall_mem_cons.mpr ⟨List.mem_of_getElem? (i := 0) rfl, (List.forall_mem_cons.mpr ⟨List.mem_of_getElem? (i := 1) rfl, (List.forall_mem_cons.mpr ⟨List.mem_of_getElem? (i := 2) rfl, (fun _ h => absurd h List.not_mem_nil)⟩)⟩)⟩) (ih37997 y38005 (by omega) (by omega) (by omega) (by omega) hF)
    have k38006 : (0 : Int32).toInt = 0 := rfl
    have b38008 := Int32.le_toInt (0 : Int32)
    have b38009 := Int32.toInt_lt (0 : Int32)
    have n38007a : 161 - (0 : Int32).toInt < (FU : Int) := by have := FU_eq; omega
    have n38007b : 0 < FU := by have := FU_eq; omega
    exact lp37993 FU 0 (by omega) (by omega) n38007a n38007b hF
  replace hF := FE.neg hF c37978
  refine g_tabOut (tgt := 378) (a := z1.toInt) hk dX12_count_3 rfl (by omega) (by decide) ?_
  refine g_iconst (v := (-1)) hk dX12_count_378 (by decide) ?_
  exact g_iret hk hR rfl ⟨(-1), hF, rfl, rfl⟩ dX12_count_379
