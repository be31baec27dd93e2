set_option maxHeartbeats 4000000 in
set_option maxRecDepth 100000 in
theorem law_20 {κ : Cx} {l : Launch} {D : va_G} {zt : Nat × Nat × Nat × (Nat → Nat) × (Nat → Nat)} {q r : Nat → Nat} {d g : Nat → ClassId} {b L : Nat} {xs : Nat → Int32} (hk : GC κ l D zt code 4 RL lw_tbl (tyX d ++ tyM g) room_1) (hX : GX κ b L xs) (i : Int32) (h0 : 0 ≤ i.toInt) (h6 : i.toInt + 6 ≤ (L : Int)) (hL : L ≤ 3072) (I : Nat → Int32) (A : Nat → Nat → Int32) (J : Nat → Int32) (B : Nat → Nat → Int32) (M : Nat → Nat → Int64) (hI : IvX I A) (hJ : IvM J B) (hS : RA I A J B M) (tail : ∀ (I : Nat → Int32) (A : Nat → Nat → Int32) (J : Nat → Int32) (B : Nat → Nat → Int32) (M : Nat → Nat → Int64), IvX I A → IvM J B → RA I A J B M → GW κ 4 82 21282 (wX q d I A ++ wM r g J B M) 1465 [(3, .int i), (2, .ref (r 0)), (1, .ref (q 0)), (0, .ref b)] []) : GW κ 4 82 21282 (wX q d I A ++ wM r g J B M) 802 [(3, .int i), (2, .ref (r 0)), (1, .ref (q 0)), (0, .ref b)] [] := by
  refine g_aload_n hk dL_law_802 rfl ?_
  refine g_aload_n hk dL_law_803 rfl ?_
  refine g_iload_n hk dL_law_804 rfl ?_
  refine g_iconst (v := 1) hk dL_law_805 (by decide) ?_
  refine g_iadd hk dL_law_806 ?_
  refine g_topi (fun y1 ey1 => ?_)
  have hy1 : y1.toInt = i.toInt + 1 := i32_add ey1 rfl (by decide) (by omega) (by omega)
  refine g_sld (v := xs y1.toNatClampNeg) hk hX (vp_in_iff.mpr ⟨by omega, by omega⟩) rfl dL_law_807 ?_
  refine g_aload_n hk dL_law_808 rfl ?_
  refine g_iload_n hk dL_law_809 rfl ?_
  refine g_iconst (v := 2) hk dL_law_810 (by decide) ?_
  refine g_iadd hk dL_law_811 ?_
  refine g_topi (fun y2 ey2 => ?_)
  have hy2 : y2.toInt = i.toInt + 2 := i32_add ey2 rfl (by decide) (by omega) (by omega)
  refine g_sld (v := xs y2.toNatClampNeg) hk hX (vp_in_iff.mpr ⟨by omega, by omega⟩) rfl dL_law_812 ?_
  refine g_aload_n hk dL_law_813 rfl ?_
  refine g_iload_n hk dL_law_814 rfl ?_
  refine g_iconst (v := 3) hk dL_law_815 (by decide) ?_
  refine g_iadd hk dL_law_816 ?_
  refine g_topi (fun y3 ey3 => ?_)
  have hy3 : y3.toInt = i.toInt + 3 := i32_add ey3 rfl (by decide) (by omega) (by omega)
  refine g_sld (v := xs y3.toNatClampNeg) hk hX (vp_in_iff.mpr ⟨by omega, by omega⟩) rfl dL_law_817 ?_
  refine g_callV (n := 3) hk (k268_X11_match l D zt q d I A (xs y1.toNatClampNeg) (xs y2.toNatClampNeg) (xs y3.toNatClampNeg) hI) (SP.pre _ _) (fun q h => List.mem_append_left _ h) (gi_V zw_1143 zw_1144 zw_1145 zw_103 (gi_sub zi_k268_X11_match zg_k268_X11_match)) rfl rfl rfl (by decide +kernel) ⟨Nat.le_of_ble_eq_true rfl, Nat.le_of_ble_eq_true rfl⟩ 0 rfl rfl rfl rfl (Nat.le_of_ble_eq_true rfl) ⟨Nat.le_of_ble_eq_true rfl, Nat.le_of_ble_eq_true rfl⟩ dL_law_818 (fun v ty' w' hp hk' => ?_)
  obtain ⟨I5, A5, d5, a5, h5, v4, e5, rfl, rfl⟩ := hp
  show GW κ 4 82 21282 (wM r g J B M ++ wX q d I5 A5) 821 [(3, .int i), (2, .ref (r 0)), (1, .ref (q 0)), (0, .ref b)] [.int v4]
  refine g_pop hk dL_law_821 rfl ?_
  refine g_aload_n hk dL_law_822 rfl ?_
  refine g_aload_n hk dL_law_823 rfl ?_
  refine g_iload_n hk dL_law_824 rfl ?_
  refine g_iconst (v := 1) hk dL_law_825 (by decide) ?_
  refine g_iadd hk dL_law_826 ?_
  refine g_topi (fun y6 ey6 => ?_)
  have qy6 : y6 = y1 := ey6.trans ey1.symm
  subst qy6
  refine g_sld (v := xs y6.toNatClampNeg) hk hX (vp_in_iff.mpr ⟨by omega, by omega⟩) rfl dL_law_827 ?_
  refine g_aload_n hk dL_law_828 rfl ?_
  refine g_iload_n hk dL_law_829 rfl ?_
  refine g_iconst (v := 2) hk dL_law_830 (by decide) ?_
  refine g_iadd hk dL_law_831 ?_
  refine g_topi (fun y7 ey7 => ?_)
  have qy7 : y7 = y2 := ey7.trans ey2.symm
  subst qy7
  refine g_sld (v := xs y7.toNatClampNeg) hk hX (vp_in_iff.mpr ⟨by omega, by omega⟩) rfl dL_law_832 ?_
  refine g_aload_n hk dL_law_833 rfl ?_
  refine g_iload_n hk dL_law_834 rfl ?_
  refine g_iconst (v := 3) hk dL_law_835 (by decide) ?_
  refine g_iadd hk dL_law_836 ?_
  refine g_topi (fun y8 ey8 => ?_)
  have qy8 : y8 = y3 := ey8.trans ey3.symm
  subst qy8
  refine g_sld (v := xs y8.toNatClampNeg) hk hX (vp_in_iff.mpr ⟨by omega, by omega⟩) rfl dL_law_837 ?_
  refine g_callV (n := 3) hk (j190_X12_match l D zt r g J B M (xs y6.toNatClampNeg) (xs y7.toNatClampNeg) (xs y8.toNatClampNeg) hJ) (SP.pre _ _) (fun q h => List.mem_append_right _ h) (gi_V zw_1864 zw_1865 zw_1866 zw_115 (gi_sub zi_j190_X12_match zg_j190_X12_match)) rfl rfl rfl (by decide +kernel) ⟨Nat.le_of_ble_eq_true rfl, Nat.le_of_ble_eq_true rfl⟩ 0 rfl rfl rfl rfl (Nat.le_of_ble_eq_true rfl) ⟨Nat.le_of_ble_eq_true rfl, Nat.le_of_ble_eq_true rfl⟩ dL_law_838 (fun v ty' w' hp hk' => ?_)
  obtain ⟨I10, A10, L10, d10, a10, h10, v9, l10, e10, rfl, rfl⟩ := hp
  show GW κ 4 82 21282 (wX q d I5 A5 ++ wM r g I10 A10 L10) 841 [(3, .int i), (2, .ref (r 0)), (1, .ref (q 0)), (0, .ref b)] [.int v9]
  refine g_pop hk dL_law_841 rfl ?_
  refine g_goto (tgt := 1465) hk dL_law_842 (by decide) ?_
  exact tail I5 A5 I10 A10 L10 h5 h10 ⟨⟨(RT.keep hS.1.1 (d5 0 rfl) (a5 0 rfl) (d10 1 rfl) (a10 0 rfl) l10), (((d5 12 rfl).trans hS.1.2.1).trans (d10 10 rfl).symm), (((d5 13 rfl).trans hS.1.2.2).trans (d10 14 rfl).symm)⟩, (hS.2.1.keep (d5 17 rfl) (d5 18 rfl) (d5 20 rfl) (d5 21 rfl) (a5 7 rfl) (a5 10 rfl) (a5 11 rfl) (a5 12 rfl) (a5 13 rfl) (d10 22 rfl) (a10 17 rfl) (a10 22 rfl)), (hS.2.2.1.keep (d5 19 rfl) (a5 8 rfl) (a5 9 rfl) (d10 15 rfl) (a10 10 rfl) (a10 11 rfl) (a10 12 rfl)), (hS.2.2.2.keep (d5 22 rfl) (d5 23 rfl) (d5 24 rfl) (d5 25 rfl) (d5 26 rfl) (d5 27 rfl) (a5 15 rfl) (a5 16 rfl) (a5 17 rfl) (a5 18 rfl) (a5 19 rfl) (a5 20 rfl) (a10 27 rfl) (a10 28 rfl))⟩
set_option maxHeartbeats 4000000 in
set_option maxRecDepth 100000 in
theorem law_21 {κ : Cx} {l : Launch} {D : va_G} {zt : Nat × Nat × Nat × (Nat → Nat) × (Nat → Nat)} {q r : Nat → Nat} {d g : Nat → ClassId} {b L : Nat} {xs : Nat → Int32} (hk : GC κ l D zt code 4 RL lw_tbl (tyX d ++ tyM g) room_1) (hX : GX κ b L xs) (i : Int32) (h0 : 0 ≤ i.toInt) (h6 : i.toInt + 6 ≤ (L : Int)) (hL : L ≤ 3072) (I : Nat → Int32) (A : Nat → Nat → Int32) (J : Nat → Int32) (B : Nat → Nat → Int32) (M : Nat → Nat → Int64) (hI : IvX I A) (hJ : IvM J B) (hS : RA I A J B M) (tail : ∀ (I : Nat → Int32) (A : Nat → Nat → Int32) (J : Nat → Int32) (B : Nat → Nat → Int32) (M : Nat → Nat → Int64), IvX I A → IvM J B → RA I A J B M → GW κ 4 82 21282 (wX q d I A ++ wM r g J B M) 1465 [(3, .int i), (2, .ref (r 0)), (1, .ref (q 0)), (0, .ref b)] []) : GW κ 4 82 21282 (wX q d I A ++ wM r g J B M) 845 [(3, .int i), (2, .ref (r 0)), (1, .ref (q 0)), (0, .ref b)] [] := by
  refine g_aload_n hk dL_law_845 rfl ?_
  refine g_aload_n hk dL_law_846 rfl ?_
  refine g_iload_n hk dL_law_847 rfl ?_
  refine g_iconst (v := 1) hk dL_law_848 (by decide) ?_
  refine g_iadd hk dL_law_849 ?_
  refine g_topi (fun y1 ey1 => ?_)
  have hy1 : y1.toInt = i.toInt + 1 := i32_add ey1 rfl (by decide) (by omega) (by omega)
  refine g_sld (v := xs y1.toNatClampNeg) hk hX (vp_in_iff.mpr ⟨by omega, by omega⟩) rfl dL_law_850 ?_
  refine g_aload_n hk dL_law_851 rfl ?_
  refine g_iload_n hk dL_law_852 rfl ?_
  refine g_iconst (v := 2) hk dL_law_853 (by decide) ?_
  refine g_iadd hk dL_law_854 ?_
  refine g_topi (fun y2 ey2 => ?_)
  have hy2 : y2.toInt = i.toInt + 2 := i32_add ey2 rfl (by decide) (by omega) (by omega)
  refine g_sld (v := xs y2.toNatClampNeg) hk hX (vp_in_iff.mpr ⟨by omega, by omega⟩) rfl dL_law_855 ?_
  refine g_callV (n := 2) hk (k275_X11_within l D zt q d I A (xs y1.toNatClampNeg) (xs y2.toNatClampNeg) hI) (SP.pre _ _) (fun q h => List.mem_append_left _ h) (gi_V zw_1172 zw_1173 zw_1174 zw_103 (gi_sub zi_k275_X11_within zg_k275_X11_within)) rfl rfl rfl (by decide +kernel) ⟨Nat.le_of_ble_eq_true rfl, Nat.le_of_ble_eq_true rfl⟩ 0 rfl rfl rfl rfl (Nat.le_of_ble_eq_true rfl) ⟨Nat.le_of_ble_eq_true rfl, Nat.le_of_ble_eq_true rfl⟩ dL_law_856 (fun v ty' w' hp hk' => ?_)
  obtain ⟨I4, A4, d4, a4, h4, v3, e4, rfl, rfl⟩ := hp
  show GW κ 4 82 21282 (wM r g J B M ++ wX q d I4 A4) 859 [(3, .int i), (2, .ref (r 0)), (1, .ref (q 0)), (0, .ref b)] [.int v3]
  refine g_pop hk dL_law_859 rfl ?_
  refine g_aload_n hk dL_law_860 rfl ?_
  refine g_aload_n hk dL_law_861 rfl ?_
  refine g_iload_n hk dL_law_862 rfl ?_
  refine g_iconst (v := 1) hk dL_law_863 (by decide) ?_
  refine g_iadd hk dL_law_864 ?_
  refine g_topi (fun y5 ey5 => ?_)
  have qy5 : y5 = y1 := ey5.trans ey1.symm
  subst qy5
  refine g_sld (v := xs y5.toNatClampNeg) hk hX (vp_in_iff.mpr ⟨by omega, by omega⟩) rfl dL_law_865 ?_
  refine g_aload_n hk dL_law_866 rfl ?_
  refine g_iload_n hk dL_law_867 rfl ?_
  refine g_iconst (v := 2) hk dL_law_868 (by decide) ?_
  refine g_iadd hk dL_law_869 ?_
  refine g_topi (fun y6 ey6 => ?_)
  have qy6 : y6 = y2 := ey6.trans ey2.symm
  subst qy6
  refine g_sld (v := xs y6.toNatClampNeg) hk hX (vp_in_iff.mpr ⟨by omega, by omega⟩) rfl dL_law_870 ?_
  refine g_callV (n := 2) hk (j193_X12_within l D zt r g J B M (xs y5.toNatClampNeg) (xs y6.toNatClampNeg) hJ) (SP.pre _ _) (fun q h => List.mem_append_right _ h) (gi_V zw_1876 zw_1877 zw_1878 zw_115 (gi_sub zi_j193_X12_within zg_j193_X12_within)) rfl rfl rfl (by decide +kernel) ⟨Nat.le_of_ble_eq_true rfl, Nat.le_of_ble_eq_true rfl⟩ 0 rfl rfl rfl rfl (Nat.le_of_ble_eq_true rfl) ⟨Nat.le_of_ble_eq_true rfl, Nat.le_of_ble_eq_true rfl⟩ dL_law_871 (fun v ty' w' hp hk' => ?_)
  obtain ⟨I8, A8, L8, d8, a8, h8, v7, l8, e8, rfl, rfl⟩ := hp
  show GW κ 4 82 21282 (wX q d I4 A4 ++ wM r g I8 A8 L8) 874 [(3, .int i), (2, .ref (r 0)), (1, .ref (q 0)), (0, .ref b)] [.int v7]
  refine g_pop hk dL_law_874 rfl ?_
  refine g_goto (tgt := 1465) hk dL_law_875 (by decide) ?_
  exact tail I4 A4 I8 A8 L8 h4 h8 ⟨⟨(RT.keep hS.1.1 (d4 0 rfl) (a4 0 rfl) (d8 1 rfl) (a8 0 rfl) l8), (((d4 12 rfl).trans hS.1.2.1).trans (d8 10 rfl).symm), (((d4 13 rfl).trans hS.1.2.2).trans (d8 14 rfl).symm)⟩, (hS.2.1.keep (d4 17 rfl) (d4 18 rfl) (d4 20 rfl) (d4 21 rfl) (a4 7 rfl) (a4 10 rfl) (a4 11 rfl) (a4 12 rfl) (a4 13 rfl) (d8 22 rfl) (a8 17 rfl) (a8 22 rfl)), (hS.2.2.1.keep (d4 19 rfl) (a4 8 rfl) (a4 9 rfl) (d8 15 rfl) (a8 10 rfl) (a8 11 rfl) (a8 12 rfl)), (hS.2.2.2.keep (d4 22 rfl) (d4 23 rfl) (d4 24 rfl) (d4 25 rfl) (d4 26 rfl) (d4 27 rfl) (a4 15 rfl) (a4 16 rfl) (a4 17 rfl) (a4 18 rfl) (a4 19 rfl) (a4 20 rfl) (a8 27 rfl) (a8 28 rfl))⟩
set_option maxHeartbeats 4000000 in
set_option maxRecDepth 100000 in
theorem law_22 {κ : Cx} {l : Launch} {D : va_G} {zt : Nat × Nat × Nat × (Nat → Nat) × (Nat → Nat)} {q r : Nat → Nat} {d g : Nat → ClassId} {b L : Nat} {xs : Nat → Int32} (hk : GC κ l D zt code 4 RL lw_tbl (tyX d ++ tyM g) room_1) (hX : GX κ b L xs) (i : Int32) (h0 : 0 ≤ i.toInt) (h6 : i.toInt + 6 ≤ (L : Int)) (hL : L ≤ 3072) (I : Nat → Int32) (A : Nat → Nat → Int32) (J : Nat → Int32) (B : Nat → Nat → Int32) (M : Nat → Nat → Int64) (hI : IvX I A) (hJ : IvM J B) (hS : RA I A J B M) (tail : ∀ (I : Nat → Int32) (A : Nat → Nat → Int32) (J : Nat → Int32) (B : Nat → Nat → Int32) (M : Nat → Nat → Int64), IvX I A → IvM J B → RA I A J B M → GW κ 4 82 21282 (wX q d I A ++ wM r g J B M) 1465 [(3, .int i), (2, .ref (r 0)), (1, .ref (q 0)), (0, .ref b)] []) : GW κ 4 82 21282 (wX q d I A ++ wM r g J B M) 878 [(3, .int i), (2, .ref (r 0)), (1, .ref (q 0)), (0, .ref b)] [] := by
  refine g_aload_n hk dL_law_878 rfl ?_
  refine g_aload_n hk dL_law_879 rfl ?_
  refine g_iload_n hk dL_law_880 rfl ?_
  refine g_iconst (v := 1) hk dL_law_881 (by decide) ?_
  refine g_iadd hk dL_law_882 ?_
  refine g_topi (fun y1 ey1 => ?_)
  have hy1 : y1.toInt = i.toInt + 1 := i32_add ey1 rfl (by decide) (by omega) (by omega)
  refine g_sld (v := xs y1.toNatClampNeg) hk hX (vp_in_iff.mpr ⟨by omega, by omega⟩) rfl dL_law_883 ?_
  refine g_aload_n hk dL_law_884 rfl ?_
  refine g_iload_n hk dL_law_885 rfl ?_
  refine g_iconst (v := 2) hk dL_law_886 (by decide) ?_
  refine g_iadd hk dL_law_887 ?_
  refine g_topi (fun y2 ey2 => ?_)
  have hy2 : y2.toInt = i.toInt + 2 := i32_add ey2 rfl (by decide) (by omega) (by omega)
  refine g_sld (v := xs y2.toNatClampNeg) hk hX (vp_in_iff.mpr ⟨by omega, by omega⟩) rfl dL_law_888 ?_
  refine g_aload_n hk dL_law_889 rfl ?_
  refine g_iload_n hk dL_law_890 rfl ?_
  refine g_iconst (v := 3) hk dL_law_891 (by decide) ?_
  refine g_iadd hk dL_law_892 ?_
  refine g_topi (fun y3 ey3 => ?_)
  have hy3 : y3.toInt = i.toInt + 3 := i32_add ey3 rfl (by decide) (by omega) (by omega)
  refine g_sld (v := xs y3.toNatClampNeg) hk hX (vp_in_iff.mpr ⟨by omega, by omega⟩) rfl dL_law_893 ?_
  refine g_callV (n := 3) hk (k248_X11_way l D zt q d I A (xs y1.toNatClampNeg) (xs y2.toNatClampNeg) (xs y3.toNatClampNeg) hI) (SP.pre _ _) (fun q h => List.mem_append_left _ h) (gi_V zw_1050 zw_1051 zw_1052 zw_103 (gi_sub zi_k248_X11_way zg_k248_X11_way)) rfl rfl rfl (by decide +kernel) ⟨Nat.le_of_ble_eq_true rfl, Nat.le_of_ble_eq_true rfl⟩ 0 rfl rfl rfl rfl (Nat.le_of_ble_eq_true rfl) ⟨Nat.le_of_ble_eq_true rfl, Nat.le_of_ble_eq_true rfl⟩ dL_law_894 (fun v ty' w' hp hk' => ?_)
  obtain ⟨I5, A5, d5, a5, h5, v4, e5, rfl, rfl⟩ := hp
  show GW κ 4 82 21282 (wM r g J B M ++ wX q d I5 A5) 897 [(3, .int i), (2, .ref (r 0)), (1, .ref (q 0)), (0, .ref b)] [.int v4]
  refine g_pop hk dL_law_897 rfl ?_
  refine g_aload_n hk dL_law_898 rfl ?_
  refine g_aload_n hk dL_law_899 rfl ?_
  refine g_iload_n hk dL_law_900 rfl ?_
  refine g_iconst (v := 1) hk dL_law_901 (by decide) ?_
  refine g_iadd hk dL_law_902 ?_
  refine g_topi (fun y6 ey6 => ?_)
  have qy6 : y6 = y1 := ey6.trans ey1.symm
  subst qy6
  refine g_sld (v := xs y6.toNatClampNeg) hk hX (vp_in_iff.mpr ⟨by omega, by omega⟩) rfl dL_law_903 ?_
  refine g_aload_n hk dL_law_904 rfl ?_
  refine g_iload_n hk dL_law_905 rfl ?_
  refine g_iconst (v := 2) hk dL_law_906 (by decide) ?_
  refine g_iadd hk dL_law_907 ?_
  refine g_topi (fun y7 ey7 => ?_)
  have qy7 : y7 = y2 := ey7.trans ey2.symm
  subst qy7
  refine g_sld (v := xs y7.toNatClampNeg) hk hX (vp_in_iff.mpr ⟨by omega, by omega⟩) rfl dL_law_908 ?_
  refine g_aload_n hk dL_law_909 rfl ?_
  refine g_iload_n hk dL_law_910 rfl ?_
  refine g_iconst (v := 3) hk dL_law_911 (by decide) ?_
  refine g_iadd hk dL_law_912 ?_
  refine g_topi (fun y8 ey8 => ?_)
  have qy8 : y8 = y3 := ey8.trans ey3.symm
  subst qy8
  refine g_sld (v := xs y8.toNatClampNeg) hk hX (vp_in_iff.mpr ⟨by omega, by omega⟩) rfl dL_law_913 ?_
  refine g_callV (n := 3) hk (j194_X12_way l D zt r g J B M (xs y6.toNatClampNeg) (xs y7.toNatClampNeg) (xs y8.toNatClampNeg) hJ) (SP.pre _ _) (fun q h => List.mem_append_right _ h) (gi_V zw_1828 zw_1829 zw_1830 zw_115 (gi_sub zi_j194_X12_way zg_j194_X12_way)) rfl rfl rfl (by decide +kernel) ⟨Nat.le_of_ble_eq_true rfl, Nat.le_of_ble_eq_true rfl⟩ 0 rfl rfl rfl rfl (Nat.le_of_ble_eq_true rfl) ⟨Nat.le_of_ble_eq_true rfl, Nat.le_of_ble_eq_true rfl⟩ dL_law_914 (fun v ty' w' hp hk' => ?_)
  obtain ⟨I10, A10, L10, d10, a10, h10, v9, l10, e10, rfl, rfl⟩ := hp
  show GW κ 4 82 21282 (wX q d I5 A5 ++ wM r g I10 A10 L10) 917 [(3, .int i), (2, .ref (r 0)), (1, .ref (q 0)), (0, .ref b)] [.int v9]
  refine g_pop hk dL_law_917 rfl ?_
  refine g_goto (tgt := 1465) hk dL_law_918 (by decide) ?_
  exact tail I5 A5 I10 A10 L10 h5 h10 ⟨⟨(RT.keep hS.1.1 (d5 0 rfl) (a5 0 rfl) (d10 1 rfl) (a10 0 rfl) l10), (((d5 12 rfl).trans hS.1.2.1).trans (d10 10 rfl).symm), (((d5 13 rfl).trans hS.1.2.2).trans (d10 14 rfl).symm)⟩, (hS.2.1.keep (d5 17 rfl) (d5 18 rfl) (d5 20 rfl) (d5 21 rfl) (a5 7 rfl) (a5 10 rfl) (a5 11 rfl) (a5 12 rfl) (a5 13 rfl) (d10 22 rfl) (a10 17 rfl) (a10 22 rfl)), (hS.2.2.1.keep (d5 19 rfl) (a5 8 rfl) (a5 9 rfl) (d10 15 rfl) (a10 10 rfl) (a10 11 rfl) (a10 12 rfl)), (hS.2.2.2.keep (d5 22 rfl) (d5 23 rfl) (d5 24 rfl) (d5 25 rfl) (d5 26 rfl) (d5 27 rfl) (a5 15 rfl) (a5 16 rfl) (a5 17 rfl) (a5 18 rfl) (a5 19 rfl) (a5 20 rfl) (a10 27 rfl) (a10 28 rfl))⟩
set_option maxHeartbeats 4000000 in
set_option maxRecDepth 100000 in
theorem law_23 {κ : Cx} {l : Launch} {D : va_G} {zt : Nat × Nat × Nat × (Nat → Nat) × (Nat → Nat)} {q r : Nat → Nat} {d g : Nat → ClassId} {b L : Nat} {xs : Nat → Int32} (hk : GC κ l D zt code 4 RL lw_tbl (tyX d ++ tyM g) room_1) (hX : GX κ b L xs) (i : Int32) (h0 : 0 ≤ i.toInt) (h6 : i.toInt + 6 ≤ (L : Int)) (hL : L ≤ 3072) (I : Nat → Int32) (A : Nat → Nat → Int32) (J : Nat → Int32) (B : Nat → Nat → Int32) (M : Nat → Nat → Int64) (hI : IvX I A) (hJ : IvM J B) (hS : RA I A J B M) (tail : ∀ (I : Nat → Int32) (A : Nat → Nat → Int32) (J : Nat → Int32) (B : Nat → Nat → Int32) (M : Nat → Nat → Int64), IvX I A → IvM J B → RA I A J B M → GW κ 4 82 21282 (wX q d I A ++ wM r g J B M) 1465 [(3, .int i), (2, .ref (r 0)), (1, .ref (q 0)), (0, .ref b)] []) : GW κ 4 82 21282 (wX q d I A ++ wM r g J B M) 921 [(3, .int i), (2, .ref (r 0)), (1, .ref (q 0)), (0, .ref b)] [] := by
  refine g_aload_n hk dL_law_921 rfl ?_
  refine g_aload_n hk dL_law_922 rfl ?_
  refine g_iload_n hk dL_law_923 rfl ?_
  refine g_iconst (v := 1) hk dL_law_924 (by decide) ?_
  refine g_iadd hk dL_law_925 ?_
  refine g_topi (fun y1 ey1 => ?_)
  have hy1 : y1.toInt = i.toInt + 1 := i32_add ey1 rfl (by decide) (by omega) (by omega)
  refine g_sld (v := xs y1.toNatClampNeg) hk hX (vp_in_iff.mpr ⟨by omega, by omega⟩) rfl dL_law_926 ?_
  refine g_aload_n hk dL_law_927 rfl ?_
  refine g_iload_n hk dL_law_928 rfl ?_
  refine g_iconst (v := 2) hk dL_law_929 (by decide) ?_
  refine g_iadd hk dL_law_930 ?_
  refine g_topi (fun y2 ey2 => ?_)
  have hy2 : y2.toInt = i.toInt + 2 := i32_add ey2 rfl (by decide) (by omega) (by omega)
  refine g_sld (v := xs y2.toNatClampNeg) hk hX (vp_in_iff.mpr ⟨by omega, by omega⟩) rfl dL_law_931 ?_
  refine g_callV (n := 2) hk (k280_X11_needs l D zt q d I A (xs y1.toNatClampNeg) (xs y2.toNatClampNeg) hI) (SP.pre _ _) (fun q h => List.mem_append_left _ h) (gi_V zw_1194 zw_1195 zw_1196 zw_103 (gi_sub zi_k280_X11_needs zg_k280_X11_needs)) rfl rfl rfl (by decide +kernel) ⟨Nat.le_of_ble_eq_true rfl, Nat.le_of_ble_eq_true rfl⟩ 0 rfl rfl rfl rfl (Nat.le_of_ble_eq_true rfl) ⟨Nat.le_of_ble_eq_true rfl, Nat.le_of_ble_eq_true rfl⟩ dL_law_932 (fun v ty' w' hp hk' => ?_)
  obtain ⟨I4, A4, d4, a4, h4, v3, c5, c6, e4, rfl, rfl⟩ := hp
  show GW κ 4 82 21282 (wM r g J B M ++ wX q d I4 A4) 935 [(3, .int i), (2, .ref (r 0)), (1, .ref (q 0)), (0, .ref b)] [.int v3]
  refine g_pop hk dL_law_935 rfl ?_
  refine g_aload_n hk dL_law_936 rfl ?_
  refine g_aload_n hk dL_law_937 rfl ?_
  refine g_iload_n hk dL_law_938 rfl ?_
  refine g_iconst (v := 1) hk dL_law_939 (by decide) ?_
  refine g_iadd hk dL_law_940 ?_
  refine g_topi (fun y7 ey7 => ?_)
  have qy7 : y7 = y1 := ey7.trans ey1.symm
  subst qy7
  refine g_sld (v := xs y7.toNatClampNeg) hk hX (vp_in_iff.mpr ⟨by omega, by omega⟩) rfl dL_law_941 ?_
  refine g_aload_n hk dL_law_942 rfl ?_
  refine g_iload_n hk dL_law_943 rfl ?_
  refine g_iconst (v := 2) hk dL_law_944 (by decide) ?_
  refine g_iadd hk dL_law_945 ?_
  refine g_topi (fun y8 ey8 => ?_)
  have qy8 : y8 = y2 := ey8.trans ey2.symm
  subst qy8
  refine g_sld (v := xs y8.toNatClampNeg) hk hX (vp_in_iff.mpr ⟨by omega, by omega⟩) rfl dL_law_946 ?_
  refine g_callV (n := 2) hk (j196_X12_needs l D zt r g J B M (xs y7.toNatClampNeg) (xs y8.toNatClampNeg) hJ) (SP.pre _ _) (fun q h => List.mem_append_right _ h) (gi_V zw_1852 zw_1853 zw_1854 zw_115 (gi_sub zi_j196_X12_needs zg_j196_X12_needs)) rfl rfl rfl (by decide +kernel) ⟨Nat.le_of_ble_eq_true rfl, Nat.le_of_ble_eq_true rfl⟩ 0 rfl rfl rfl rfl (Nat.le_of_ble_eq_true rfl) ⟨Nat.le_of_ble_eq_true rfl, Nat.le_of_ble_eq_true rfl⟩ dL_law_947 (fun v ty' w' hp hk' => ?_)
  obtain ⟨I10, A10, L10, d10, a10, h10, v9, l10, c11, c12, e10, rfl, rfl⟩ := hp
  show GW κ 4 82 21282 (wX q d I4 A4 ++ wM r g I10 A10 L10) 950 [(3, .int i), (2, .ref (r 0)), (1, .ref (q 0)), (0, .ref b)] [.int v9]
  refine g_pop hk dL_law_950 rfl ?_
  refine g_goto (tgt := 1465) hk dL_law_951 (by decide) ?_
  exact tail I4 A4 I10 A10 L10 h4 h10 ⟨⟨(RT.keep hS.1.1 (d4 0 rfl) (a4 0 rfl) (d10 1 rfl) (a10 0 rfl) l10), (((d4 12 rfl).trans hS.1.2.1).trans (d10 10 rfl).symm), (((d4 13 rfl).trans hS.1.2.2).trans (d10 14 rfl).symm)⟩, (hS.2.1.keep (d4 17 rfl) (d4 18 rfl) (d4 20 rfl) (d4 21 rfl) (a4 7 rfl) (a4 10 rfl) (a4 11 rfl) (a4 12 rfl) (a4 13 rfl) (d10 22 rfl) (needs_17 e10 h10) (a10 22 rfl)), (hS.2.2.1.keep (d4 19 rfl) (a4 8 rfl) (a4 9 rfl) (d10 15 rfl) (a10 10 rfl) (a10 11 rfl) (a10 12 rfl)), (hS.2.2.2.keep (d4 22 rfl) (d4 23 rfl) (d4 24 rfl) (d4 25 rfl) (d4 26 rfl) (d4 27 rfl) (a4 15 rfl) (a4 16 rfl) (a4 17 rfl) (a4 18 rfl) (a4 19 rfl) (a4 20 rfl) (a10 27 rfl) (a10 28 rfl))⟩
set_option maxHeartbeats 4000000 in
set_option maxRecDepth 100000 in
theorem law_24 {κ : Cx} {l : Launch} {D : va_G} {zt : Nat × Nat × Nat × (Nat → Nat) × (Nat → Nat)} {q r : Nat → Nat} {d g : Nat → ClassId} {b L : Nat} {xs : Nat → Int32} (hk : GC κ l D zt code 4 RL lw_tbl (tyX d ++ tyM g) room_1) (hX : GX κ b L xs) (i : Int32) (h0 : 0 ≤ i.toInt) (h6 : i.toInt + 6 ≤ (L : Int)) (hL : L ≤ 3072) (I : Nat → Int32) (A : Nat → Nat → Int32) (J : Nat → Int32) (B : Nat → Nat → Int32) (M : Nat → Nat → Int64) (hI : IvX I A) (hJ : IvM J B) (hS : RA I A J B M) (tail : ∀ (I : Nat → Int32) (A : Nat → Nat → Int32) (J : Nat → Int32) (B : Nat → Nat → Int32) (M : Nat → Nat → Int64), IvX I A → IvM J B → RA I A J B M → GW κ 4 82 21282 (wX q d I A ++ wM r g J B M) 1465 [(3, .int i), (2, .ref (r 0)), (1, .ref (q 0)), (0, .ref b)] []) : GW κ 4 82 21282 (wX q d I A ++ wM r g J B M) 954 [(3, .int i), (2, .ref (r 0)), (1, .ref (q 0)), (0, .ref b)] [] := by
  refine g_aload_n hk dL_law_954 rfl ?_
  refine g_aload_n hk dL_law_955 rfl ?_
  refine g_iload_n hk dL_law_956 rfl ?_
  refine g_iconst (v := 1) hk dL_law_957 (by decide) ?_
  refine g_iadd hk dL_law_958 ?_
  refine g_topi (fun y1 ey1 => ?_)
  have hy1 : y1.toInt = i.toInt + 1 := i32_add ey1 rfl (by decide) (by omega) (by omega)
  refine g_sld (v := xs y1.toNatClampNeg) hk hX (vp_in_iff.mpr ⟨by omega, by omega⟩) rfl dL_law_959 ?_
  refine g_aload_n hk dL_law_960 rfl ?_
  refine g_iload_n hk dL_law_961 rfl ?_
  refine g_iconst (v := 2) hk dL_law_962 (by decide) ?_
  refine g_iadd hk dL_law_963 ?_
  refine g_topi (fun y2 ey2 => ?_)
  have hy2 : y2.toInt = i.toInt + 2 := i32_add ey2 rfl (by decide) (by omega) (by omega)
  refine g_sld (v := xs y2.toNatClampNeg) hk hX (vp_in_iff.mpr ⟨by omega, by omega⟩) rfl dL_law_964 ?_
  refine g_callV (n := 2) hk (k255_X11_alike l D zt q d I A (xs y1.toNatClampNeg) (xs y2.toNatClampNeg) hI) (SP.pre _ _) (fun q h => List.mem_append_left _ h) (gi_V zw_1082 zw_1083 zw_1084 zw_103 (gi_sub zi_k255_X11_alike zg_k255_X11_alike)) rfl rfl rfl (by decide +kernel) ⟨Nat.le_of_ble_eq_true rfl, Nat.le_of_ble_eq_true rfl⟩ 0 rfl rfl rfl rfl (Nat.le_of_ble_eq_true rfl) ⟨Nat.le_of_ble_eq_true rfl, Nat.le_of_ble_eq_true rfl⟩ dL_law_965 (fun v ty' w' hp hk' => ?_)
  obtain ⟨I4, A4, d4, a4, h4, v3, e4, rfl, rfl⟩ := hp
  show GW κ 4 82 21282 (wM r g J B M ++ wX q d I4 A4) 968 [(3, .int i), (2, .ref (r 0)), (1, .ref (q 0)), (0, .ref b)] [.int v3]
  refine g_pop hk dL_law_968 rfl ?_
  refine g_aload_n hk dL_law_969 rfl ?_
  refine g_aload_n hk dL_law_970 rfl ?_
  refine g_iload_n hk dL_law_971 rfl ?_
  refine g_iconst (v := 1) hk dL_law_972 (by decide) ?_
  refine g_iadd hk dL_law_973 ?_
  refine g_topi (fun y5 ey5 => ?_)
  have qy5 : y5 = y1 := ey5.trans ey1.symm
  subst qy5
  refine g_sld (v := xs y5.toNatClampNeg) hk hX (vp_in_iff.mpr ⟨by omega, by omega⟩) rfl dL_law_974 ?_
  refine g_aload_n hk dL_law_975 rfl ?_
  refine g_iload_n hk dL_law_976 rfl ?_
  refine g_iconst (v := 2) hk dL_law_977 (by decide) ?_
  refine g_iadd hk dL_law_978 ?_
  refine g_topi (fun y6 ey6 => ?_)
  have qy6 : y6 = y2 := ey6.trans ey2.symm
  subst qy6
  refine g_sld (v := xs y6.toNatClampNeg) hk hX (vp_in_iff.mpr ⟨by omega, by omega⟩) rfl dL_law_979 ?_
  refine g_callV (n := 2) hk (j197_X12_alike l D zt r g J B M (xs y5.toNatClampNeg) (xs y6.toNatClampNeg) hJ) (SP.pre _ _) (fun q h => List.mem_append_right _ h) (gi_V zw_1824 zw_1825 zw_1826 zw_115 (gi_sub zi_j197_X12_alike zg_j197_X12_alike)) rfl rfl rfl (by decide +kernel) ⟨Nat.le_of_ble_eq_true rfl, Nat.le_of_ble_eq_true rfl⟩ 0 rfl rfl rfl rfl (Nat.le_of_ble_eq_true rfl) ⟨Nat.le_of_ble_eq_true rfl, Nat.le_of_ble_eq_true rfl⟩ dL_law_980 (fun v ty' w' hp hk' => ?_)
  obtain ⟨I8, A8, L8, d8, a8, h8, v7, l8, e8, rfl, rfl⟩ := hp
  show GW κ 4 82 21282 (wX q d I4 A4 ++ wM r g I8 A8 L8) 983 [(3, .int i), (2, .ref (r 0)), (1, .ref (q 0)), (0, .ref b)] [.int v7]
  refine g_pop hk dL_law_983 rfl ?_
  refine g_goto (tgt := 1465) hk dL_law_984 (by decide) ?_
  exact tail I4 A4 I8 A8 L8 h4 h8 ⟨⟨(RT.keep hS.1.1 (d4 0 rfl) (a4 0 rfl) (d8 1 rfl) (a8 0 rfl) l8), (((d4 12 rfl).trans hS.1.2.1).trans (d8 10 rfl).symm), (((d4 13 rfl).trans hS.1.2.2).trans (d8 14 rfl).symm)⟩, (hS.2.1.keep (d4 17 rfl) (d4 18 rfl) (d4 20 rfl) (d4 21 rfl) (a4 7 rfl) (a4 10 rfl) (a4 11 rfl) (a4 12 rfl) (a4 13 rfl) (d8 22 rfl) (a8 17 rfl) (a8 22 rfl)), (hS.2.2.1.keep (d4 19 rfl) (a4 8 rfl) (a4 9 rfl) (d8 15 rfl) (a8 10 rfl) (a8 11 rfl) (a8 12 rfl)), (hS.2.2.2.keep (d4 22 rfl) (d4 23 rfl) (d4 24 rfl) (d4 25 rfl) (d4 26 rfl) (d4 27 rfl) (a4 15 rfl) (a4 16 rfl) (a4 17 rfl) (a4 18 rfl) (a4 19 rfl) (a4 20 rfl) (a8 27 rfl) (a8 28 rfl))⟩
set_option maxHeartbeats 4000000 in
set_option maxRecDepth 100000 in
theorem law_25 {κ : Cx} {l : Launch} {D : va_G} {zt : Nat × Nat × Nat × (Nat → Nat) × (Nat → Nat)} {q r : Nat → Nat} {d g : Nat → ClassId} {b L : Nat} {xs : Nat → Int32} (hk : GC κ l D zt code 4 RL lw_tbl (tyX d ++ tyM g) room_1) (hX : GX κ b L xs) (i : Int32) (h0 : 0 ≤ i.toInt) (h6 : i.toInt + 6 ≤ (L : Int)) (hL : L ≤ 3072) (I : Nat → Int32) (A : Nat → Nat → Int32) (J : Nat → Int32) (B : Nat → Nat → Int32) (M : Nat → Nat → Int64) (hI : IvX I A) (hJ : IvM J B) (hS : RA I A J B M) (tail : ∀ (I : Nat → Int32) (A : Nat → Nat → Int32) (J : Nat → Int32) (B : Nat → Nat → Int32) (M : Nat → Nat → Int64), IvX I A → IvM J B → RA I A J B M → GW κ 4 82 21282 (wX q d I A ++ wM r g J B M) 1465 [(3, .int i), (2, .ref (r 0)), (1, .ref (q 0)), (0, .ref b)] []) : GW κ 4 82 21282 (wX q d I A ++ wM r g J B M) 987 [(3, .int i), (2, .ref (r 0)), (1, .ref (q 0)), (0, .ref b)] [] := by
  refine g_aload_n hk dL_law_987 rfl ?_
  refine g_aload_n hk dL_law_988 rfl ?_
  refine g_iload_n hk dL_law_989 rfl ?_
  refine g_iconst (v := 1) hk dL_law_990 (by decide) ?_
  refine g_iadd hk dL_law_991 ?_
  refine g_topi (fun y1 ey1 => ?_)
  have hy1 : y1.toInt = i.toInt + 1 := i32_add ey1 rfl (by decide) (by omega) (by omega)
  refine g_sld (v := xs y1.toNatClampNeg) hk hX (vp_in_iff.mpr ⟨by omega, by omega⟩) rfl dL_law_992 ?_
  refine g_aload_n hk dL_law_993 rfl ?_
  refine g_iload_n hk dL_law_994 rfl ?_
  refine g_iconst (v := 2) hk dL_law_995 (by decide) ?_
  refine g_iadd hk dL_law_996 ?_
  refine g_topi (fun y2 ey2 => ?_)
  have hy2 : y2.toInt = i.toInt + 2 := i32_add ey2 rfl (by decide) (by omega) (by omega)
  refine g_sld (v := xs y2.toNatClampNeg) hk hX (vp_in_iff.mpr ⟨by omega, by omega⟩) rfl dL_law_997 ?_
  refine g_aload_n hk dL_law_998 rfl ?_
  refine g_iload_n hk dL_law_999 rfl ?_
  refine g_iconst (v := 3) hk dL_law_1000 (by decide) ?_
  refine g_iadd hk dL_law_1001 ?_
  refine g_topi (fun y3 ey3 => ?_)
  have hy3 : y3.toInt = i.toInt + 3 := i32_add ey3 rfl (by decide) (by omega) (by omega)
  refine g_sld (v := xs y3.toNatClampNeg) hk hX (vp_in_iff.mpr ⟨by omega, by omega⟩) rfl dL_law_1002 ?_
  refine g_callV (n := 3) hk (k291_X11_near l D zt q d I A (xs y1.toNatClampNeg) (xs y2.toNatClampNeg) (xs y3.toNatClampNeg) hI) (SP.pre _ _) (fun q h => List.mem_append_left _ h) (gi_V zw_1247 zw_1248 zw_1249 zw_103 (gi_sub zi_k291_X11_near zg_k291_X11_near)) rfl rfl rfl (by decide +kernel) ⟨Nat.le_of_ble_eq_true rfl, Nat.le_of_ble_eq_true rfl⟩ 0 rfl rfl rfl rfl (Nat.le_of_ble_eq_true rfl) ⟨Nat.le_of_ble_eq_true rfl, Nat.le_of_ble_eq_true rfl⟩ dL_law_1003 (fun v ty' w' hp hk' => ?_)
  obtain ⟨I5, A5, d5, a5, h5, v4, e5, rfl, rfl⟩ := hp
  show GW κ 4 82 21282 (wM r g J B M ++ wX q d I5 A5) 1006 [(3, .int i), (2, .ref (r 0)), (1, .ref (q 0)), (0, .ref b)] [.int v4]
  refine g_pop hk dL_law_1006 rfl ?_
  refine g_aload_n hk dL_law_1007 rfl ?_
  refine g_aload_n hk dL_law_1008 rfl ?_
  refine g_iload_n hk dL_law_1009 rfl ?_
  refine g_iconst (v := 1) hk dL_law_1010 (by decide) ?_
  refine g_iadd hk dL_law_1011 ?_
  refine g_topi (fun y6 ey6 => ?_)
  have qy6 : y6 = y1 := ey6.trans ey1.symm
  subst qy6
  refine g_sld (v := xs y6.toNatClampNeg) hk hX (vp_in_iff.mpr ⟨by omega, by omega⟩) rfl dL_law_1012 ?_
  refine g_aload_n hk dL_law_1013 rfl ?_
  refine g_iload_n hk dL_law_1014 rfl ?_
  refine g_iconst (v := 2) hk dL_law_1015 (by decide) ?_
  refine g_iadd hk dL_law_1016 ?_
  refine g_topi (fun y7 ey7 => ?_)
  have qy7 : y7 = y2 := ey7.trans ey2.symm
  subst qy7
  refine g_sld (v := xs y7.toNatClampNeg) hk hX (vp_in_iff.mpr ⟨by omega, by omega⟩) rfl dL_law_1017 ?_
  refine g_aload_n hk dL_law_1018 rfl ?_
  refine g_iload_n hk dL_law_1019 rfl ?_
  refine g_iconst (v := 3) hk dL_law_1020 (by decide) ?_
  refine g_iadd hk dL_law_1021 ?_
  refine g_topi (fun y8 ey8 => ?_)
  have qy8 : y8 = y3 := ey8.trans ey3.symm
  subst qy8
  refine g_sld (v := xs y8.toNatClampNeg) hk hX (vp_in_iff.mpr ⟨by omega, by omega⟩) rfl dL_law_1022 ?_
  refine g_callV (n := 3) hk (j198_X12_near l D zt r g J B M (xs y6.toNatClampNeg) (xs y7.toNatClampNeg) (xs y8.toNatClampNeg) hJ) (SP.pre _ _) (fun q h => List.mem_append_right _ h) (gi_V zw_1915 zw_1916 zw_1917 zw_115 (gi_sub zi_j198_X12_near zg_j198_X12_near)) rfl rfl rfl (by decide +kernel) ⟨Nat.le_of_ble_eq_true rfl, Nat.le_of_ble_eq_true rfl⟩ 0 rfl rfl rfl rfl (Nat.le_of_ble_eq_true rfl) ⟨Nat.le_of_ble_eq_true rfl, Nat.le_of_ble_eq_true rfl⟩ dL_law_1023 (fun v ty' w' hp hk' => ?_)
  obtain ⟨I10, A10, L10, d10, a10, h10, v9, l10, e10, rfl, rfl⟩ := hp
  show GW κ 4 82 21282 (wX q d I5 A5 ++ wM r g I10 A10 L10) 1026 [(3, .int i), (2, .ref (r 0)), (1, .ref (q 0)), (0, .ref b)] [.int v9]
  refine g_pop hk dL_law_1026 rfl ?_
  refine g_goto (tgt := 1465) hk dL_law_1027 (by decide) ?_
  exact tail I5 A5 I10 A10 L10 h5 h10 ⟨⟨(RT.keep hS.1.1 (d5 0 rfl) (a5 0 rfl) (d10 1 rfl) (a10 0 rfl) l10), (((d5 12 rfl).trans hS.1.2.1).trans (d10 10 rfl).symm), (((d5 13 rfl).trans hS.1.2.2).trans (d10 14 rfl).symm)⟩, (hS.2.1.keep (d5 17 rfl) (d5 18 rfl) (d5 20 rfl) (d5 21 rfl) (a5 7 rfl) (a5 10 rfl) (a5 11 rfl) (a5 12 rfl) (a5 13 rfl) (d10 22 rfl) (a10 17 rfl) (a10 22 rfl)), (hS.2.2.1.keep (d5 19 rfl) (a5 8 rfl) (a5 9 rfl) (d10 15 rfl) (a10 10 rfl) (a10 11 rfl) (a10 12 rfl)), (hS.2.2.2.keep (d5 22 rfl) (d5 23 rfl) (d5 24 rfl) (d5 25 rfl) (d5 26 rfl) (d5 27 rfl) (a5 15 rfl) (a5 16 rfl) (a5 17 rfl) (a5 18 rfl) (a5 19 rfl) (a5 20 rfl) (a10 27 rfl) (a10 28 rfl))⟩
set_option maxHeartbeats 4000000 in
set_option maxRecDepth 100000 in
theorem law_26 {κ : Cx} {l : Launch} {D : va_G} {zt : Nat × Nat × Nat × (Nat → Nat) × (Nat → Nat)} {q r : Nat → Nat} {d g : Nat → ClassId} {b L : Nat} {xs : Nat → Int32} (hk : GC κ l D zt code 4 RL lw_tbl (tyX d ++ tyM g) room_1) (hX : GX κ b L xs) (i : Int32) (h0 : 0 ≤ i.toInt) (h6 : i.toInt + 6 ≤ (L : Int)) (hL : L ≤ 3072) (I : Nat → Int32) (A : Nat → Nat → Int32) (J : Nat → Int32) (B : Nat → Nat → Int32) (M : Nat → Nat → Int64) (hI : IvX I A) (hJ : IvM J B) (hS : RA I A J B M) (tail : ∀ (I : Nat → Int32) (A : Nat → Nat → Int32) (J : Nat → Int32) (B : Nat → Nat → Int32) (M : Nat → Nat → Int64), IvX I A → IvM J B → RA I A J B M → GW κ 4 82 21282 (wX q d I A ++ wM r g J B M) 1465 [(3, .int i), (2, .ref (r 0)), (1, .ref (q 0)), (0, .ref b)] []) : GW κ 4 82 21282 (wX q d I A ++ wM r g J B M) 1030 [(3, .int i), (2, .ref (r 0)), (1, .ref (q 0)), (0, .ref b)] [] := by
  refine g_aload_n hk dL_law_1030 rfl ?_
  refine g_aload_n hk dL_law_1031 rfl ?_
  refine g_iload_n hk dL_law_1032 rfl ?_
  refine g_iconst (v := 1) hk dL_law_1033 (by decide) ?_
  refine g_iadd hk dL_law_1034 ?_
  refine g_topi (fun y1 ey1 => ?_)
  have hy1 : y1.toInt = i.toInt + 1 := i32_add ey1 rfl (by decide) (by omega) (by omega)
  refine g_sld (v := xs y1.toNatClampNeg) hk hX (vp_in_iff.mpr ⟨by omega, by omega⟩) rfl dL_law_1035 ?_
  refine g_aload_n hk dL_law_1036 rfl ?_
  refine g_iload_n hk dL_law_1037 rfl ?_
  refine g_iconst (v := 2) hk dL_law_1038 (by decide) ?_
  refine g_iadd hk dL_law_1039 ?_
  refine g_topi (fun y2 ey2 => ?_)
  have hy2 : y2.toInt = i.toInt + 2 := i32_add ey2 rfl (by decide) (by omega) (by omega)
  refine g_sld (v := xs y2.toNatClampNeg) hk hX (vp_in_iff.mpr ⟨by omega, by omega⟩) rfl dL_law_1040 ?_
  refine g_callV (n := 2) hk (k301_X11_pair l D zt q d I A (xs y1.toNatClampNeg) (xs y2.toNatClampNeg) hI) (SP.pre _ _) (fun q h => List.mem_append_left _ h) (gi_V zw_1285 zw_1286 zw_1287 zw_103 (gi_sub zi_k301_X11_pair zg_k301_X11_pair)) rfl rfl rfl (by decide +kernel) ⟨Nat.le_of_ble_eq_true rfl, Nat.le_of_ble_eq_true rfl⟩ 0 rfl rfl rfl rfl (Nat.le_of_ble_eq_true rfl) ⟨Nat.le_of_ble_eq_true rfl, Nat.le_of_ble_eq_true rfl⟩ dL_law_1041 (fun v ty' w' hp hk' => ?_)
  obtain ⟨I4, A4, d4, a4, h4, v3, e4, rfl, rfl⟩ := hp
  show GW κ 4 82 21282 (wM r g J B M ++ wX q d I4 A4) 1044 [(3, .int i), (2, .ref (r 0)), (1, .ref (q 0)), (0, .ref b)] [.int v3]
  refine g_pop hk dL_law_1044 rfl ?_
  refine g_aload_n hk dL_law_1045 rfl ?_
  refine g_aload_n hk dL_law_1046 rfl ?_
  refine g_iload_n hk dL_law_1047 rfl ?_
  refine g_iconst (v := 1) hk dL_law_1048 (by decide) ?_
  refine g_iadd hk dL_law_1049 ?_
  refine g_topi (fun y5 ey5 => ?_)
  have qy5 : y5 = y1 := ey5.trans ey1.symm
  subst qy5
  refine g_sld (v := xs y5.toNatClampNeg) hk hX (vp_in_iff.mpr ⟨by omega, by omega⟩) rfl dL_law_1050 ?_
  refine g_aload_n hk dL_law_1051 rfl ?_
  refine g_iload_n hk dL_law_1052 rfl ?_
  refine g_iconst (v := 2) hk dL_law_1053 (by decide) ?_
  refine g_iadd hk dL_law_1054 ?_
  refine g_topi (fun y6 ey6 => ?_)
  have qy6 : y6 = y2 := ey6.trans ey2.symm
  subst qy6
  refine g_sld (v := xs y6.toNatClampNeg) hk hX (vp_in_iff.mpr ⟨by omega, by omega⟩) rfl dL_law_1055 ?_
  refine g_callV (n := 2) hk (j201_X12_pair l D zt r g J B M (xs y5.toNatClampNeg) (xs y6.toNatClampNeg) hJ) (SP.pre _ _) (fun q h => List.mem_append_right _ h) (gi_V zw_1927 zw_1928 zw_1929 zw_115 (gi_sub zi_j201_X12_pair zg_j201_X12_pair)) rfl rfl rfl (by decide +kernel) ⟨Nat.le_of_ble_eq_true rfl, Nat.le_of_ble_eq_true rfl⟩ 0 rfl rfl rfl rfl (Nat.le_of_ble_eq_true rfl) ⟨Nat.le_of_ble_eq_true rfl, Nat.le_of_ble_eq_true rfl⟩ dL_law_1056 (fun v ty' w' hp hk' => ?_)
  obtain ⟨I8, A8, L8, d8, a8, h8, v7, l8, e8, rfl, rfl⟩ := hp
  show GW κ 4 82 21282 (wX q d I4 A4 ++ wM r g I8 A8 L8) 1059 [(3, .int i), (2, .ref (r 0)), (1, .ref (q 0)), (0, .ref b)] [.int v7]
  refine g_pop hk dL_law_1059 rfl ?_
  refine g_goto (tgt := 1465) hk dL_law_1060 (by decide) ?_
  exact tail I4 A4 I8 A8 L8 h4 h8 ⟨⟨(RT.keep hS.1.1 (d4 0 rfl) (a4 0 rfl) (d8 1 rfl) (a8 0 rfl) l8), (((d4 12 rfl).trans hS.1.2.1).trans (d8 10 rfl).symm), (((d4 13 rfl).trans hS.1.2.2).trans (d8 14 rfl).symm)⟩, (hS.2.1.keep (d4 17 rfl) (d4 18 rfl) (d4 20 rfl) (d4 21 rfl) (a4 7 rfl) (a4 10 rfl) (a4 11 rfl) (a4 12 rfl) (a4 13 rfl) (d8 22 rfl) (a8 17 rfl) (a8 22 rfl)), (hS.2.2.1.keep (d4 19 rfl) (a4 8 rfl) (a4 9 rfl) (d8 15 rfl) (a8 10 rfl) (a8 11 rfl) (a8 12 rfl)), (hS.2.2.2.keep (d4 22 rfl) (d4 23 rfl) (d4 24 rfl) (d4 25 rfl) (d4 26 rfl) (d4 27 rfl) (a4 15 rfl) (a4 16 rfl) (a4 17 rfl) (a4 18 rfl) (a4 19 rfl) (a4 20 rfl) (a8 27 rfl) (a8 28 rfl))⟩
set_option maxHeartbeats 4000000 in
set_option maxRecDepth 100000 in
theorem law_27 {κ : Cx} {l : Launch} {D : va_G} {zt : Nat × Nat × Nat × (Nat → Nat) × (Nat → Nat)} {q r : Nat → Nat} {d g : Nat → ClassId} {b L : Nat} {xs : Nat → Int32} (hk : GC κ l D zt code 4 RL lw_tbl (tyX d ++ tyM g) room_1) (hX : GX κ b L xs) (i : Int32) (h0 : 0 ≤ i.toInt) (h6 : i.toInt + 6 ≤ (L : Int)) (hL : L ≤ 3072) (I : Nat → Int32) (A : Nat → Nat → Int32) (J : Nat → Int32) (B : Nat → Nat → Int32) (M : Nat → Nat → Int64) (hI : IvX I A) (hJ : IvM J B) (hS : RA I A J B M) (tail : ∀ (I : Nat → Int32) (A : Nat → Nat → Int32) (J : Nat → Int32) (B : Nat → Nat → Int32) (M : Nat → Nat → Int64), IvX I A → IvM J B → RA I A J B M → GW κ 4 82 21282 (wX q d I A ++ wM r g J B M) 1465 [(3, .int i), (2, .ref (r 0)), (1, .ref (q 0)), (0, .ref b)] []) : GW κ 4 82 21282 (wX q d I A ++ wM r g J B M) 1063 [(3, .int i), (2, .ref (r 0)), (1, .ref (q 0)), (0, .ref b)] [] := by
  refine g_aload_n hk dL_law_1063 rfl ?_
  refine g_aload_n hk dL_law_1064 rfl ?_
  refine g_iload_n hk dL_law_1065 rfl ?_
  refine g_iconst (v := 1) hk dL_law_1066 (by decide) ?_
  refine g_iadd hk dL_law_1067 ?_
  refine g_topi (fun y1 ey1 => ?_)
  have hy1 : y1.toInt = i.toInt + 1 := i32_add ey1 rfl (by decide) (by omega) (by omega)
  refine g_sld (v := xs y1.toNatClampNeg) hk hX (vp_in_iff.mpr ⟨by omega, by omega⟩) rfl dL_law_1068 ?_
  refine g_aload_n hk dL_law_1069 rfl ?_
  refine g_iload_n hk dL_law_1070 rfl ?_
  refine g_iconst (v := 2) hk dL_law_1071 (by decide) ?_
  refine g_iadd hk dL_law_1072 ?_
  refine g_topi (fun y2 ey2 => ?_)
  have hy2 : y2.toInt = i.toInt + 2 := i32_add ey2 rfl (by decide) (by omega) (by omega)
  refine g_sld (v := xs y2.toNatClampNeg) hk hX (vp_in_iff.mpr ⟨by omega, by omega⟩) rfl dL_law_1073 ?_
  refine g_callV (n := 2) hk (k304_X11_odd l D zt q d I A (xs y1.toNatClampNeg) (xs y2.toNatClampNeg) hI) (SP.pre _ _) (fun q h => List.mem_append_left _ h) (gi_V zw_1297 zw_1298 zw_1299 zw_103 (gi_sub zi_k304_X11_odd zg_k304_X11_odd)) rfl rfl rfl (by decide +kernel) ⟨Nat.le_of_ble_eq_true rfl, Nat.le_of_ble_eq_true rfl⟩ 0 rfl rfl rfl rfl (Nat.le_of_ble_eq_true rfl) ⟨Nat.le_of_ble_eq_true rfl, Nat.le_of_ble_eq_true rfl⟩ dL_law_1074 (fun v ty' w' hp hk' => ?_)
  obtain ⟨I4, A4, d4, a4, h4, v3, e4, rfl, rfl⟩ := hp
  show GW κ 4 82 21282 (wM r g J B M ++ wX q d I4 A4) 1077 [(3, .int i), (2, .ref (r 0)), (1, .ref (q 0)), (0, .ref b)] [.int v3]
  refine g_pop hk dL_law_1077 rfl ?_
  refine g_aload_n hk dL_law_1078 rfl ?_
  refine g_aload_n hk dL_law_1079 rfl ?_
  refine g_iload_n hk dL_law_1080 rfl ?_
  refine g_iconst (v := 1) hk dL_law_1081 (by decide) ?_
  refine g_iadd hk dL_law_1082 ?_
  refine g_topi (fun y5 ey5 => ?_)
  have qy5 : y5 = y1 := ey5.trans ey1.symm
  subst qy5
  refine g_sld (v := xs y5.toNatClampNeg) hk hX (vp_in_iff.mpr ⟨by omega, by omega⟩) rfl dL_law_1083 ?_
  refine g_aload_n hk dL_law_1084 rfl ?_
  refine g_iload_n hk dL_law_1085 rfl ?_
  refine g_iconst (v := 2) hk dL_law_1086 (by decide) ?_
  refine g_iadd hk dL_law_1087 ?_
  refine g_topi (fun y6 ey6 => ?_)
  have qy6 : y6 = y2 := ey6.trans ey2.symm
  subst qy6
  refine g_sld (v := xs y6.toNatClampNeg) hk hX (vp_in_iff.mpr ⟨by omega, by omega⟩) rfl dL_law_1088 ?_
  refine g_callV (n := 2) hk (j202_X12_odd l D zt r g J B M (xs y5.toNatClampNeg) (xs y6.toNatClampNeg) hJ) (SP.pre _ _) (fun q h => List.mem_append_right _ h) (gi_V zw_1931 zw_1932 zw_1933 zw_115 (gi_sub zi_j202_X12_odd zg_j202_X12_odd)) rfl rfl rfl (by decide +kernel) ⟨Nat.le_of_ble_eq_true rfl, Nat.le_of_ble_eq_true rfl⟩ 0 rfl rfl rfl rfl (Nat.le_of_ble_eq_true rfl) ⟨Nat.le_of_ble_eq_true rfl, Nat.le_of_ble_eq_true rfl⟩ dL_law_1089 (fun v ty' w' hp hk' => ?_)
  obtain ⟨I8, A8, L8, d8, a8, h8, v7, l8, c9, e8, rfl, rfl⟩ := hp
  show GW κ 4 82 21282 (wX q d I4 A4 ++ wM r g I8 A8 L8) 1092 [(3, .int i), (2, .ref (r 0)), (1, .ref (q 0)), (0, .ref b)] [.int v7]
  refine g_pop hk dL_law_1092 rfl ?_
  refine g_goto (tgt := 1465) hk dL_law_1093 (by decide) ?_
  exact tail I4 A4 I8 A8 L8 h4 h8 ⟨⟨(RT.keep hS.1.1 (d4 0 rfl) (a4 0 rfl) (d8 1 rfl) (a8 0 rfl) l8), (((d4 12 rfl).trans hS.1.2.1).trans (d8 10 rfl).symm), (((d4 13 rfl).trans hS.1.2.2).trans (d8 14 rfl).symm)⟩, (hS.2.1.keep (d4 17 rfl) (d4 18 rfl) (d4 20 rfl) (d4 21 rfl) (a4 7 rfl) (a4 10 rfl) (a4 11 rfl) (a4 12 rfl) (a4 13 rfl) (d8 22 rfl) (a8 17 rfl) (a8 22 rfl)), (hS.2.2.1.keep (d4 19 rfl) (a4 8 rfl) (a4 9 rfl) (d8 15 rfl) (a8 10 rfl) (a8 11 rfl) (a8 12 rfl)), (hS.2.2.2.keep (d4 22 rfl) (d4 23 rfl) (d4 24 rfl) (d4 25 rfl) (d4 26 rfl) (d4 27 rfl) (a4 15 rfl) (a4 16 rfl) (a4 17 rfl) (a4 18 rfl) (a4 19 rfl) (a4 20 rfl) (a8 27 rfl) (a8 28 rfl))⟩
set_option maxHeartbeats 4000000 in
set_option maxRecDepth 100000 in
theorem law_28 {κ : Cx} {l : Launch} {D : va_G} {zt : Nat × Nat × Nat × (Nat → Nat) × (Nat → Nat)} {q r : Nat → Nat} {d g : Nat → ClassId} {b L : Nat} {xs : Nat → Int32} (hk : GC κ l D zt code 4 RL lw_tbl (tyX d ++ tyM g) room_1) (hX : GX κ b L xs) (i : Int32) (h0 : 0 ≤ i.toInt) (h6 : i.toInt + 6 ≤ (L : Int)) (hL : L ≤ 3072) (I : Nat → Int32) (A : Nat → Nat → Int32) (J : Nat → Int32) (B : Nat → Nat → Int32) (M : Nat → Nat → Int64) (hI : IvX I A) (hJ : IvM J B) (hS : RA I A J B M) (tail : ∀ (I : Nat → Int32) (A : Nat → Nat → Int32) (J : Nat → Int32) (B : Nat → Nat → Int32) (M : Nat → Nat → Int64), IvX I A → IvM J B → RA I A J B M → GW κ 4 82 21282 (wX q d I A ++ wM r g J B M) 1465 [(3, .int i), (2, .ref (r 0)), (1, .ref (q 0)), (0, .ref b)] []) : GW κ 4 82 21282 (wX q d I A ++ wM r g J B M) 1096 [(3, .int i), (2, .ref (r 0)), (1, .ref (q 0)), (0, .ref b)] [] := by
  refine g_aload_n hk dL_law_1096 rfl ?_
  refine g_aload_n hk dL_law_1097 rfl ?_
  refine g_iload_n hk dL_law_1098 rfl ?_
  refine g_iconst (v := 1) hk dL_law_1099 (by decide) ?_
  refine g_iadd hk dL_law_1100 ?_
  refine g_topi (fun y1 ey1 => ?_)
  have hy1 : y1.toInt = i.toInt + 1 := i32_add ey1 rfl (by decide) (by omega) (by omega)
  refine g_sld (v := xs y1.toNatClampNeg) hk hX (vp_in_iff.mpr ⟨by omega, by omega⟩) rfl dL_law_1101 ?_
  refine g_aload_n hk dL_law_1102 rfl ?_
  refine g_iload_n hk dL_law_1103 rfl ?_
  refine g_iconst (v := 2) hk dL_law_1104 (by decide) ?_
  refine g_iadd hk dL_law_1105 ?_
  refine g_topi (fun y2 ey2 => ?_)
  have hy2 : y2.toInt = i.toInt + 2 := i32_add ey2 rfl (by decide) (by omega) (by omega)
  refine g_sld (v := xs y2.toNatClampNeg) hk hX (vp_in_iff.mpr ⟨by omega, by omega⟩) rfl dL_law_1106 ?_
  refine g_callV (n := 2) hk (k277_X11_cover l D zt q d I A (xs y1.toNatClampNeg) (xs y2.toNatClampNeg) hI) (SP.pre _ _) (fun q h => List.mem_append_left _ h) (gi_V zw_1181 zw_1182 zw_1183 zw_103 (gi_sub zi_k277_X11_cover zg_k277_X11_cover)) rfl rfl rfl (by decide +kernel) ⟨Nat.le_of_ble_eq_true rfl, Nat.le_of_ble_eq_true rfl⟩ 0 rfl rfl rfl rfl (Nat.le_of_ble_eq_true rfl) ⟨Nat.le_of_ble_eq_true rfl, Nat.le_of_ble_eq_true rfl⟩ dL_law_1107 (fun v ty' w' hp hk' => ?_)
  obtain ⟨I4, A4, d4, a4, h4, v3, e4, rfl, rfl⟩ := hp
  show GW κ 4 82 21282 (wM r g J B M ++ wX q d I4 A4) 1110 [(3, .int i), (2, .ref (r 0)), (1, .ref (q 0)), (0, .ref b)] [.int v3]
  refine g_pop hk dL_law_1110 rfl ?_
  refine g_aload_n hk dL_law_1111 rfl ?_
  refine g_aload_n hk dL_law_1112 rfl ?_
  refine g_iload_n hk dL_law_1113 rfl ?_
  refine g_iconst (v := 1) hk dL_law_1114 (by decide) ?_
  refine g_iadd hk dL_law_1115 ?_
  refine g_topi (fun y5 ey5 => ?_)
  have qy5 : y5 = y1 := ey5.trans ey1.symm
  subst qy5
  refine g_sld (v := xs y5.toNatClampNeg) hk hX (vp_in_iff.mpr ⟨by omega, by omega⟩) rfl dL_law_1116 ?_
  refine g_aload_n hk dL_law_1117 rfl ?_
  refine g_iload_n hk dL_law_1118 rfl ?_
  refine g_iconst (v := 2) hk dL_law_1119 (by decide) ?_
  refine g_iadd hk dL_law_1120 ?_
  refine g_topi (fun y6 ey6 => ?_)
  have qy6 : y6 = y2 := ey6.trans ey2.symm
  subst qy6
  refine g_sld (v := xs y6.toNatClampNeg) hk hX (vp_in_iff.mpr ⟨by omega, by omega⟩) rfl dL_law_1121 ?_
  refine g_callV (n := 2) hk (j203_X12_cover l D zt r g J B M (xs y5.toNatClampNeg) (xs y6.toNatClampNeg) hJ) (SP.pre _ _) (fun q h => List.mem_append_right _ h) (gi_V zw_1880 zw_1881 zw_1882 zw_115 (gi_sub zi_j203_X12_cover zg_j203_X12_cover)) rfl rfl rfl (by decide +kernel) ⟨Nat.le_of_ble_eq_true rfl, Nat.le_of_ble_eq_true rfl⟩ 0 rfl rfl rfl rfl (Nat.le_of_ble_eq_true rfl) ⟨Nat.le_of_ble_eq_true rfl, Nat.le_of_ble_eq_true rfl⟩ dL_law_1122 (fun v ty' w' hp hk' => ?_)
  obtain ⟨I8, A8, L8, d8, a8, h8, v7, l8, e8, rfl, rfl⟩ := hp
  show GW κ 4 82 21282 (wX q d I4 A4 ++ wM r g I8 A8 L8) 1125 [(3, .int i), (2, .ref (r 0)), (1, .ref (q 0)), (0, .ref b)] [.int v7]
  refine g_pop hk dL_law_1125 rfl ?_
  refine g_goto (tgt := 1465) hk dL_law_1126 (by decide) ?_
  exact tail I4 A4 I8 A8 L8 h4 h8 ⟨⟨(RT.keep hS.1.1 (d4 0 rfl) (a4 0 rfl) (d8 1 rfl) (a8 0 rfl) l8), (((d4 12 rfl).trans hS.1.2.1).trans (d8 10 rfl).symm), (((d4 13 rfl).trans hS.1.2.2).trans (d8 14 rfl).symm)⟩, (hS.2.1.keep (d4 17 rfl) (d4 18 rfl) (d4 20 rfl) (d4 21 rfl) (a4 7 rfl) (a4 10 rfl) (a4 11 rfl) (a4 12 rfl) (a4 13 rfl) (d8 22 rfl) (a8 17 rfl) (a8 22 rfl)), (hS.2.2.1.keep (d4 19 rfl) (a4 8 rfl) (a4 9 rfl) (d8 15 rfl) (a8 10 rfl) (a8 11 rfl) (a8 12 rfl)), (hS.2.2.2.keep (d4 22 rfl) (d4 23 rfl) (d4 24 rfl) (d4 25 rfl) (d4 26 rfl) (d4 27 rfl) (a4 15 rfl) (a4 16 rfl) (a4 17 rfl) (a4 18 rfl) (a4 19 rfl) (a4 20 rfl) (a8 27 rfl) (a8 28 rfl))⟩
set_option maxHeartbeats 4000000 in
set_option maxRecDepth 100000 in
theorem law_29 {κ : Cx} {l : Launch} {D : va_G} {zt : Nat × Nat × Nat × (Nat → Nat) × (Nat → Nat)} {q r : Nat → Nat} {d g : Nat → ClassId} {b L : Nat} {xs : Nat → Int32} (hk : GC κ l D zt code 4 RL lw_tbl (tyX d ++ tyM g) room_1) (hX : GX κ b L xs) (i : Int32) (h0 : 0 ≤ i.toInt) (h6 : i.toInt + 6 ≤ (L : Int)) (hL : L ≤ 3072) (I : Nat → Int32) (A : Nat → Nat → Int32) (J : Nat → Int32) (B : Nat → Nat → Int32) (M : Nat → Nat → Int64) (hI : IvX I A) (hJ : IvM J B) (hS : RA I A J B M) (tail : ∀ (I : Nat → Int32) (A : Nat → Nat → Int32) (J : Nat → Int32) (B : Nat → Nat → Int32) (M : Nat → Nat → Int64), IvX I A → IvM J B → RA I A J B M → GW κ 4 82 21282 (wX q d I A ++ wM r g J B M) 1465 [(3, .int i), (2, .ref (r 0)), (1, .ref (q 0)), (0, .ref b)] []) : GW κ 4 82 21282 (wX q d I A ++ wM r g J B M) 1129 [(3, .int i), (2, .ref (r 0)), (1, .ref (q 0)), (0, .ref b)] [] := by
  refine g_aload_n hk dL_law_1129 rfl ?_
  refine g_aload_n hk dL_law_1130 rfl ?_
  refine g_iload_n hk dL_law_1131 rfl ?_
  refine g_iconst (v := 1) hk dL_law_1132 (by decide) ?_
  refine g_iadd hk dL_law_1133 ?_
  refine g_topi (fun y1 ey1 => ?_)
  have hy1 : y1.toInt = i.toInt + 1 := i32_add ey1 rfl (by decide) (by omega) (by omega)
  refine g_sld (v := xs y1.toNatClampNeg) hk hX (vp_in_iff.mpr ⟨by omega, by omega⟩) rfl dL_law_1134 ?_
  refine g_aload_n hk dL_law_1135 rfl ?_
  refine g_iload_n hk dL_law_1136 rfl ?_
  refine g_iconst (v := 2) hk dL_law_1137 (by decide) ?_
  refine g_iadd hk dL_law_1138 ?_
  refine g_topi (fun y2 ey2 => ?_)
  have hy2 : y2.toInt = i.toInt + 2 := i32_add ey2 rfl (by decide) (by omega) (by omega)
  refine g_sld (v := xs y2.toNatClampNeg) hk hX (vp_in_iff.mpr ⟨by omega, by omega⟩) rfl dL_law_1139 ?_
  refine g_aload_n hk dL_law_1140 rfl ?_
  refine g_iload_n hk dL_law_1141 rfl ?_
  refine g_iconst (v := 3) hk dL_law_1142 (by decide) ?_
  refine g_iadd hk dL_law_1143 ?_
  refine g_topi (fun y3 ey3 => ?_)
  have hy3 : y3.toInt = i.toInt + 3 := i32_add ey3 rfl (by decide) (by omega) (by omega)
  refine g_sld (v := xs y3.toNatClampNeg) hk hX (vp_in_iff.mpr ⟨by omega, by omega⟩) rfl dL_law_1144 ?_
  refine g_callV (n := 3) hk (k252_X11_lean l D zt q d I A (xs y1.toNatClampNeg) (xs y2.toNatClampNeg) (xs y3.toNatClampNeg) hI) (SP.pre _ _) (fun q h => List.mem_append_left _ h) (gi_V zw_1066 zw_1067 zw_1068 zw_103 (gi_sub zi_k252_X11_lean zg_k252_X11_lean)) rfl rfl rfl (by decide +kernel) ⟨Nat.le_of_ble_eq_true rfl, Nat.le_of_ble_eq_true rfl⟩ 0 rfl rfl rfl rfl (Nat.le_of_ble_eq_true rfl) ⟨Nat.le_of_ble_eq_true rfl, Nat.le_of_ble_eq_true rfl⟩ dL_law_1145 (fun v ty' w' hp hk' => ?_)
  obtain ⟨I5, A5, d5, a5, h5, v4, e5, rfl, rfl⟩ := hp
  show GW κ 4 82 21282 (wM r g J B M ++ wX q d I5 A5) 1148 [(3, .int i), (2, .ref (r 0)), (1, .ref (q 0)), (0, .ref b)] [.int v4]
  refine g_pop hk dL_law_1148 rfl ?_
  refine g_aload_n hk dL_law_1149 rfl ?_
  refine g_aload_n hk dL_law_1150 rfl ?_
  refine g_iload_n hk dL_law_1151 rfl ?_
  refine g_iconst (v := 1) hk dL_law_1152 (by decide) ?_
  refine g_iadd hk dL_law_1153 ?_
  refine g_topi (fun y6 ey6 => ?_)
  have qy6 : y6 = y1 := ey6.trans ey1.symm
  subst qy6
  refine g_sld (v := xs y6.toNatClampNeg) hk hX (vp_in_iff.mpr ⟨by omega, by omega⟩) rfl dL_law_1154 ?_
  refine g_aload_n hk dL_law_1155 rfl ?_
  refine g_iload_n hk dL_law_1156 rfl ?_
  refine g_iconst (v := 2) hk dL_law_1157 (by decide) ?_
  refine g_iadd hk dL_law_1158 ?_
  refine g_topi (fun y7 ey7 => ?_)
  have qy7 : y7 = y2 := ey7.trans ey2.symm
  subst qy7
  refine g_sld (v := xs y7.toNatClampNeg) hk hX (vp_in_iff.mpr ⟨by omega, by omega⟩) rfl dL_law_1159 ?_
  refine g_aload_n hk dL_law_1160 rfl ?_
  refine g_iload_n hk dL_law_1161 rfl ?_
  refine g_iconst (v := 3) hk dL_law_1162 (by decide) ?_
  refine g_iadd hk dL_law_1163 ?_
  refine g_topi (fun y8 ey8 => ?_)
  have qy8 : y8 = y3 := ey8.trans ey3.symm
  subst qy8
  refine g_sld (v := xs y8.toNatClampNeg) hk hX (vp_in_iff.mpr ⟨by omega, by omega⟩) rfl dL_law_1164 ?_
  refine g_callV (n := 3) hk (j204_X12_lean l D zt r g J B M (xs y6.toNatClampNeg) (xs y7.toNatClampNeg) (xs y8.toNatClampNeg) hJ) (SP.pre _ _) (fun q h => List.mem_append_right _ h) (gi_V zw_1836 zw_1837 zw_1838 zw_115 (gi_sub zi_j204_X12_lean zg_j204_X12_lean)) rfl rfl rfl (by decide +kernel) ⟨Nat.le_of_ble_eq_true rfl, Nat.le_of_ble_eq_true rfl⟩ 0 rfl rfl rfl rfl (Nat.le_of_ble_eq_true rfl) ⟨Nat.le_of_ble_eq_true rfl, Nat.le_of_ble_eq_true rfl⟩ dL_law_1165 (fun v ty' w' hp hk' => ?_)
  obtain ⟨I10, A10, L10, d10, a10, h10, v9, l10, e10, rfl, rfl⟩ := hp
  show GW κ 4 82 21282 (wX q d I5 A5 ++ wM r g I10 A10 L10) 1168 [(3, .int i), (2, .ref (r 0)), (1, .ref (q 0)), (0, .ref b)] [.int v9]
  refine g_pop hk dL_law_1168 rfl ?_
  refine g_goto (tgt := 1465) hk dL_law_1169 (by decide) ?_
  exact tail I5 A5 I10 A10 L10 h5 h10 ⟨⟨(RT.keep hS.1.1 (d5 0 rfl) (a5 0 rfl) (d10 1 rfl) (a10 0 rfl) l10), (((d5 12 rfl).trans hS.1.2.1).trans (d10 10 rfl).symm), (((d5 13 rfl).trans hS.1.2.2).trans (d10 14 rfl).symm)⟩, (hS.2.1.keep (d5 17 rfl) (d5 18 rfl) (d5 20 rfl) (d5 21 rfl) (a5 7 rfl) (a5 10 rfl) (a5 11 rfl) (a5 12 rfl) (a5 13 rfl) (d10 22 rfl) (a10 17 rfl) (a10 22 rfl)), (hS.2.2.1.keep (d5 19 rfl) (a5 8 rfl) (a5 9 rfl) (d10 15 rfl) (a10 10 rfl) (a10 11 rfl) (a10 12 rfl)), (hS.2.2.2.keep (d5 22 rfl) (d5 23 rfl) (d5 24 rfl) (d5 25 rfl) (d5 26 rfl) (d5 27 rfl) (a5 15 rfl) (a5 16 rfl) (a5 17 rfl) (a5 18 rfl) (a5 19 rfl) (a5 20 rfl) (a10 27 rfl) (a10 28 rfl))⟩
set_option maxHeartbeats 4000000 in
set_option maxRecDepth 100000 in
theorem law_30 {κ : Cx} {l : Launch} {D : va_G} {zt : Nat × Nat × Nat × (Nat → Nat) × (Nat → Nat)} {q r : Nat → Nat} {d g : Nat → ClassId} {b L : Nat} {xs : Nat → Int32} (hk : GC κ l D zt code 4 RL lw_tbl (tyX d ++ tyM g) room_1) (hX : GX κ b L xs) (i : Int32) (h0 : 0 ≤ i.toInt) (h6 : i.toInt + 6 ≤ (L : Int)) (hL : L ≤ 3072) (I : Nat → Int32) (A : Nat → Nat → Int32) (J : Nat → Int32) (B : Nat → Nat → Int32) (M : Nat → Nat → Int64) (hI : IvX I A) (hJ : IvM J B) (hS : RA I A J B M) (tail : ∀ (I : Nat → Int32) (A : Nat → Nat → Int32) (J : Nat → Int32) (B : Nat → Nat → Int32) (M : Nat → Nat → Int64), IvX I A → IvM J B → RA I A J B M → GW κ 4 82 21282 (wX q d I A ++ wM r g J B M) 1465 [(3, .int i), (2, .ref (r 0)), (1, .ref (q 0)), (0, .ref b)] []) : GW κ 4 82 21282 (wX q d I A ++ wM r g J B M) 1172 [(3, .int i), (2, .ref (r 0)), (1, .ref (q 0)), (0, .ref b)] [] := by
  refine g_aload_n hk dL_law_1172 rfl ?_
  refine g_aload_n hk dL_law_1173 rfl ?_
  refine g_iload_n hk dL_law_1174 rfl ?_
  refine g_iconst (v := 1) hk dL_law_1175 (by decide) ?_
  refine g_iadd hk dL_law_1176 ?_
  refine g_topi (fun y1 ey1 => ?_)
  have hy1 : y1.toInt = i.toInt + 1 := i32_add ey1 rfl (by decide) (by omega) (by omega)
  refine g_sld (v := xs y1.toNatClampNeg) hk hX (vp_in_iff.mpr ⟨by omega, by omega⟩) rfl dL_law_1177 ?_
  refine g_aload_n hk dL_law_1178 rfl ?_
  refine g_iload_n hk dL_law_1179 rfl ?_
  refine g_iconst (v := 2) hk dL_law_1180 (by decide) ?_
  refine g_iadd hk dL_law_1181 ?_
  refine g_topi (fun y2 ey2 => ?_)
  have hy2 : y2.toInt = i.toInt + 2 := i32_add ey2 rfl (by decide) (by omega) (by omega)
  refine g_sld (v := xs y2.toNatClampNeg) hk hX (vp_in_iff.mpr ⟨by omega, by omega⟩) rfl dL_law_1182 ?_
  refine g_callV (n := 2) hk (k258_X11_whose l D zt q d I A (xs y1.toNatClampNeg) (xs y2.toNatClampNeg) hI) (SP.pre _ _) (fun q h => List.mem_append_left _ h) (gi_V zw_1093 zw_1094 zw_1095 zw_103 (gi_sub zi_k258_X11_whose zg_k258_X11_whose)) rfl rfl rfl (by decide +kernel) ⟨Nat.le_of_ble_eq_true rfl, Nat.le_of_ble_eq_true rfl⟩ 0 rfl rfl rfl rfl (Nat.le_of_ble_eq_true rfl) ⟨Nat.le_of_ble_eq_true rfl, Nat.le_of_ble_eq_true rfl⟩ dL_law_1183 (fun v ty' w' hp hk' => ?_)
  obtain ⟨I4, A4, d4, a4, h4, v3, c5, c6, e4, rfl, rfl⟩ := hp
  show GW κ 4 82 21282 (wM r g J B M ++ wX q d I4 A4) 1186 [(3, .int i), (2, .ref (r 0)), (1, .ref (q 0)), (0, .ref b)] [.int v3]
  refine g_pop hk dL_law_1186 rfl ?_
  refine g_aload_n hk dL_law_1187 rfl ?_
  refine g_aload_n hk dL_law_1188 rfl ?_
  refine g_iload_n hk dL_law_1189 rfl ?_
  refine g_iconst (v := 1) hk dL_law_1190 (by decide) ?_
  refine g_iadd hk dL_law_1191 ?_
  refine g_topi (fun y7 ey7 => ?_)
  have qy7 : y7 = y1 := ey7.trans ey1.symm
  subst qy7
  refine g_sld (v := xs y7.toNatClampNeg) hk hX (vp_in_iff.mpr ⟨by omega, by omega⟩) rfl dL_law_1192 ?_
  refine g_aload_n hk dL_law_1193 rfl ?_
  refine g_iload_n hk dL_law_1194 rfl ?_
  refine g_iconst (v := 2) hk dL_law_1195 (by decide) ?_
  refine g_iadd hk dL_law_1196 ?_
  refine g_topi (fun y8 ey8 => ?_)
  have qy8 : y8 = y2 := ey8.trans ey2.symm
  subst qy8
  refine g_sld (v := xs y8.toNatClampNeg) hk hX (vp_in_iff.mpr ⟨by omega, by omega⟩) rfl dL_law_1197 ?_
  refine g_callV (n := 2) hk (j205_X12_whose l D zt r g J B M (xs y7.toNatClampNeg) (xs y8.toNatClampNeg) hJ) (SP.pre _ _) (fun q h => List.mem_append_right _ h) (gi_V zw_1911 zw_1912 zw_1913 zw_115 (gi_sub zi_j205_X12_whose zg_j205_X12_whose)) rfl rfl rfl (by decide +kernel) ⟨Nat.le_of_ble_eq_true rfl, Nat.le_of_ble_eq_true rfl⟩ 0 rfl rfl rfl rfl (Nat.le_of_ble_eq_true rfl) ⟨Nat.le_of_ble_eq_true rfl, Nat.le_of_ble_eq_true rfl⟩ dL_law_1198 (fun v ty' w' hp hk' => ?_)
  obtain ⟨I10, A10, L10, d10, a10, h10, v9, l10, c11, c12, e10, rfl, rfl⟩ := hp
  show GW κ 4 82 21282 (wX q d I4 A4 ++ wM r g I10 A10 L10) 1201 [(3, .int i), (2, .ref (r 0)), (1, .ref (q 0)), (0, .ref b)] [.int v9]
  refine g_pop hk dL_law_1201 rfl ?_
  refine g_goto (tgt := 1465) hk dL_law_1202 (by decide) ?_
  exact tail I4 A4 I10 A10 L10 h4 h10 ⟨⟨(RT.keep hS.1.1 (d4 0 rfl) (a4 0 rfl) (d10 1 rfl) (a10 0 rfl) l10), (((d4 12 rfl).trans hS.1.2.1).trans (d10 10 rfl).symm), (((d4 13 rfl).trans hS.1.2.2).trans (d10 14 rfl).symm)⟩, (hS.2.1.keep (d4 17 rfl) (d4 18 rfl) (d4 20 rfl) (d4 21 rfl) (a4 7 rfl) (a4 10 rfl) (a4 11 rfl) (a4 12 rfl) (a4 13 rfl) (d10 22 rfl) (a10 17 rfl) (a10 22 rfl)), (hS.2.2.1.keep (d4 19 rfl) (a4 8 rfl) (a4 9 rfl) (d10 15 rfl) (a10 10 rfl) (a10 11 rfl) (a10 12 rfl)), (hS.2.2.2.keep (d4 22 rfl) (d4 23 rfl) (d4 24 rfl) (d4 25 rfl) (d4 26 rfl) (d4 27 rfl) (a4 15 rfl) (a4 16 rfl) (a4 17 rfl) (a4 18 rfl) (a4 19 rfl) (a4 20 rfl) (a10 27 rfl) (a10 28 rfl))⟩
set_option maxHeartbeats 4000000 in
set_option maxRecDepth 100000 in
theorem law_31 {κ : Cx} {l : Launch} {D : va_G} {zt : Nat × Nat × Nat × (Nat → Nat) × (Nat → Nat)} {q r : Nat → Nat} {d g : Nat → ClassId} {b L : Nat} {xs : Nat → Int32} (hk : GC κ l D zt code 4 RL lw_tbl (tyX d ++ tyM g) room_1) (hX : GX κ b L xs) (i : Int32) (h0 : 0 ≤ i.toInt) (h6 : i.toInt + 6 ≤ (L : Int)) (hL : L ≤ 3072) (I : Nat → Int32) (A : Nat → Nat → Int32) (J : Nat → Int32) (B : Nat → Nat → Int32) (M : Nat → Nat → Int64) (hI : IvX I A) (hJ : IvM J B) (hS : RA I A J B M) (tail : ∀ (I : Nat → Int32) (A : Nat → Nat → Int32) (J : Nat → Int32) (B : Nat → Nat → Int32) (M : Nat → Nat → Int64), IvX I A → IvM J B → RA I A J B M → GW κ 4 82 21282 (wX q d I A ++ wM r g J B M) 1465 [(3, .int i), (2, .ref (r 0)), (1, .ref (q 0)), (0, .ref b)] []) : GW κ 4 82 21282 (wX q d I A ++ wM r g J B M) 1205 [(3, .int i), (2, .ref (r 0)), (1, .ref (q 0)), (0, .ref b)] [] := by
  refine g_aload_n hk dL_law_1205 rfl ?_
  refine g_aload_n hk dL_law_1206 rfl ?_
  refine g_iload_n hk dL_law_1207 rfl ?_
  refine g_iconst (v := 1) hk dL_law_1208 (by decide) ?_
  refine g_iadd hk dL_law_1209 ?_
  refine g_topi (fun y1 ey1 => ?_)
  have hy1 : y1.toInt = i.toInt + 1 := i32_add ey1 rfl (by decide) (by omega) (by omega)
  refine g_sld (v := xs y1.toNatClampNeg) hk hX (vp_in_iff.mpr ⟨by omega, by omega⟩) rfl dL_law_1210 ?_
  refine g_aload_n hk dL_law_1211 rfl ?_
  refine g_iload_n hk dL_law_1212 rfl ?_
  refine g_iconst (v := 2) hk dL_law_1213 (by decide) ?_
  refine g_iadd hk dL_law_1214 ?_
  refine g_topi (fun y2 ey2 => ?_)
  have hy2 : y2.toInt = i.toInt + 2 := i32_add ey2 rfl (by decide) (by omega) (by omega)
  refine g_sld (v := xs y2.toNatClampNeg) hk hX (vp_in_iff.mpr ⟨by omega, by omega⟩) rfl dL_law_1215 ?_
  refine g_callV (n := 2) hk (k282_X11_rank l D zt q d I A (xs y1.toNatClampNeg) (xs y2.toNatClampNeg) hI) (SP.pre _ _) (fun q h => List.mem_append_left _ h) (gi_V zw_1204 zw_1205 zw_1206 zw_103 (gi_sub zi_k282_X11_rank zg_k282_X11_rank)) rfl rfl rfl (by decide +kernel) ⟨Nat.le_of_ble_eq_true rfl, Nat.le_of_ble_eq_true rfl⟩ 0 rfl rfl rfl rfl (Nat.le_of_ble_eq_true rfl) ⟨Nat.le_of_ble_eq_true rfl, Nat.le_of_ble_eq_true rfl⟩ dL_law_1216 (fun v ty' w' hp hk' => ?_)
  obtain ⟨I4, A4, d4, a4, h4, v3, e4, rfl, rfl⟩ := hp
  show GW κ 4 82 21282 (wM r g J B M ++ wX q d I4 A4) 1219 [(3, .int i), (2, .ref (r 0)), (1, .ref (q 0)), (0, .ref b)] [.int v3]
  refine g_pop hk dL_law_1219 rfl ?_
  refine g_aload_n hk dL_law_1220 rfl ?_
  refine g_aload_n hk dL_law_1221 rfl ?_
  refine g_iload_n hk dL_law_1222 rfl ?_
  refine g_iconst (v := 1) hk dL_law_1223 (by decide) ?_
  refine g_iadd hk dL_law_1224 ?_
  refine g_topi (fun y5 ey5 => ?_)
  have qy5 : y5 = y1 := ey5.trans ey1.symm
  subst qy5
  refine g_sld (v := xs y5.toNatClampNeg) hk hX (vp_in_iff.mpr ⟨by omega, by omega⟩) rfl dL_law_1225 ?_
  refine g_aload_n hk dL_law_1226 rfl ?_
  refine g_iload_n hk dL_law_1227 rfl ?_
  refine g_iconst (v := 2) hk dL_law_1228 (by decide) ?_
  refine g_iadd hk dL_law_1229 ?_
  refine g_topi (fun y6 ey6 => ?_)
  have qy6 : y6 = y2 := ey6.trans ey2.symm
  subst qy6
  refine g_sld (v := xs y6.toNatClampNeg) hk hX (vp_in_iff.mpr ⟨by omega, by omega⟩) rfl dL_law_1230 ?_
  refine g_callV (n := 2) hk (j206_X12_rank l D zt r g J B M (xs y5.toNatClampNeg) (xs y6.toNatClampNeg) hJ) (SP.pre _ _) (fun q h => List.mem_append_right _ h) (gi_V zw_1884 zw_1885 zw_1886 zw_115 (gi_sub zi_j206_X12_rank zg_j206_X12_rank)) rfl rfl rfl (by decide +kernel) ⟨Nat.le_of_ble_eq_true rfl, Nat.le_of_ble_eq_true rfl⟩ 0 rfl rfl rfl rfl (Nat.le_of_ble_eq_true rfl) ⟨Nat.le_of_ble_eq_true rfl, Nat.le_of_ble_eq_true rfl⟩ dL_law_1231 (fun v ty' w' hp hk' => ?_)
  obtain ⟨I8, A8, L8, d8, a8, h8, v7, l8, e8, rfl, rfl⟩ := hp
  show GW κ 4 82 21282 (wX q d I4 A4 ++ wM r g I8 A8 L8) 1234 [(3, .int i), (2, .ref (r 0)), (1, .ref (q 0)), (0, .ref b)] [.int v7]
  refine g_pop hk dL_law_1234 rfl ?_
  refine g_goto (tgt := 1465) hk dL_law_1235 (by decide) ?_
  exact tail I4 A4 I8 A8 L8 h4 h8 ⟨⟨(RT.keep hS.1.1 (d4 0 rfl) (a4 0 rfl) (d8 1 rfl) (a8 0 rfl) l8), (((d4 12 rfl).trans hS.1.2.1).trans (d8 10 rfl).symm), (((d4 13 rfl).trans hS.1.2.2).trans (d8 14 rfl).symm)⟩, (hS.2.1.keep (d4 17 rfl) (d4 18 rfl) (d4 20 rfl) (d4 21 rfl) (a4 7 rfl) (a4 10 rfl) (a4 11 rfl) (a4 12 rfl) (a4 13 rfl) (d8 22 rfl) (a8 17 rfl) (a8 22 rfl)), (hS.2.2.1.keep (d4 19 rfl) (a4 8 rfl) (a4 9 rfl) (d8 15 rfl) (a8 10 rfl) (a8 11 rfl) (a8 12 rfl)), (hS.2.2.2.keep (d4 22 rfl) (d4 23 rfl) (d4 24 rfl) (d4 25 rfl) (d4 26 rfl) (d4 27 rfl) (a4 15 rfl) (a4 16 rfl) (a4 17 rfl) (a4 18 rfl) (a4 19 rfl) (a4 20 rfl) (a8 27 rfl) (a8 28 rfl))⟩
set_option maxHeartbeats 4000000 in
set_option maxRecDepth 100000 in
theorem law_32 {κ : Cx} {l : Launch} {D : va_G} {zt : Nat × Nat × Nat × (Nat → Nat) × (Nat → Nat)} {q r : Nat → Nat} {d g : Nat → ClassId} {b L : Nat} {xs : Nat → Int32} (hk : GC κ l D zt code 4 RL lw_tbl (tyX d ++ tyM g) room_1) (hX : GX κ b L xs) (i : Int32) (h0 : 0 ≤ i.toInt) (h6 : i.toInt + 6 ≤ (L : Int)) (hL : L ≤ 3072) (I : Nat → Int32) (A : Nat → Nat → Int32) (J : Nat → Int32) (B : Nat → Nat → Int32) (M : Nat → Nat → Int64) (hI : IvX I A) (hJ : IvM J B) (hS : RA I A J B M) (tail : ∀ (I : Nat → Int32) (A : Nat → Nat → Int32) (J : Nat → Int32) (B : Nat → Nat → Int32) (M : Nat → Nat → Int64), IvX I A → IvM J B → RA I A J B M → GW κ 4 82 21282 (wX q d I A ++ wM r g J B M) 1465 [(3, .int i), (2, .ref (r 0)), (1, .ref (q 0)), (0, .ref b)] []) : GW κ 4 82 21282 (wX q d I A ++ wM r g J B M) 1238 [(3, .int i), (2, .ref (r 0)), (1, .ref (q 0)), (0, .ref b)] [] := by
  refine g_aload_n hk dL_law_1238 rfl ?_
  refine g_aload_n hk dL_law_1239 rfl ?_
  refine g_iload_n hk dL_law_1240 rfl ?_
  refine g_iconst (v := 1) hk dL_law_1241 (by decide) ?_
  refine g_iadd hk dL_law_1242 ?_
  refine g_topi (fun y1 ey1 => ?_)
  have hy1 : y1.toInt = i.toInt + 1 := i32_add ey1 rfl (by decide) (by omega) (by omega)
  refine g_sld (v := xs y1.toNatClampNeg) hk hX (vp_in_iff.mpr ⟨by omega, by omega⟩) rfl dL_law_1243 ?_
  refine g_aload_n hk dL_law_1244 rfl ?_
  refine g_iload_n hk dL_law_1245 rfl ?_
  refine g_iconst (v := 2) hk dL_law_1246 (by decide) ?_
  refine g_iadd hk dL_law_1247 ?_
  refine g_topi (fun y2 ey2 => ?_)
  have hy2 : y2.toInt = i.toInt + 2 := i32_add ey2 rfl (by decide) (by omega) (by omega)
  refine g_sld (v := xs y2.toNatClampNeg) hk hX (vp_in_iff.mpr ⟨by omega, by omega⟩) rfl dL_law_1248 ?_
  refine g_aload_n hk dL_law_1249 rfl ?_
  refine g_iload_n hk dL_law_1250 rfl ?_
  refine g_iconst (v := 3) hk dL_law_1251 (by decide) ?_
  refine g_iadd hk dL_law_1252 ?_
  refine g_topi (fun y3 ey3 => ?_)
  have hy3 : y3.toInt = i.toInt + 3 := i32_add ey3 rfl (by decide) (by omega) (by omega)
  refine g_sld (v := xs y3.toNatClampNeg) hk hX (vp_in_iff.mpr ⟨by omega, by omega⟩) rfl dL_law_1253 ?_
  refine g_callV (n := 3) hk (k285_X11_kth l D zt q d I A (xs y1.toNatClampNeg) (xs y2.toNatClampNeg) (xs y3.toNatClampNeg) hI) (SP.pre _ _) (fun q h => List.mem_append_left _ h) (gi_V zw_1217 zw_1218 zw_1219 zw_103 (gi_sub zi_k285_X11_kth zg_k285_X11_kth)) rfl rfl rfl (by decide +kernel) ⟨Nat.le_of_ble_eq_true rfl, Nat.le_of_ble_eq_true rfl⟩ 0 rfl rfl rfl rfl (Nat.le_of_ble_eq_true rfl) ⟨Nat.le_of_ble_eq_true rfl, Nat.le_of_ble_eq_true rfl⟩ dL_law_1254 (fun v ty' w' hp hk' => ?_)
  obtain ⟨I5, A5, d5, a5, h5, v4, e5, rfl, rfl⟩ := hp
  show GW κ 4 82 21282 (wM r g J B M ++ wX q d I5 A5) 1257 [(3, .int i), (2, .ref (r 0)), (1, .ref (q 0)), (0, .ref b)] [.int v4]
  refine g_pop hk dL_law_1257 rfl ?_
  refine g_aload_n hk dL_law_1258 rfl ?_
  refine g_aload_n hk dL_law_1259 rfl ?_
  refine g_iload_n hk dL_law_1260 rfl ?_
  refine g_iconst (v := 1) hk dL_law_1261 (by decide) ?_
  refine g_iadd hk dL_law_1262 ?_
  refine g_topi (fun y6 ey6 => ?_)
  have qy6 : y6 = y1 := ey6.trans ey1.symm
  subst qy6
  refine g_sld (v := xs y6.toNatClampNeg) hk hX (vp_in_iff.mpr ⟨by omega, by omega⟩) rfl dL_law_1263 ?_
  refine g_aload_n hk dL_law_1264 rfl ?_
  refine g_iload_n hk dL_law_1265 rfl ?_
  refine g_iconst (v := 2) hk dL_law_1266 (by decide) ?_
  refine g_iadd hk dL_law_1267 ?_
  refine g_topi (fun y7 ey7 => ?_)
  have qy7 : y7 = y2 := ey7.trans ey2.symm
  subst qy7
  refine g_sld (v := xs y7.toNatClampNeg) hk hX (vp_in_iff.mpr ⟨by omega, by omega⟩) rfl dL_law_1268 ?_
  refine g_aload_n hk dL_law_1269 rfl ?_
  refine g_iload_n hk dL_law_1270 rfl ?_
  refine g_iconst (v := 3) hk dL_law_1271 (by decide) ?_
  refine g_iadd hk dL_law_1272 ?_
  refine g_topi (fun y8 ey8 => ?_)
  have qy8 : y8 = y3 := ey8.trans ey3.symm
  subst qy8
  refine g_sld (v := xs y8.toNatClampNeg) hk hX (vp_in_iff.mpr ⟨by omega, by omega⟩) rfl dL_law_1273 ?_
  refine g_callV (n := 3) hk (j208_X12_kth l D zt r g J B M (xs y6.toNatClampNeg) (xs y7.toNatClampNeg) (xs y8.toNatClampNeg) hJ) (SP.pre _ _) (fun q h => List.mem_append_right _ h) (gi_V zw_1892 zw_1893 zw_1894 zw_115 (gi_sub zi_j208_X12_kth zg_j208_X12_kth)) rfl rfl rfl (by decide +kernel) ⟨Nat.le_of_ble_eq_true rfl, Nat.le_of_ble_eq_true rfl⟩ 0 rfl rfl rfl rfl (Nat.le_of_ble_eq_true rfl) ⟨Nat.le_of_ble_eq_true rfl, Nat.le_of_ble_eq_true rfl⟩ dL_law_1274 (fun v ty' w' hp hk' => ?_)
  obtain ⟨I10, A10, L10, d10, a10, h10, v9, l10, c11, e10, rfl, rfl⟩ := hp
  show GW κ 4 82 21282 (wX q d I5 A5 ++ wM r g I10 A10 L10) 1277 [(3, .int i), (2, .ref (r 0)), (1, .ref (q 0)), (0, .ref b)] [.int v9]
  refine g_pop hk dL_law_1277 rfl ?_
  refine g_goto (tgt := 1465) hk dL_law_1278 (by decide) ?_
  exact tail I5 A5 I10 A10 L10 h5 h10 ⟨⟨(RT.keep hS.1.1 (d5 0 rfl) (a5 0 rfl) (d10 1 rfl) (a10 0 rfl) l10), (((d5 12 rfl).trans hS.1.2.1).trans (d10 10 rfl).symm), (((d5 13 rfl).trans hS.1.2.2).trans (d10 14 rfl).symm)⟩, (hS.2.1.keep (d5 17 rfl) (d5 18 rfl) (d5 20 rfl) (d5 21 rfl) (a5 7 rfl) (a5 10 rfl) (a5 11 rfl) (a5 12 rfl) (a5 13 rfl) (d10 22 rfl) (a10 17 rfl) (a10 22 rfl)), (hS.2.2.1.keep (d5 19 rfl) (a5 8 rfl) (a5 9 rfl) (d10 15 rfl) (a10 10 rfl) (a10 11 rfl) (a10 12 rfl)), (hS.2.2.2.keep (d5 22 rfl) (d5 23 rfl) (d5 24 rfl) (d5 25 rfl) (d5 26 rfl) (d5 27 rfl) (a5 15 rfl) (a5 16 rfl) (a5 17 rfl) (a5 18 rfl) (a5 19 rfl) (a5 20 rfl) (a10 27 rfl) (a10 28 rfl))⟩
set_option maxHeartbeats 4000000 in
set_option maxRecDepth 100000 in
theorem law_33 {κ : Cx} {l : Launch} {D : va_G} {zt : Nat × Nat × Nat × (Nat → Nat) × (Nat → Nat)} {q r : Nat → Nat} {d g : Nat → ClassId} {b L : Nat} {xs : Nat → Int32} (hk : GC κ l D zt code 4 RL lw_tbl (tyX d ++ tyM g) room_1) (hX : GX κ b L xs) (i : Int32) (h0 : 0 ≤ i.toInt) (h6 : i.toInt + 6 ≤ (L : Int)) (hL : L ≤ 3072) (I : Nat → Int32) (A : Nat → Nat → Int32) (J : Nat → Int32) (B : Nat → Nat → Int32) (M : Nat → Nat → Int64) (hI : IvX I A) (hJ : IvM J B) (hS : RA I A J B M) (tail : ∀ (I : Nat → Int32) (A : Nat → Nat → Int32) (J : Nat → Int32) (B : Nat → Nat → Int32) (M : Nat → Nat → Int64), IvX I A → IvM J B → RA I A J B M → GW κ 4 82 21282 (wX q d I A ++ wM r g J B M) 1465 [(3, .int i), (2, .ref (r 0)), (1, .ref (q 0)), (0, .ref b)] []) : GW κ 4 82 21282 (wX q d I A ++ wM r g J B M) 1281 [(3, .int i), (2, .ref (r 0)), (1, .ref (q 0)), (0, .ref b)] [] := by
  refine g_aload_n hk dL_law_1281 rfl ?_
  refine g_aload_n hk dL_law_1282 rfl ?_
  refine g_iload_n hk dL_law_1283 rfl ?_
  refine g_iconst (v := 1) hk dL_law_1284 (by decide) ?_
  refine g_iadd hk dL_law_1285 ?_
  refine g_topi (fun y1 ey1 => ?_)
  have hy1 : y1.toInt = i.toInt + 1 := i32_add ey1 rfl (by decide) (by omega) (by omega)
  refine g_sld (v := xs y1.toNatClampNeg) hk hX (vp_in_iff.mpr ⟨by omega, by omega⟩) rfl dL_law_1286 ?_
  refine g_callV (n := 1) hk (k287_X11_slack l D zt q d I A (xs y1.toNatClampNeg) hI) (SP.pre _ _) (fun q h => List.mem_append_left _ h) (gi_V zw_1227 zw_1228 zw_1229 zw_103 (gi_sub zi_k287_X11_slack zg_k287_X11_slack)) rfl rfl rfl (by decide +kernel) ⟨Nat.le_of_ble_eq_true rfl, Nat.le_of_ble_eq_true rfl⟩ 0 rfl rfl rfl rfl (Nat.le_of_ble_eq_true rfl) ⟨Nat.le_of_ble_eq_true rfl, Nat.le_of_ble_eq_true rfl⟩ dL_law_1287 (fun v ty' w' hp hk' => ?_)
  obtain ⟨I3, A3, d3, a3, h3, v2, e3, rfl, rfl⟩ := hp
  show GW κ 4 82 21282 (wM r g J B M ++ wX q d I3 A3) 1290 [(3, .int i), (2, .ref (r 0)), (1, .ref (q 0)), (0, .ref b)] [.int v2]
  refine g_pop hk dL_law_1290 rfl ?_
  refine g_aload_n hk dL_law_1291 rfl ?_
  refine g_aload_n hk dL_law_1292 rfl ?_
  refine g_iload_n hk dL_law_1293 rfl ?_
  refine g_iconst (v := 1) hk dL_law_1294 (by decide) ?_
  refine g_iadd hk dL_law_1295 ?_
  refine g_topi (fun y4 ey4 => ?_)
  have qy4 : y4 = y1 := ey4.trans ey1.symm
  subst qy4
  refine g_sld (v := xs y4.toNatClampNeg) hk hX (vp_in_iff.mpr ⟨by omega, by omega⟩) rfl dL_law_1296 ?_
  refine g_callV (n := 1) hk (j209_X12_slack l D zt r g J B M (xs y4.toNatClampNeg) hJ) (SP.pre _ _) (fun q h => List.mem_append_right _ h) (gi_V zw_1896 zw_1897 zw_1898 zw_115 (gi_sub zi_j209_X12_slack zg_j209_X12_slack)) rfl rfl rfl (by decide +kernel) ⟨Nat.le_of_ble_eq_true rfl, Nat.le_of_ble_eq_true rfl⟩ 0 rfl rfl rfl rfl (Nat.le_of_ble_eq_true rfl) ⟨Nat.le_of_ble_eq_true rfl, Nat.le_of_ble_eq_true rfl⟩ dL_law_1297 (fun v ty' w' hp hk' => ?_)
  obtain ⟨I6, A6, L6, d6, a6, h6, v5, l6, e6, rfl, rfl⟩ := hp
  show GW κ 4 82 21282 (wX q d I3 A3 ++ wM r g I6 A6 L6) 1300 [(3, .int i), (2, .ref (r 0)), (1, .ref (q 0)), (0, .ref b)] [.int v5]
  refine g_pop hk dL_law_1300 rfl ?_
  refine g_goto (tgt := 1465) hk dL_law_1301 (by decide) ?_
  exact tail I3 A3 I6 A6 L6 h3 h6 ⟨⟨(RT.keep hS.1.1 (d3 0 rfl) (a3 0 rfl) (d6 1 rfl) (a6 0 rfl) l6), (((d3 12 rfl).trans hS.1.2.1).trans (d6 10 rfl).symm), (((d3 13 rfl).trans hS.1.2.2).trans (d6 14 rfl).symm)⟩, (hS.2.1.keep (d3 17 rfl) (d3 18 rfl) (d3 20 rfl) (d3 21 rfl) (a3 7 rfl) (a3 10 rfl) (a3 11 rfl) (a3 12 rfl) (a3 13 rfl) (d6 22 rfl) (a6 17 rfl) (a6 22 rfl)), (hS.2.2.1.keep (d3 19 rfl) (a3 8 rfl) (a3 9 rfl) (d6 15 rfl) (a6 10 rfl) (a6 11 rfl) (a6 12 rfl)), (hS.2.2.2.keep (d3 22 rfl) (d3 23 rfl) (d3 24 rfl) (d3 25 rfl) (d3 26 rfl) (d3 27 rfl) (a3 15 rfl) (a3 16 rfl) (a3 17 rfl) (a3 18 rfl) (a3 19 rfl) (a3 20 rfl) (a6 27 rfl) (a6 28 rfl))⟩
set_option maxHeartbeats 4000000 in
set_option maxRecDepth 100000 in
theorem law_34 {κ : Cx} {l : Launch} {D : va_G} {zt : Nat × Nat × Nat × (Nat → Nat) × (Nat → Nat)} {q r : Nat → Nat} {d g : Nat → ClassId} {b L : Nat} {xs : Nat → Int32} (hk : GC κ l D zt code 4 RL lw_tbl (tyX d ++ tyM g) room_1) (hX : GX κ b L xs) (i : Int32) (h0 : 0 ≤ i.toInt) (h6 : i.toInt + 6 ≤ (L : Int)) (hL : L ≤ 3072) (I : Nat → Int32) (A : Nat → Nat → Int32) (J : Nat → Int32) (B : Nat → Nat → Int32) (M : Nat → Nat → Int64) (hI : IvX I A) (hJ : IvM J B) (hS : RA I A J B M) (tail : ∀ (I : Nat → Int32) (A : Nat → Nat → Int32) (J : Nat → Int32) (B : Nat → Nat → Int32) (M : Nat → Nat → Int64), IvX I A → IvM J B → RA I A J B M → GW κ 4 82 21282 (wX q d I A ++ wM r g J B M) 1465 [(3, .int i), (2, .ref (r 0)), (1, .ref (q 0)), (0, .ref b)] []) : GW κ 4 82 21282 (wX q d I A ++ wM r g J B M) 1304 [(3, .int i), (2, .ref (r 0)), (1, .ref (q 0)), (0, .ref b)] [] := by
  refine g_aload_n hk dL_law_1304 rfl ?_
  refine g_aload_n hk dL_law_1305 rfl ?_
  refine g_iload_n hk dL_law_1306 rfl ?_
  refine g_iconst (v := 1) hk dL_law_1307 (by decide) ?_
  refine g_iadd hk dL_law_1308 ?_
  refine g_topi (fun y1 ey1 => ?_)
  have hy1 : y1.toInt = i.toInt + 1 := i32_add ey1 rfl (by decide) (by omega) (by omega)
  refine g_sld (v := xs y1.toNatClampNeg) hk hX (vp_in_iff.mpr ⟨by omega, by omega⟩) rfl dL_law_1309 ?_
  refine g_callV (n := 1) hk (k289_X11_turns l D zt q d I A (xs y1.toNatClampNeg) hI) (SP.pre _ _) (fun q h => List.mem_append_left _ h) (gi_V zw_1239 zw_1240 zw_1241 zw_103 (gi_sub zi_k289_X11_turns zg_k289_X11_turns)) rfl rfl rfl (by decide +kernel) ⟨Nat.le_of_ble_eq_true rfl, Nat.le_of_ble_eq_true rfl⟩ 0 rfl rfl rfl rfl (Nat.le_of_ble_eq_true rfl) ⟨Nat.le_of_ble_eq_true rfl, Nat.le_of_ble_eq_true rfl⟩ dL_law_1310 (fun v ty' w' hp hk' => ?_)
  obtain ⟨I3, A3, d3, a3, h3, v2, e3, rfl, rfl⟩ := hp
  show GW κ 4 82 21282 (wM r g J B M ++ wX q d I3 A3) 1313 [(3, .int i), (2, .ref (r 0)), (1, .ref (q 0)), (0, .ref b)] [.int v2]
  refine g_pop hk dL_law_1313 rfl ?_
  refine g_aload_n hk dL_law_1314 rfl ?_
  refine g_aload_n hk dL_law_1315 rfl ?_
  refine g_iload_n hk dL_law_1316 rfl ?_
  refine g_iconst (v := 1) hk dL_law_1317 (by decide) ?_
  refine g_iadd hk dL_law_1318 ?_
  refine g_topi (fun y4 ey4 => ?_)
  have qy4 : y4 = y1 := ey4.trans ey1.symm
  subst qy4
  refine g_sld (v := xs y4.toNatClampNeg) hk hX (vp_in_iff.mpr ⟨by omega, by omega⟩) rfl dL_law_1319 ?_
  refine g_callV (n := 1) hk (j211_X12_turns l D zt r g J B M (xs y4.toNatClampNeg) hJ) (SP.pre _ _) (fun q h => List.mem_append_right _ h) (gi_V zw_1903 zw_1904 zw_1905 zw_115 (gi_sub zi_j211_X12_turns zg_j211_X12_turns)) rfl rfl rfl (by decide +kernel) ⟨Nat.le_of_ble_eq_true rfl, Nat.le_of_ble_eq_true rfl⟩ 0 rfl rfl rfl rfl (Nat.le_of_ble_eq_true rfl) ⟨Nat.le_of_ble_eq_true rfl, Nat.le_of_ble_eq_true rfl⟩ dL_law_1320 (fun v ty' w' hp hk' => ?_)
  obtain ⟨I6, A6, L6, d6, a6, h6, v5, l6, e6, rfl, rfl⟩ := hp
  show GW κ 4 82 21282 (wX q d I3 A3 ++ wM r g I6 A6 L6) 1323 [(3, .int i), (2, .ref (r 0)), (1, .ref (q 0)), (0, .ref b)] [.int v5]
  refine g_pop hk dL_law_1323 rfl ?_
  refine g_goto (tgt := 1465) hk dL_law_1324 (by decide) ?_
  exact tail I3 A3 I6 A6 L6 h3 h6 ⟨⟨(RT.keep hS.1.1 (d3 0 rfl) (a3 0 rfl) (d6 1 rfl) (a6 0 rfl) l6), (((d3 12 rfl).trans hS.1.2.1).trans (d6 10 rfl).symm), (((d3 13 rfl).trans hS.1.2.2).trans (d6 14 rfl).symm)⟩, (hS.2.1.keep (d3 17 rfl) (d3 18 rfl) (d3 20 rfl) (d3 21 rfl) (a3 7 rfl) (a3 10 rfl) (a3 11 rfl) (a3 12 rfl) (a3 13 rfl) (d6 22 rfl) (a6 17 rfl) (a6 22 rfl)), (hS.2.2.1.keep (d3 19 rfl) (a3 8 rfl) (a3 9 rfl) (d6 15 rfl) (a6 10 rfl) (a6 11 rfl) (a6 12 rfl)), (hS.2.2.2.keep (d3 22 rfl) (d3 23 rfl) (d3 24 rfl) (d3 25 rfl) (d3 26 rfl) (d3 27 rfl) (a3 15 rfl) (a3 16 rfl) (a3 17 rfl) (a3 18 rfl) (a3 19 rfl) (a3 20 rfl) (a6 27 rfl) (a6 28 rfl))⟩
set_option maxHeartbeats 4000000 in
set_option maxRecDepth 100000 in
theorem law_35 {κ : Cx} {l : Launch} {D : va_G} {zt : Nat × Nat × Nat × (Nat → Nat) × (Nat → Nat)} {q r : Nat → Nat} {d g : Nat → ClassId} {b L : Nat} {xs : Nat → Int32} (hk : GC κ l D zt code 4 RL lw_tbl (tyX d ++ tyM g) room_1) (hX : GX κ b L xs) (i : Int32) (h0 : 0 ≤ i.toInt) (h6 : i.toInt + 6 ≤ (L : Int)) (hL : L ≤ 3072) (I : Nat → Int32) (A : Nat → Nat → Int32) (J : Nat → Int32) (B : Nat → Nat → Int32) (M : Nat → Nat → Int64) (hI : IvX I A) (hJ : IvM J B) (hS : RA I A J B M) (tail : ∀ (I : Nat → Int32) (A : Nat → Nat → Int32) (J : Nat → Int32) (B : Nat → Nat → Int32) (M : Nat → Nat → Int64), IvX I A → IvM J B → RA I A J B M → GW κ 4 82 21282 (wX q d I A ++ wM r g J B M) 1465 [(3, .int i), (2, .ref (r 0)), (1, .ref (q 0)), (0, .ref b)] []) : GW κ 4 82 21282 (wX q d I A ++ wM r g J B M) 1327 [(3, .int i), (2, .ref (r 0)), (1, .ref (q 0)), (0, .ref b)] [] := by
  refine g_aload_n hk dL_law_1327 rfl ?_
  refine g_aload_n hk dL_law_1328 rfl ?_
  refine g_iload_n hk dL_law_1329 rfl ?_
  refine g_iconst (v := 1) hk dL_law_1330 (by decide) ?_
  refine g_iadd hk dL_law_1331 ?_
  refine g_topi (fun y1 ey1 => ?_)
  have hy1 : y1.toInt = i.toInt + 1 := i32_add ey1 rfl (by decide) (by omega) (by omega)
  refine g_sld (v := xs y1.toNatClampNeg) hk hX (vp_in_iff.mpr ⟨by omega, by omega⟩) rfl dL_law_1332 ?_
  refine g_callV (n := 1) hk (k306_X11_flat l D zt q d I A (xs y1.toNatClampNeg) hI) (SP.pre _ _) (fun q h => List.mem_append_left _ h) (gi_V zw_1305 zw_1306 zw_1307 zw_103 (gi_sub zi_k306_X11_flat zg_k306_X11_flat)) rfl rfl rfl (by decide +kernel) ⟨Nat.le_of_ble_eq_true rfl, Nat.le_of_ble_eq_true rfl⟩ 0 rfl rfl rfl rfl (Nat.le_of_ble_eq_true rfl) ⟨Nat.le_of_ble_eq_true rfl, Nat.le_of_ble_eq_true rfl⟩ dL_law_1333 (fun v ty' w' hp hk' => ?_)
  obtain ⟨v2, e3, rfl, rfl⟩ := hp
  show GW κ 4 82 21282 (wM r g J B M ++ wX q d I A) 1336 [(3, .int i), (2, .ref (r 0)), (1, .ref (q 0)), (0, .ref b)] [.int v2]
  refine g_pop hk dL_law_1336 rfl ?_
  refine g_aload_n hk dL_law_1337 rfl ?_
  refine g_aload_n hk dL_law_1338 rfl ?_
  refine g_iload_n hk dL_law_1339 rfl ?_
  refine g_iconst (v := 1) hk dL_law_1340 (by decide) ?_
  refine g_iadd hk dL_law_1341 ?_
  refine g_topi (fun y4 ey4 => ?_)
  have qy4 : y4 = y1 := ey4.trans ey1.symm
  subst qy4
  refine g_sld (v := xs y4.toNatClampNeg) hk hX (vp_in_iff.mpr ⟨by omega, by omega⟩) rfl dL_law_1342 ?_
  refine g_callV (n := 1) hk (j212_X12_flat l D zt r g J B M (xs y4.toNatClampNeg) hJ) (SP.pre _ _) (fun q h => List.mem_append_right _ h) (gi_V zw_1743 zw_1744 zw_1745 zw_115 (gi_sub zi_j212_X12_flat zg_j212_X12_flat)) rfl rfl rfl (by decide +kernel) ⟨Nat.le_of_ble_eq_true rfl, Nat.le_of_ble_eq_true rfl⟩ 0 rfl rfl rfl rfl (Nat.le_of_ble_eq_true rfl) ⟨Nat.le_of_ble_eq_true rfl, Nat.le_of_ble_eq_true rfl⟩ dL_law_1343 (fun v ty' w' hp hk' => ?_)
  obtain ⟨v5, e6, rfl, rfl⟩ := hp
  show GW κ 4 82 21282 (wX q d I A ++ wM r g J B M) 1346 [(3, .int i), (2, .ref (r 0)), (1, .ref (q 0)), (0, .ref b)] [.int v5]
  refine g_pop hk dL_law_1346 rfl ?_
  refine g_goto (tgt := 1465) hk dL_law_1347 (by decide) ?_
  exact tail I A J B M hI hJ ⟨⟨(RT.keep hS.1.1 rfl rfl rfl rfl rfl), hS.1.2.1, hS.1.2.2⟩, (hS.2.1.keep rfl rfl rfl rfl rfl rfl rfl rfl rfl rfl rfl rfl), (hS.2.2.1.keep rfl rfl rfl rfl rfl rfl rfl), (hS.2.2.2.keep rfl rfl rfl rfl rfl rfl rfl rfl rfl rfl rfl rfl rfl rfl)⟩
set_option maxHeartbeats 4000000 in
set_option maxRecDepth 100000 in
theorem law_36 {κ : Cx} {l : Launch} {D : va_G} {zt : Nat × Nat × Nat × (Nat → Nat) × (Nat → Nat)} {q r : Nat → Nat} {d g : Nat → ClassId} {b L : Nat} {xs : Nat → Int32} (hk : GC κ l D zt code 4 RL lw_tbl (tyX d ++ tyM g) room_1) (hX : GX κ b L xs) (i : Int32) (h0 : 0 ≤ i.toInt) (h6 : i.toInt + 6 ≤ (L : Int)) (hL : L ≤ 3072) (I : Nat → Int32) (A : Nat → Nat → Int32) (J : Nat → Int32) (B : Nat → Nat → Int32) (M : Nat → Nat → Int64) (hI : IvX I A) (hJ : IvM J B) (hS : RA I A J B M) (tail : ∀ (I : Nat → Int32) (A : Nat → Nat → Int32) (J : Nat → Int32) (B : Nat → Nat → Int32) (M : Nat → Nat → Int64), IvX I A → IvM J B → RA I A J B M → GW κ 4 82 21282 (wX q d I A ++ wM r g J B M) 1465 [(3, .int i), (2, .ref (r 0)), (1, .ref (q 0)), (0, .ref b)] []) : GW κ 4 82 21282 (wX q d I A ++ wM r g J B M) 1350 [(3, .int i), (2, .ref (r 0)), (1, .ref (q 0)), (0, .ref b)] [] := by
  refine g_aload_n hk dL_law_1350 rfl ?_
  refine g_aload_n hk dL_law_1351 rfl ?_
  refine g_iload_n hk dL_law_1352 rfl ?_
  refine g_iconst (v := 1) hk dL_law_1353 (by decide) ?_
  refine g_iadd hk dL_law_1354 ?_
  refine g_topi (fun y1 ey1 => ?_)
  have hy1 : y1.toInt = i.toInt + 1 := i32_add ey1 rfl (by decide) (by omega) (by omega)
  refine g_sld (v := xs y1.toNatClampNeg) hk hX (vp_in_iff.mpr ⟨by omega, by omega⟩) rfl dL_law_1355 ?_
  refine g_callV (n := 1) hk (k308_X11_whole l D zt q d I A (xs y1.toNatClampNeg) hI) (SP.pre _ _) (fun q h => List.mem_append_left _ h) (gi_V zw_1313 zw_1314 zw_1315 zw_103 (gi_sub zi_k308_X11_whole zg_k308_X11_whole)) rfl rfl rfl (by decide +kernel) ⟨Nat.le_of_ble_eq_true rfl, Nat.le_of_ble_eq_true rfl⟩ 0 rfl rfl rfl rfl (Nat.le_of_ble_eq_true rfl) ⟨Nat.le_of_ble_eq_true rfl, Nat.le_of_ble_eq_true rfl⟩ dL_law_1356 (fun v ty' w' hp hk' => ?_)
  obtain ⟨v2, e3, rfl, rfl⟩ := hp
  show GW κ 4 82 21282 (wM r g J B M ++ wX q d I A) 1359 [(3, .int i), (2, .ref (r 0)), (1, .ref (q 0)), (0, .ref b)] [.int v2]
  refine g_pop hk dL_law_1359 rfl ?_
  refine g_aload_n hk dL_law_1360 rfl ?_
  refine g_aload_n hk dL_law_1361 rfl ?_
  refine g_iload_n hk dL_law_1362 rfl ?_
  refine g_iconst (v := 1) hk dL_law_1363 (by decide) ?_
  refine g_iadd hk dL_law_1364 ?_
  refine g_topi (fun y4 ey4 => ?_)
  have qy4 : y4 = y1 := ey4.trans ey1.symm
  subst qy4
  refine g_sld (v := xs y4.toNatClampNeg) hk hX (vp_in_iff.mpr ⟨by omega, by omega⟩) rfl dL_law_1365 ?_
  refine g_callV (n := 1) hk (j213_X12_whole l D zt r g J B M (xs y4.toNatClampNeg) hJ) (SP.pre _ _) (fun q h => List.mem_append_right _ h) (gi_V zw_1747 zw_1748 zw_1749 zw_115 (gi_sub zi_j213_X12_whole zg_j213_X12_whole)) rfl rfl rfl (by decide +kernel) ⟨Nat.le_of_ble_eq_true rfl, Nat.le_of_ble_eq_true rfl⟩ 0 rfl rfl rfl rfl (Nat.le_of_ble_eq_true rfl) ⟨Nat.le_of_ble_eq_true rfl, Nat.le_of_ble_eq_true rfl⟩ dL_law_1366 (fun v ty' w' hp hk' => ?_)
  obtain ⟨v5, c6, c7, e8, rfl, rfl⟩ := hp
  show GW κ 4 82 21282 (wX q d I A ++ wM r g J B M) 1369 [(3, .int i), (2, .ref (r 0)), (1, .ref (q 0)), (0, .ref b)] [.int v5]
  refine g_pop hk dL_law_1369 rfl ?_
  refine g_goto (tgt := 1465) hk dL_law_1370 (by decide) ?_
  exact tail I A J B M hI hJ ⟨⟨(RT.keep hS.1.1 rfl rfl rfl rfl rfl), hS.1.2.1, hS.1.2.2⟩, (hS.2.1.keep rfl rfl rfl rfl rfl rfl rfl rfl rfl rfl rfl rfl), (hS.2.2.1.keep rfl rfl rfl rfl rfl rfl rfl), (hS.2.2.2.keep rfl rfl rfl rfl rfl rfl rfl rfl rfl rfl rfl rfl rfl rfl)⟩
set_option maxHeartbeats 4000000 in
set_option maxRecDepth 100000 in
theorem law_37 {κ : Cx} {l : Launch} {D : va_G} {zt : Nat × Nat × Nat × (Nat → Nat) × (Nat → Nat)} {q r : Nat → Nat} {d g : Nat → ClassId} {b L : Nat} {xs : Nat → Int32} (hk : GC κ l D zt code 4 RL lw_tbl (tyX d ++ tyM g) room_1) (hX : GX κ b L xs) (i : Int32) (h0 : 0 ≤ i.toInt) (h6 : i.toInt + 6 ≤ (L : Int)) (hL : L ≤ 3072) (I : Nat → Int32) (A : Nat → Nat → Int32) (J : Nat → Int32) (B : Nat → Nat → Int32) (M : Nat → Nat → Int64) (hI : IvX I A) (hJ : IvM J B) (hS : RA I A J B M) (tail : ∀ (I : Nat → Int32) (A : Nat → Nat → Int32) (J : Nat → Int32) (B : Nat → Nat → Int32) (M : Nat → Nat → Int64), IvX I A → IvM J B → RA I A J B M → GW κ 4 82 21282 (wX q d I A ++ wM r g J B M) 1465 [(3, .int i), (2, .ref (r 0)), (1, .ref (q 0)), (0, .ref b)] []) : GW κ 4 82 21282 (wX q d I A ++ wM r g J B M) 1373 [(3, .int i), (2, .ref (r 0)), (1, .ref (q 0)), (0, .ref b)] [] := by
  refine g_aload_n hk dL_law_1373 rfl ?_
  refine g_aload_n hk dL_law_1374 rfl ?_
  refine g_iload_n hk dL_law_1375 rfl ?_
  refine g_iconst (v := 1) hk dL_law_1376 (by decide) ?_
  refine g_iadd hk dL_law_1377 ?_
  refine g_topi (fun y1 ey1 => ?_)
  have hy1 : y1.toInt = i.toInt + 1 := i32_add ey1 rfl (by decide) (by omega) (by omega)
  refine g_sld (v := xs y1.toNatClampNeg) hk hX (vp_in_iff.mpr ⟨by omega, by omega⟩) rfl dL_law_1378 ?_
  refine g_callV (n := 1) hk (k260_X11_fired l D zt q d I A (xs y1.toNatClampNeg) hI) (SP.pre _ _) (fun q h => List.mem_append_left _ h) (gi_V zw_1105 zw_1106 zw_1107 zw_103 (gi_sub zi_k260_X11_fired zg_k260_X11_fired)) rfl rfl rfl (by decide +kernel) ⟨Nat.le_of_ble_eq_true rfl, Nat.le_of_ble_eq_true rfl⟩ 0 rfl rfl rfl rfl (Nat.le_of_ble_eq_true rfl) ⟨Nat.le_of_ble_eq_true rfl, Nat.le_of_ble_eq_true rfl⟩ dL_law_1379 (fun v ty' w' hp hk' => ?_)
  obtain ⟨I3, A3, d3, a3, h3, v2, e3, rfl, rfl⟩ := hp
  show GW κ 4 82 21282 (wM r g J B M ++ wX q d I3 A3) 1382 [(3, .int i), (2, .ref (r 0)), (1, .ref (q 0)), (0, .ref b)] [.int v2]
  refine g_pop hk dL_law_1382 rfl ?_
  refine g_aload_n hk dL_law_1383 rfl ?_
  refine g_aload_n hk dL_law_1384 rfl ?_
  refine g_iload_n hk dL_law_1385 rfl ?_
  refine g_iconst (v := 1) hk dL_law_1386 (by decide) ?_
  refine g_iadd hk dL_law_1387 ?_
  refine g_topi (fun y4 ey4 => ?_)
  have qy4 : y4 = y1 := ey4.trans ey1.symm
  subst qy4
  refine g_sld (v := xs y4.toNatClampNeg) hk hX (vp_in_iff.mpr ⟨by omega, by omega⟩) rfl dL_law_1388 ?_
  refine g_callV (n := 1) hk (j214_X12_fired l D zt r g J B M (xs y4.toNatClampNeg) hJ) (SP.pre _ _) (fun q h => List.mem_append_right _ h) (gi_V zw_1907 zw_1908 zw_1909 zw_115 (gi_sub zi_j214_X12_fired zg_j214_X12_fired)) rfl rfl rfl (by decide +kernel) ⟨Nat.le_of_ble_eq_true rfl, Nat.le_of_ble_eq_true rfl⟩ 0 rfl rfl rfl rfl (Nat.le_of_ble_eq_true rfl) ⟨Nat.le_of_ble_eq_true rfl, Nat.le_of_ble_eq_true rfl⟩ dL_law_1389 (fun v ty' w' hp hk' => ?_)
  obtain ⟨I6, A6, L6, d6, a6, h6, v5, l6, e6, rfl, rfl⟩ := hp
  show GW κ 4 82 21282 (wX q d I3 A3 ++ wM r g I6 A6 L6) 1392 [(3, .int i), (2, .ref (r 0)), (1, .ref (q 0)), (0, .ref b)] [.int v5]
  refine g_pop hk dL_law_1392 rfl ?_
  refine g_goto (tgt := 1465) hk dL_law_1393 (by decide) ?_
  exact tail I3 A3 I6 A6 L6 h3 h6 ⟨⟨(RT.keep hS.1.1 (d3 0 rfl) (a3 0 rfl) (d6 1 rfl) (a6 0 rfl) l6), (((d3 12 rfl).trans hS.1.2.1).trans (d6 10 rfl).symm), (((d3 13 rfl).trans hS.1.2.2).trans (d6 14 rfl).symm)⟩, (hS.2.1.keep (d3 17 rfl) (d3 18 rfl) (d3 20 rfl) (d3 21 rfl) (a3 7 rfl) (a3 10 rfl) (a3 11 rfl) (a3 12 rfl) (a3 13 rfl) (d6 22 rfl) (a6 17 rfl) (a6 22 rfl)), (hS.2.2.1.keep (d3 19 rfl) (a3 8 rfl) (a3 9 rfl) (d6 15 rfl) (a6 10 rfl) (a6 11 rfl) (a6 12 rfl)), (hS.2.2.2.keep (d3 22 rfl) (d3 23 rfl) (d3 24 rfl) (d3 25 rfl) (d3 26 rfl) (d3 27 rfl) (a3 15 rfl) (a3 16 rfl) (a3 17 rfl) (a3 18 rfl) (a3 19 rfl) (a3 20 rfl) (a6 27 rfl) (a6 28 rfl))⟩
set_option maxHeartbeats 4000000 in
set_option maxRecDepth 100000 in
theorem law_38 {κ : Cx} {l : Launch} {D : va_G} {zt : Nat × Nat × Nat × (Nat → Nat) × (Nat → Nat)} {q r : Nat → Nat} {d g : Nat → ClassId} {b L : Nat} {xs : Nat → Int32} (hk : GC κ l D zt code 4 RL lw_tbl (tyX d ++ tyM g) room_1) (hX : GX κ b L xs) (i : Int32) (h0 : 0 ≤ i.toInt) (h6 : i.toInt + 6 ≤ (L : Int)) (hL : L ≤ 3072) (I : Nat → Int32) (A : Nat → Nat → Int32) (J : Nat → Int32) (B : Nat → Nat → Int32) (M : Nat → Nat → Int64) (hI : IvX I A) (hJ : IvM J B) (hS : RA I A J B M) (tail : ∀ (I : Nat → Int32) (A : Nat → Nat → Int32) (J : Nat → Int32) (B : Nat → Nat → Int32) (M : Nat → Nat → Int64), IvX I A → IvM J B → RA I A J B M → GW κ 4 82 21282 (wX q d I A ++ wM r g J B M) 1465 [(3, .int i), (2, .ref (r 0)), (1, .ref (q 0)), (0, .ref b)] []) : GW κ 4 82 21282 (wX q d I A ++ wM r g J B M) 1396 [(3, .int i), (2, .ref (r 0)), (1, .ref (q 0)), (0, .ref b)] [] := by
  refine g_aload_n hk dL_law_1396 rfl ?_
  refine g_aload_n hk dL_law_1397 rfl ?_
  refine g_iload_n hk dL_law_1398 rfl ?_
  refine g_iconst (v := 1) hk dL_law_1399 (by decide) ?_
  refine g_iadd hk dL_law_1400 ?_
  refine g_topi (fun y1 ey1 => ?_)
  have hy1 : y1.toInt = i.toInt + 1 := i32_add ey1 rfl (by decide) (by omega) (by omega)
  refine g_sld (v := xs y1.toNatClampNeg) hk hX (vp_in_iff.mpr ⟨by omega, by omega⟩) rfl dL_law_1401 ?_
  refine g_callV (n := 1) hk (k311_X11_hold l D zt q d I A (xs y1.toNatClampNeg) hI) (SP.pre _ _) (fun q h => List.mem_append_left _ h) (gi_V zw_1326 zw_1327 zw_1328 zw_103 (gi_sub zi_k311_X11_hold zg_k311_X11_hold)) rfl rfl rfl (by decide +kernel) ⟨Nat.le_of_ble_eq_true rfl, Nat.le_of_ble_eq_true rfl⟩ 0 rfl rfl rfl rfl (Nat.le_of_ble_eq_true rfl) ⟨Nat.le_of_ble_eq_true rfl, Nat.le_of_ble_eq_true rfl⟩ dL_law_1402 (fun v ty' w' hp hk' => ?_)
  obtain ⟨I3, A3, d3, a3, h3, v2, r4, c5, c6, e3, rfl, rfl⟩ := hp
  show GW κ 4 82 21282 (wM r g J B M ++ wX q d I3 A3) 1405 [(3, .int i), (2, .ref (r 0)), (1, .ref (q 0)), (0, .ref b)] [.int v2]
  refine g_pop hk dL_law_1405 rfl ?_
  refine g_aload_n hk dL_law_1406 rfl ?_
  refine g_aload_n hk dL_law_1407 rfl ?_
  refine g_iload_n hk dL_law_1408 rfl ?_
  refine g_iconst (v := 1) hk dL_law_1409 (by decide) ?_
  refine g_iadd hk dL_law_1410 ?_
  refine g_topi (fun y7 ey7 => ?_)
  have qy7 : y7 = y1 := ey7.trans ey1.symm
  subst qy7
  refine g_sld (v := xs y7.toNatClampNeg) hk hX (vp_in_iff.mpr ⟨by omega, by omega⟩) rfl dL_law_1411 ?_
  refine g_callV (n := 1) hk (j215_X12_hold l D zt r g J B M (xs y7.toNatClampNeg) hJ) (SP.pre _ _) (fun q h => List.mem_append_right _ h) (gi_V zw_1935 zw_1936 zw_1937 zw_115 (gi_sub zi_j215_X12_hold zg_j215_X12_hold)) rfl rfl rfl (by decide +kernel) ⟨Nat.le_of_ble_eq_true rfl, Nat.le_of_ble_eq_true rfl⟩ 0 rfl rfl rfl rfl (Nat.le_of_ble_eq_true rfl) ⟨Nat.le_of_ble_eq_true rfl, Nat.le_of_ble_eq_true rfl⟩ dL_law_1412 (fun v ty' w' hp hk' => ?_)
  obtain ⟨I9, A9, L9, d9, a9, h9, v8, r10, l9, c11, c12, e9, rfl, rfl⟩ := hp
  show GW κ 4 82 21282 (wX q d I3 A3 ++ wM r g I9 A9 L9) 1415 [(3, .int i), (2, .ref (r 0)), (1, .ref (q 0)), (0, .ref b)] [.int v8]
  refine g_pop hk dL_law_1415 rfl ?_
  refine g_goto (tgt := 1465) hk dL_law_1416 (by decide) ?_
  exact tail I3 A3 I9 A9 L9 h3 h9 ⟨⟨(RT.keep hS.1.1 (d3 0 rfl) (a3 0 rfl) (d9 1 rfl) (a9 0 rfl) l9), (((d3 12 rfl).trans hS.1.2.1).trans (d9 10 rfl).symm), (((d3 13 rfl).trans hS.1.2.2).trans (d9 14 rfl).symm)⟩, (hS.2.1.keep (d3 17 rfl) (d3 18 rfl) (d3 20 rfl) (d3 21 rfl) (a3 7 rfl) (a3 10 rfl) (a3 11 rfl) (a3 12 rfl) (a3 13 rfl) (d9 22 rfl) (a9 17 rfl) (a9 22 rfl)), (hS.2.2.1.keep (d3 19 rfl) (a3 8 rfl) (a3 9 rfl) (d9 15 rfl) (a9 10 rfl) (a9 11 rfl) (a9 12 rfl)), (SLS.hold hS.2.2.2 hS.2.1 e3 e9).1⟩
set_option maxHeartbeats 4000000 in
set_option maxRecDepth 100000 in
theorem law_39 {κ : Cx} {l : Launch} {D : va_G} {zt : Nat × Nat × Nat × (Nat → Nat) × (Nat → Nat)} {q r : Nat → Nat} {d g : Nat → ClassId} {b L : Nat} {xs : Nat → Int32} (hk : GC κ l D zt code 4 RL lw_tbl (tyX d ++ tyM g) room_1) (hX : GX κ b L xs) (i : Int32) (h0 : 0 ≤ i.toInt) (h6 : i.toInt + 6 ≤ (L : Int)) (hL : L ≤ 3072) (I : Nat → Int32) (A : Nat → Nat → Int32) (J : Nat → Int32) (B : Nat → Nat → Int32) (M : Nat → Nat → Int64) (hI : IvX I A) (hJ : IvM J B) (hS : RA I A J B M) (tail : ∀ (I : Nat → Int32) (A : Nat → Nat → Int32) (J : Nat → Int32) (B : Nat → Nat → Int32) (M : Nat → Nat → Int64), IvX I A → IvM J B → RA I A J B M → GW κ 4 82 21282 (wX q d I A ++ wM r g J B M) 1465 [(3, .int i), (2, .ref (r 0)), (1, .ref (q 0)), (0, .ref b)] []) : GW κ 4 82 21282 (wX q d I A ++ wM r g J B M) 1419 [(3, .int i), (2, .ref (r 0)), (1, .ref (q 0)), (0, .ref b)] [] := by
  refine g_aload_n hk dL_law_1419 rfl ?_
  refine g_aload_n hk dL_law_1420 rfl ?_
  refine g_iload_n hk dL_law_1421 rfl ?_
  refine g_iconst (v := 1) hk dL_law_1422 (by decide) ?_
  refine g_iadd hk dL_law_1423 ?_
  refine g_topi (fun y1 ey1 => ?_)
  have hy1 : y1.toInt = i.toInt + 1 := i32_add ey1 rfl (by decide) (by omega) (by omega)
  refine g_sld (v := xs y1.toNatClampNeg) hk hX (vp_in_iff.mpr ⟨by omega, by omega⟩) rfl dL_law_1424 ?_
  refine g_callV (n := 1) hk (k321_X11_restore l D zt q d I A (xs y1.toNatClampNeg) hI) (SP.pre _ _) (fun q h => List.mem_append_left _ h) (gi_V zw_1335 zw_1336 zw_1337 zw_103 (gi_sub zi_k321_X11_restore zg_k321_X11_restore)) rfl rfl rfl (by decide +kernel) ⟨Nat.le_of_ble_eq_true rfl, Nat.le_of_ble_eq_true rfl⟩ 0 rfl rfl rfl rfl (Nat.le_of_ble_eq_true rfl) ⟨Nat.le_of_ble_eq_true rfl, Nat.le_of_ble_eq_true rfl⟩ dL_law_1425 (fun v ty' w' hp hk' => ?_)
  obtain ⟨I3, A3, d3, a3, h3, v2, c4, c5, e3, rfl, rfl⟩ := hp
  show GW κ 4 82 21282 (wM r g J B M ++ wX q d I3 A3) 1428 [(3, .int i), (2, .ref (r 0)), (1, .ref (q 0)), (0, .ref b)] [.int v2]
  refine g_pop hk dL_law_1428 rfl ?_
  refine g_aload_n hk dL_law_1429 rfl ?_
  refine g_aload_n hk dL_law_1430 rfl ?_
  refine g_iload_n hk dL_law_1431 rfl ?_
  refine g_iconst (v := 1) hk dL_law_1432 (by decide) ?_
  refine g_iadd hk dL_law_1433 ?_
  refine g_topi (fun y6 ey6 => ?_)
  have qy6 : y6 = y1 := ey6.trans ey1.symm
  subst qy6
  refine g_sld (v := xs y6.toNatClampNeg) hk hX (vp_in_iff.mpr ⟨by omega, by omega⟩) rfl dL_law_1434 ?_
  refine g_callV (n := 1) hk (j216_X12_restore l D zt r g J B M (xs y6.toNatClampNeg) hJ) (SP.pre _ _) (fun q h => List.mem_append_right _ h) (gi_V zw_1939 zw_1940 zw_1941 zw_115 (gi_sub zi_j216_X12_restore zg_j216_X12_restore)) rfl rfl rfl (by decide +kernel) ⟨Nat.le_of_ble_eq_true rfl, Nat.le_of_ble_eq_true rfl⟩ 0 rfl rfl rfl rfl (Nat.le_of_ble_eq_true rfl) ⟨Nat.le_of_ble_eq_true rfl, Nat.le_of_ble_eq_true rfl⟩ dL_law_1435 (fun v ty' w' hp hk' => ?_)
  obtain ⟨I8, A8, L8, d8, a8, h8, v7, l8, c9, c10, e8, rfl, rfl⟩ := hp
  show GW κ 4 82 21282 (wX q d I3 A3 ++ wM r g I8 A8 L8) 1438 [(3, .int i), (2, .ref (r 0)), (1, .ref (q 0)), (0, .ref b)] [.int v7]
  refine g_pop hk dL_law_1438 rfl ?_
  refine g_goto (tgt := 1465) hk dL_law_1439 (by decide) ?_
  exact tail I3 A3 I8 A8 L8 h3 h8 ⟨⟨(RT.keep hS.1.1 (d3 0 rfl) (a3 0 rfl) (d8 1 rfl) (a8 0 rfl) l8), (((d3 12 rfl).trans hS.1.2.1).trans (d8 10 rfl).symm), (((d3 13 rfl).trans hS.1.2.2).trans (d8 14 rfl).symm)⟩, (HS.restore hS.2.2.2 hS.2.1 e3 e8).1, (hS.2.2.1.keep (d3 19 rfl) (a3 8 rfl) (a3 9 rfl) (d8 15 rfl) (a8 10 rfl) (a8 11 rfl) (a8 12 rfl)), (hS.2.2.2.keep (d3 22 rfl) (d3 23 rfl) (d3 24 rfl) (d3 25 rfl) (d3 26 rfl) (d3 27 rfl) (a3 15 rfl) (a3 16 rfl) (a3 17 rfl) (a3 18 rfl) (a3 19 rfl) (a3 20 rfl) (a8 27 rfl) (a8 28 rfl))⟩
set_option maxHeartbeats 4000000 in
set_option maxRecDepth 100000 in
theorem law_40 {κ : Cx} {l : Launch} {D : va_G} {zt : Nat × Nat × Nat × (Nat → Nat) × (Nat → Nat)} {q r : Nat → Nat} {d g : Nat → ClassId} {b L : Nat} {xs : Nat → Int32} (hk : GC κ l D zt code 4 RL lw_tbl (tyX d ++ tyM g) room_1) (hX : GX κ b L xs) (i : Int32) (h0 : 0 ≤ i.toInt) (h6 : i.toInt + 6 ≤ (L : Int)) (hL : L ≤ 3072) (I : Nat → Int32) (A : Nat → Nat → Int32) (J : Nat → Int32) (B : Nat → Nat → Int32) (M : Nat → Nat → Int64) (hI : IvX I A) (hJ : IvM J B) (hS : RA I A J B M) (tail : ∀ (I : Nat → Int32) (A : Nat → Nat → Int32) (J : Nat → Int32) (B : Nat → Nat → Int32) (M : Nat → Nat → Int64), IvX I A → IvM J B → RA I A J B M → GW κ 4 82 21282 (wX q d I A ++ wM r g J B M) 1465 [(3, .int i), (2, .ref (r 0)), (1, .ref (q 0)), (0, .ref b)] []) : GW κ 4 82 21282 (wX q d I A ++ wM r g J B M) 1442 [(3, .int i), (2, .ref (r 0)), (1, .ref (q 0)), (0, .ref b)] [] := by
  refine g_aload_n hk dL_law_1442 rfl ?_
  refine g_aload_n hk dL_law_1443 rfl ?_
  refine g_iload_n hk dL_law_1444 rfl ?_
  refine g_iconst (v := 1) hk dL_law_1445 (by decide) ?_
  refine g_iadd hk dL_law_1446 ?_
  refine g_topi (fun y1 ey1 => ?_)
  have hy1 : y1.toInt = i.toInt + 1 := i32_add ey1 rfl (by decide) (by omega) (by omega)
  refine g_sld (v := xs y1.toNatClampNeg) hk hX (vp_in_iff.mpr ⟨by omega, by omega⟩) rfl dL_law_1447 ?_
  refine g_callV (n := 1) hk (k337_X11_count l D zt q d I A (xs y1.toNatClampNeg) hI) (SP.pre _ _) (fun q h => List.mem_append_left _ h) (gi_V zw_1339 zw_1340 zw_1341 zw_103 (gi_sub zi_k337_X11_count zg_k337_X11_count)) rfl rfl rfl (by decide +kernel) ⟨Nat.le_of_ble_eq_true rfl, Nat.le_of_ble_eq_true rfl⟩ 0 rfl rfl rfl rfl (Nat.le_of_ble_eq_true rfl) ⟨Nat.le_of_ble_eq_true rfl, Nat.le_of_ble_eq_true rfl⟩ dL_law_1448 (fun v ty' w' hp hk' => ?_)
  obtain ⟨v2, e3, rfl, rfl⟩ := hp
  show GW κ 4 82 21282 (wM r g J B M ++ wX q d I A) 1451 [(3, .int i), (2, .ref (r 0)), (1, .ref (q 0)), (0, .ref b)] [.int v2]
  refine g_pop hk dL_law_1451 rfl ?_
  refine g_aload_n hk dL_law_1452 rfl ?_
  refine g_aload_n hk dL_law_1453 rfl ?_
  refine g_iload_n hk dL_law_1454 rfl ?_
  refine g_iconst (v := 1) hk dL_law_1455 (by decide) ?_
  refine g_iadd hk dL_law_1456 ?_
  refine g_topi (fun y4 ey4 => ?_)
  have qy4 : y4 = y1 := ey4.trans ey1.symm
  subst qy4
  refine g_sld (v := xs y4.toNatClampNeg) hk hX (vp_in_iff.mpr ⟨by omega, by omega⟩) rfl dL_law_1457 ?_
  refine g_callV (n := 1) hk (j217_X12_count l D zt r g J B M (xs y4.toNatClampNeg) hJ) (SP.pre _ _) (fun q h => List.mem_append_right _ h) (gi_V zw_1943 zw_1944 zw_1945 zw_115 (gi_sub zi_j217_X12_count zg_j217_X12_count)) rfl rfl rfl (by decide +kernel) ⟨Nat.le_of_ble_eq_true rfl, Nat.le_of_ble_eq_true rfl⟩ 0 rfl rfl rfl rfl (Nat.le_of_ble_eq_true rfl) ⟨Nat.le_of_ble_eq_true rfl, Nat.le_of_ble_eq_true rfl⟩ dL_law_1458 (fun v ty' w' hp hk' => ?_)
  obtain ⟨v5, e6, rfl, rfl⟩ := hp
  show GW κ 4 82 21282 (wX q d I A ++ wM r g J B M) 1461 [(3, .int i), (2, .ref (r 0)), (1, .ref (q 0)), (0, .ref b)] [.int v5]
  refine g_pop hk dL_law_1461 rfl ?_
  refine g_goto (tgt := 1465) hk dL_law_1462 (by decide) ?_
  exact tail I A J B M hI hJ ⟨⟨(RT.keep hS.1.1 rfl rfl rfl rfl rfl), hS.1.2.1, hS.1.2.2⟩, (hS.2.1.keep rfl rfl rfl rfl rfl rfl rfl rfl rfl rfl rfl rfl), (hS.2.2.1.keep rfl rfl rfl rfl rfl rfl rfl), (hS.2.2.2.keep rfl rfl rfl rfl rfl rfl rfl rfl rfl rfl rfl rfl rfl rfl)⟩
