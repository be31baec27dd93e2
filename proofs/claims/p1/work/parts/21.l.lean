set_option maxHeartbeats 4000000 in
set_option maxRecDepth 100000 in
theorem law_26 {κ : Cx} {l : Launch} {D : va_G} {zt : Nat × Nat × Nat} {q r : Nat → Nat} {d g : Nat → ClassId} {b L : Nat} {xs : Nat → Int32} (hk : GC κ l D zt code 4 RL lw_tbl (tyX d ++ tyM g) room_1) (hX : GX κ b L xs) (hL6 : L = 6) (tail : ∀ ws, GW κ 4 82 21282 ws 1465 [(3, .int 0), (2, .ref (r 0)), (1, .ref (q 0)), (0, .ref b)] []) : GW κ 4 82 21282 (wX q d iX0 aX0 ++ wM r g iM1 aM1 lM1) 1030 [(3, .int 0), (2, .ref (r 0)), (1, .ref (q 0)), (0, .ref b)] [] := by
  refine g_aload_n hk dL_law_1030 rfl ?_
  refine g_aload_n hk dL_law_1031 rfl ?_
  refine g_iload_n hk dL_law_1032 rfl ?_
  refine g_iconst (v := 1) hk dL_law_1033 (by decide) ?_
  refine g_iadd hk dL_law_1034 ?_
  refine g_norm (v := 1) (by decide) ?_
  refine g_sld (v := xs 1) hk hX (vp_in_iff.mpr ⟨by decide, by show (1 : Int) < (L : Int); omega⟩) rfl dL_law_1035 ?_
  refine g_aload_n hk dL_law_1036 rfl ?_
  refine g_iload_n hk dL_law_1037 rfl ?_
  refine g_iconst (v := 2) hk dL_law_1038 (by decide) ?_
  refine g_iadd hk dL_law_1039 ?_
  refine g_norm (v := 2) (by decide) ?_
  refine g_sld (v := xs 2) hk hX (vp_in_iff.mpr ⟨by decide, by show (2 : Int) < (L : Int); omega⟩) rfl dL_law_1040 ?_
  refine g_callV (n := 2) hk (m288_X11_pair l D zt d q (xs 1) (xs 2)) (SP.pre _ _) (fun q h => List.mem_append_left _ h) (gi_V zw_1285 zw_1286 zw_1287 zw_103 (gi_sub zi_m288_X11_pair zg_m288_X11_pair)) rfl rfl rfl (by decide +kernel) ⟨Nat.le_of_ble_eq_true rfl, Nat.le_of_ble_eq_true rfl⟩ 0 rfl rfl rfl rfl (Nat.le_of_ble_eq_true rfl) ⟨Nat.le_of_ble_eq_true rfl, Nat.le_of_ble_eq_true rfl⟩ dL_law_1041 (fun v ty' w' hp hk' => ?_)
  rcases hp with ⟨c3354, rfl, rfl⟩ | ⟨c3355, c3356, rfl, rfl⟩ | ⟨c3357, c3358, c3359, rfl, rfl⟩ | ⟨c3360, c3361, c3362, c3363, c3364, c3365, rfl, rfl⟩ | ⟨c3366, c3367, c3368, c3369, c3370, c3371, rfl, rfl⟩ | ⟨c3372, c3373, c3374, c3375, c3376, rfl, rfl⟩ | ⟨c3377, c3378, c3379, c3380, rfl, rfl⟩
  · show GW κ 4 82 21282 (wM r g iM1 aM1 lM1 ++ wX q d iX0 aX0) 1044 [(3, .int 0), (2, .ref (r 0)), (1, .ref (q 0)), (0, .ref b)] [.int (-1)]
    refine g_aload_n hk dL_law_1044 rfl ?_
    refine g_aload_n hk dL_law_1045 rfl ?_
    refine g_iload_n hk dL_law_1046 rfl ?_
    refine g_iconst (v := 1) hk dL_law_1047 (by decide) ?_
    refine g_iadd hk dL_law_1048 ?_
    refine g_norm (v := 1) (by decide) ?_
    refine g_sld (v := xs 1) hk hX (vp_in_iff.mpr ⟨by decide, by show (1 : Int) < (L : Int); omega⟩) rfl dL_law_1049 ?_
    refine g_aload_n hk dL_law_1050 rfl ?_
    refine g_iload_n hk dL_law_1051 rfl ?_
    refine g_iconst (v := 2) hk dL_law_1052 (by decide) ?_
    refine g_iadd hk dL_law_1053 ?_
    refine g_norm (v := 2) (by decide) ?_
    refine g_sld (v := xs 2) hk hX (vp_in_iff.mpr ⟨by decide, by show (2 : Int) < (L : Int); omega⟩) rfl dL_law_1054 ?_
    refine g_callV (n := 2) hk (m180_X12_pair l D zt g r (xs 1) (xs 2)) (SP.pre _ _) (fun q h => List.mem_append_right _ h) (gi_V zw_1927 zw_1928 zw_1929 zw_115 (gi_sub zi_m180_X12_pair zg_m180_X12_pair)) rfl rfl rfl (by decide +kernel) ⟨Nat.le_of_ble_eq_true rfl, Nat.le_of_ble_eq_true rfl⟩ 0 rfl rfl rfl rfl (Nat.le_of_ble_eq_true rfl) ⟨Nat.le_of_ble_eq_true rfl, Nat.le_of_ble_eq_true rfl⟩ dL_law_1055 (fun v ty' w' hp hk' => ?_)
    rcases hp with ⟨c3381, rfl, rfl⟩ | ⟨c3382, c3383, rfl, rfl⟩ | ⟨c3384, c3385, c3386, rfl, rfl⟩ | ⟨c3387, c3388, c3389, c3390, rfl, rfl⟩ | ⟨c3391, c3392, c3393, c3394, c3395, c3396, rfl, rfl⟩ | ⟨c3397, c3398, c3399, c3400, c3401, c3402, rfl, rfl⟩ | ⟨c3403, c3404, c3405, c3406, c3407, rfl, rfl⟩
    · show GW κ 4 82 21282 (wX q d iX0 aX0 ++ wM r g iM1 aM1 lM1) 1058 [(3, .int 0), (2, .ref (r 0)), (1, .ref (q 0)), (0, .ref b)] [.int (-1), .int (-1)]
      refine g_icmp_eq (tgt := 1465) (a := (-1)) (b := (-1)) hk dL_law_1058 (by decide) rfl rfl (fun _ => ?_) (fun z9 => absurd (show ((-1) : Int) = ((-1) : Int) from by decide) z9)
      exact tail _
    · show GW κ 4 82 21282 (wX q d iX0 aX0 ++ wM r g iM1 aM1 lM1) 1058 [(3, .int 0), (2, .ref (r 0)), (1, .ref (q 0)), (0, .ref b)] [.int (-1), .int (-1)]
      exfalso; omega
    · show GW κ 4 82 21282 (wX q d iX0 aX0 ++ wM r g iM1 aM1 lM1) 1058 [(3, .int 0), (2, .ref (r 0)), (1, .ref (q 0)), (0, .ref b)] [.int (-1), .int (-1)]
      exfalso; omega
    · show GW κ 4 82 21282 (wX q d iX0 aX0 ++ wM r g iM1 aM1 lM1) 1058 [(3, .int 0), (2, .ref (r 0)), (1, .ref (q 0)), (0, .ref b)] [.int (-1), .int (-1)]
      exfalso; omega
    · show GW κ 4 82 21282 (wX q d iX0 aX0 ++ wM r g iM1 (up2 aM1 18 (cp (aM1 17) (aM1 18) 165)) lM1) 1058 [(3, .int 0), (2, .ref (r 0)), (1, .ref (q 0)), (0, .ref b)] [.int (-2), .int (-1)]
      exfalso; omega
    · show GW κ 4 82 21282 (wX q d iX0 aX0 ++ wM r g iM1 (up2 aM1 18 (cp (aM1 17) (aM1 18) 165)) lM1) 1058 [(3, .int 0), (2, .ref (r 0)), (1, .ref (q 0)), (0, .ref b)] [.int (-2), .int (-1)]
      exfalso; omega
    · show GW κ 4 82 21282 (wX q d iX0 aX0 ++ wM r g iM1 (up2 aM1 18 (cp (aM1 17) (aM1 18) 165)) lM1) 1058 [(3, .int 0), (2, .ref (r 0)), (1, .ref (q 0)), (0, .ref b)] [.int (-2), .int (-1)]
      exfalso; omega
  · show GW κ 4 82 21282 (wM r g iM1 aM1 lM1 ++ wX q d iX0 aX0) 1044 [(3, .int 0), (2, .ref (r 0)), (1, .ref (q 0)), (0, .ref b)] [.int (-1)]
    refine g_aload_n hk dL_law_1044 rfl ?_
    refine g_aload_n hk dL_law_1045 rfl ?_
    refine g_iload_n hk dL_law_1046 rfl ?_
    refine g_iconst (v := 1) hk dL_law_1047 (by decide) ?_
    refine g_iadd hk dL_law_1048 ?_
    refine g_norm (v := 1) (by decide) ?_
    refine g_sld (v := xs 1) hk hX (vp_in_iff.mpr ⟨by decide, by show (1 : Int) < (L : Int); omega⟩) rfl dL_law_1049 ?_
    refine g_aload_n hk dL_law_1050 rfl ?_
    refine g_iload_n hk dL_law_1051 rfl ?_
    refine g_iconst (v := 2) hk dL_law_1052 (by decide) ?_
    refine g_iadd hk dL_law_1053 ?_
    refine g_norm (v := 2) (by decide) ?_
    refine g_sld (v := xs 2) hk hX (vp_in_iff.mpr ⟨by decide, by show (2 : Int) < (L : Int); omega⟩) rfl dL_law_1054 ?_
    refine g_callV (n := 2) hk (m180_X12_pair l D zt g r (xs 1) (xs 2)) (SP.pre _ _) (fun q h => List.mem_append_right _ h) (gi_V zw_1927 zw_1928 zw_1929 zw_115 (gi_sub zi_m180_X12_pair zg_m180_X12_pair)) rfl rfl rfl (by decide +kernel) ⟨Nat.le_of_ble_eq_true rfl, Nat.le_of_ble_eq_true rfl⟩ 0 rfl rfl rfl rfl (Nat.le_of_ble_eq_true rfl) ⟨Nat.le_of_ble_eq_true rfl, Nat.le_of_ble_eq_true rfl⟩ dL_law_1055 (fun v ty' w' hp hk' => ?_)
    rcases hp with ⟨c3408, rfl, rfl⟩ | ⟨c3409, c3410, rfl, rfl⟩ | ⟨c3411, c3412, c3413, rfl, rfl⟩ | ⟨c3414, c3415, c3416, c3417, rfl, rfl⟩ | ⟨c3418, c3419, c3420, c3421, c3422, c3423, rfl, rfl⟩ | ⟨c3424, c3425, c3426, c3427, c3428, c3429, rfl, rfl⟩ | ⟨c3430, c3431, c3432, c3433, c3434, rfl, rfl⟩
    · show GW κ 4 82 21282 (wX q d iX0 aX0 ++ wM r g iM1 aM1 lM1) 1058 [(3, .int 0), (2, .ref (r 0)), (1, .ref (q 0)), (0, .ref b)] [.int (-1), .int (-1)]
      exfalso; omega
    · show GW κ 4 82 21282 (wX q d iX0 aX0 ++ wM r g iM1 aM1 lM1) 1058 [(3, .int 0), (2, .ref (r 0)), (1, .ref (q 0)), (0, .ref b)] [.int (-1), .int (-1)]
      refine g_icmp_eq (tgt := 1465) (a := (-1)) (b := (-1)) hk dL_law_1058 (by decide) rfl rfl (fun _ => ?_) (fun z9 => absurd (show ((-1) : Int) = ((-1) : Int) from by decide) z9)
      exact tail _
    · show GW κ 4 82 21282 (wX q d iX0 aX0 ++ wM r g iM1 aM1 lM1) 1058 [(3, .int 0), (2, .ref (r 0)), (1, .ref (q 0)), (0, .ref b)] [.int (-1), .int (-1)]
      exfalso; omega
    · show GW κ 4 82 21282 (wX q d iX0 aX0 ++ wM r g iM1 aM1 lM1) 1058 [(3, .int 0), (2, .ref (r 0)), (1, .ref (q 0)), (0, .ref b)] [.int (-1), .int (-1)]
      exfalso; omega
    · show GW κ 4 82 21282 (wX q d iX0 aX0 ++ wM r g iM1 (up2 aM1 18 (cp (aM1 17) (aM1 18) 165)) lM1) 1058 [(3, .int 0), (2, .ref (r 0)), (1, .ref (q 0)), (0, .ref b)] [.int (-2), .int (-1)]
      exfalso; omega
    · show GW κ 4 82 21282 (wX q d iX0 aX0 ++ wM r g iM1 (up2 aM1 18 (cp (aM1 17) (aM1 18) 165)) lM1) 1058 [(3, .int 0), (2, .ref (r 0)), (1, .ref (q 0)), (0, .ref b)] [.int (-2), .int (-1)]
      exfalso; omega
    · show GW κ 4 82 21282 (wX q d iX0 aX0 ++ wM r g iM1 (up2 aM1 18 (cp (aM1 17) (aM1 18) 165)) lM1) 1058 [(3, .int 0), (2, .ref (r 0)), (1, .ref (q 0)), (0, .ref b)] [.int (-2), .int (-1)]
      exfalso; omega
  · show GW κ 4 82 21282 (wM r g iM1 aM1 lM1 ++ wX q d iX0 aX0) 1044 [(3, .int 0), (2, .ref (r 0)), (1, .ref (q 0)), (0, .ref b)] [.int (-1)]
    refine g_aload_n hk dL_law_1044 rfl ?_
    refine g_aload_n hk dL_law_1045 rfl ?_
    refine g_iload_n hk dL_law_1046 rfl ?_
    refine g_iconst (v := 1) hk dL_law_1047 (by decide) ?_
    refine g_iadd hk dL_law_1048 ?_
    refine g_norm (v := 1) (by decide) ?_
    refine g_sld (v := xs 1) hk hX (vp_in_iff.mpr ⟨by decide, by show (1 : Int) < (L : Int); omega⟩) rfl dL_law_1049 ?_
    refine g_aload_n hk dL_law_1050 rfl ?_
    refine g_iload_n hk dL_law_1051 rfl ?_
    refine g_iconst (v := 2) hk dL_law_1052 (by decide) ?_
    refine g_iadd hk dL_law_1053 ?_
    refine g_norm (v := 2) (by decide) ?_
    refine g_sld (v := xs 2) hk hX (vp_in_iff.mpr ⟨by decide, by show (2 : Int) < (L : Int); omega⟩) rfl dL_law_1054 ?_
    refine g_callV (n := 2) hk (m180_X12_pair l D zt g r (xs 1) (xs 2)) (SP.pre _ _) (fun q h => List.mem_append_right _ h) (gi_V zw_1927 zw_1928 zw_1929 zw_115 (gi_sub zi_m180_X12_pair zg_m180_X12_pair)) rfl rfl rfl (by decide +kernel) ⟨Nat.le_of_ble_eq_true rfl, Nat.le_of_ble_eq_true rfl⟩ 0 rfl rfl rfl rfl (Nat.le_of_ble_eq_true rfl) ⟨Nat.le_of_ble_eq_true rfl, Nat.le_of_ble_eq_true rfl⟩ dL_law_1055 (fun v ty' w' hp hk' => ?_)
    rcases hp with ⟨c3435, rfl, rfl⟩ | ⟨c3436, c3437, rfl, rfl⟩ | ⟨c3438, c3439, c3440, rfl, rfl⟩ | ⟨c3441, c3442, c3443, c3444, rfl, rfl⟩ | ⟨c3445, c3446, c3447, c3448, c3449, c3450, rfl, rfl⟩ | ⟨c3451, c3452, c3453, c3454, c3455, c3456, rfl, rfl⟩ | ⟨c3457, c3458, c3459, c3460, c3461, rfl, rfl⟩
    · show GW κ 4 82 21282 (wX q d iX0 aX0 ++ wM r g iM1 aM1 lM1) 1058 [(3, .int 0), (2, .ref (r 0)), (1, .ref (q 0)), (0, .ref b)] [.int (-1), .int (-1)]
      exfalso; omega
    · show GW κ 4 82 21282 (wX q d iX0 aX0 ++ wM r g iM1 aM1 lM1) 1058 [(3, .int 0), (2, .ref (r 0)), (1, .ref (q 0)), (0, .ref b)] [.int (-1), .int (-1)]
      exfalso; omega
    · show GW κ 4 82 21282 (wX q d iX0 aX0 ++ wM r g iM1 aM1 lM1) 1058 [(3, .int 0), (2, .ref (r 0)), (1, .ref (q 0)), (0, .ref b)] [.int (-1), .int (-1)]
      refine g_icmp_eq (tgt := 1465) (a := (-1)) (b := (-1)) hk dL_law_1058 (by decide) rfl rfl (fun _ => ?_) (fun z9 => absurd (show ((-1) : Int) = ((-1) : Int) from by decide) z9)
      exact tail _
    · show GW κ 4 82 21282 (wX q d iX0 aX0 ++ wM r g iM1 aM1 lM1) 1058 [(3, .int 0), (2, .ref (r 0)), (1, .ref (q 0)), (0, .ref b)] [.int (-1), .int (-1)]
      exfalso; omega
    · show GW κ 4 82 21282 (wX q d iX0 aX0 ++ wM r g iM1 (up2 aM1 18 (cp (aM1 17) (aM1 18) 165)) lM1) 1058 [(3, .int 0), (2, .ref (r 0)), (1, .ref (q 0)), (0, .ref b)] [.int (-2), .int (-1)]
      exfalso; omega
    · show GW κ 4 82 21282 (wX q d iX0 aX0 ++ wM r g iM1 (up2 aM1 18 (cp (aM1 17) (aM1 18) 165)) lM1) 1058 [(3, .int 0), (2, .ref (r 0)), (1, .ref (q 0)), (0, .ref b)] [.int (-2), .int (-1)]
      exfalso; omega
    · show GW κ 4 82 21282 (wX q d iX0 aX0 ++ wM r g iM1 (up2 aM1 18 (cp (aM1 17) (aM1 18) 165)) lM1) 1058 [(3, .int 0), (2, .ref (r 0)), (1, .ref (q 0)), (0, .ref b)] [.int (-2), .int (-1)]
      exfalso; omega
  · show GW κ 4 82 21282 (wM r g iM1 aM1 lM1 ++ wX q d (upd (upd (upd iX0 40 (-2)) 41 (-2)) 42 (-2)) aX0) 1044 [(3, .int 0), (2, .ref (r 0)), (1, .ref (q 0)), (0, .ref b)] [.int (-2)]
    refine g_aload_n hk dL_law_1044 rfl ?_
    refine g_aload_n hk dL_law_1045 rfl ?_
    refine g_iload_n hk dL_law_1046 rfl ?_
    refine g_iconst (v := 1) hk dL_law_1047 (by decide) ?_
    refine g_iadd hk dL_law_1048 ?_
    refine g_norm (v := 1) (by decide) ?_
    refine g_sld (v := xs 1) hk hX (vp_in_iff.mpr ⟨by decide, by show (1 : Int) < (L : Int); omega⟩) rfl dL_law_1049 ?_
    refine g_aload_n hk dL_law_1050 rfl ?_
    refine g_iload_n hk dL_law_1051 rfl ?_
    refine g_iconst (v := 2) hk dL_law_1052 (by decide) ?_
    refine g_iadd hk dL_law_1053 ?_
    refine g_norm (v := 2) (by decide) ?_
    refine g_sld (v := xs 2) hk hX (vp_in_iff.mpr ⟨by decide, by show (2 : Int) < (L : Int); omega⟩) rfl dL_law_1054 ?_
    refine g_callV (n := 2) hk (m180_X12_pair l D zt g r (xs 1) (xs 2)) (SP.pre _ _) (fun q h => List.mem_append_right _ h) (gi_V zw_1927 zw_1928 zw_1929 zw_115 (gi_sub zi_m180_X12_pair zg_m180_X12_pair)) rfl rfl rfl (by decide +kernel) ⟨Nat.le_of_ble_eq_true rfl, Nat.le_of_ble_eq_true rfl⟩ 0 rfl rfl rfl rfl (Nat.le_of_ble_eq_true rfl) ⟨Nat.le_of_ble_eq_true rfl, Nat.le_of_ble_eq_true rfl⟩ dL_law_1055 (fun v ty' w' hp hk' => ?_)
    rcases hp with ⟨c3462, rfl, rfl⟩ | ⟨c3463, c3464, rfl, rfl⟩ | ⟨c3465, c3466, c3467, rfl, rfl⟩ | ⟨c3468, c3469, c3470, c3471, rfl, rfl⟩ | ⟨c3472, c3473, c3474, c3475, c3476, c3477, rfl, rfl⟩ | ⟨c3478, c3479, c3480, c3481, c3482, c3483, rfl, rfl⟩ | ⟨c3484, c3485, c3486, c3487, c3488, rfl, rfl⟩
    · show GW κ 4 82 21282 (wX q d (upd (upd (upd iX0 40 (-2)) 41 (-2)) 42 (-2)) aX0 ++ wM r g iM1 aM1 lM1) 1058 [(3, .int 0), (2, .ref (r 0)), (1, .ref (q 0)), (0, .ref b)] [.int (-1), .int (-2)]
      exfalso; omega
    · show GW κ 4 82 21282 (wX q d (upd (upd (upd iX0 40 (-2)) 41 (-2)) 42 (-2)) aX0 ++ wM r g iM1 aM1 lM1) 1058 [(3, .int 0), (2, .ref (r 0)), (1, .ref (q 0)), (0, .ref b)] [.int (-1), .int (-2)]
      exfalso; omega
    · show GW κ 4 82 21282 (wX q d (upd (upd (upd iX0 40 (-2)) 41 (-2)) 42 (-2)) aX0 ++ wM r g iM1 aM1 lM1) 1058 [(3, .int 0), (2, .ref (r 0)), (1, .ref (q 0)), (0, .ref b)] [.int (-1), .int (-2)]
      exfalso; omega
    · show GW κ 4 82 21282 (wX q d (upd (upd (upd iX0 40 (-2)) 41 (-2)) 42 (-2)) aX0 ++ wM r g iM1 aM1 lM1) 1058 [(3, .int 0), (2, .ref (r 0)), (1, .ref (q 0)), (0, .ref b)] [.int (-1), .int (-2)]
      exfalso; omega
    · show GW κ 4 82 21282 (wX q d (upd (upd (upd iX0 40 (-2)) 41 (-2)) 42 (-2)) aX0 ++ wM r g iM1 (up2 aM1 18 (cp (aM1 17) (aM1 18) 165)) lM1) 1058 [(3, .int 0), (2, .ref (r 0)), (1, .ref (q 0)), (0, .ref b)] [.int (-2), .int (-2)]
      exfalso; omega
    · show GW κ 4 82 21282 (wX q d (upd (upd (upd iX0 40 (-2)) 41 (-2)) 42 (-2)) aX0 ++ wM r g iM1 (up2 aM1 18 (cp (aM1 17) (aM1 18) 165)) lM1) 1058 [(3, .int 0), (2, .ref (r 0)), (1, .ref (q 0)), (0, .ref b)] [.int (-2), .int (-2)]
      refine g_icmp_eq (tgt := 1465) (a := (-2)) (b := (-2)) hk dL_law_1058 (by decide) rfl rfl (fun _ => ?_) (fun z9 => absurd (show ((-2) : Int) = ((-2) : Int) from by decide) z9)
      exact tail _
    · show GW κ 4 82 21282 (wX q d (upd (upd (upd iX0 40 (-2)) 41 (-2)) 42 (-2)) aX0 ++ wM r g iM1 (up2 aM1 18 (cp (aM1 17) (aM1 18) 165)) lM1) 1058 [(3, .int 0), (2, .ref (r 0)), (1, .ref (q 0)), (0, .ref b)] [.int (-2), .int (-2)]
      exfalso; omega
  · show GW κ 4 82 21282 (wM r g iM1 aM1 lM1 ++ wX q d (upd (upd (upd iX0 40 (-2)) 41 (-2)) 42 (-2)) aX0) 1044 [(3, .int 0), (2, .ref (r 0)), (1, .ref (q 0)), (0, .ref b)] [.int (-2)]
    refine g_aload_n hk dL_law_1044 rfl ?_
    refine g_aload_n hk dL_law_1045 rfl ?_
    refine g_iload_n hk dL_law_1046 rfl ?_
    refine g_iconst (v := 1) hk dL_law_1047 (by decide) ?_
    refine g_iadd hk dL_law_1048 ?_
    refine g_norm (v := 1) (by decide) ?_
    refine g_sld (v := xs 1) hk hX (vp_in_iff.mpr ⟨by decide, by show (1 : Int) < (L : Int); omega⟩) rfl dL_law_1049 ?_
    refine g_aload_n hk dL_law_1050 rfl ?_
    refine g_iload_n hk dL_law_1051 rfl ?_
    refine g_iconst (v := 2) hk dL_law_1052 (by decide) ?_
    refine g_iadd hk dL_law_1053 ?_
    refine g_norm (v := 2) (by decide) ?_
    refine g_sld (v := xs 2) hk hX (vp_in_iff.mpr ⟨by decide, by show (2 : Int) < (L : Int); omega⟩) rfl dL_law_1054 ?_
    refine g_callV (n := 2) hk (m180_X12_pair l D zt g r (xs 1) (xs 2)) (SP.pre _ _) (fun q h => List.mem_append_right _ h) (gi_V zw_1927 zw_1928 zw_1929 zw_115 (gi_sub zi_m180_X12_pair zg_m180_X12_pair)) rfl rfl rfl (by decide +kernel) ⟨Nat.le_of_ble_eq_true rfl, Nat.le_of_ble_eq_true rfl⟩ 0 rfl rfl rfl rfl (Nat.le_of_ble_eq_true rfl) ⟨Nat.le_of_ble_eq_true rfl, Nat.le_of_ble_eq_true rfl⟩ dL_law_1055 (fun v ty' w' hp hk' => ?_)
    rcases hp with ⟨c3489, rfl, rfl⟩ | ⟨c3490, c3491, rfl, rfl⟩ | ⟨c3492, c3493, c3494, rfl, rfl⟩ | ⟨c3495, c3496, c3497, c3498, rfl, rfl⟩ | ⟨c3499, c3500, c3501, c3502, c3503, c3504, rfl, rfl⟩ | ⟨c3505, c3506, c3507, c3508, c3509, c3510, rfl, rfl⟩ | ⟨c3511, c3512, c3513, c3514, c3515, rfl, rfl⟩
    · show GW κ 4 82 21282 (wX q d (upd (upd (upd iX0 40 (-2)) 41 (-2)) 42 (-2)) aX0 ++ wM r g iM1 aM1 lM1) 1058 [(3, .int 0), (2, .ref (r 0)), (1, .ref (q 0)), (0, .ref b)] [.int (-1), .int (-2)]
      exfalso; omega
    · show GW κ 4 82 21282 (wX q d (upd (upd (upd iX0 40 (-2)) 41 (-2)) 42 (-2)) aX0 ++ wM r g iM1 aM1 lM1) 1058 [(3, .int 0), (2, .ref (r 0)), (1, .ref (q 0)), (0, .ref b)] [.int (-1), .int (-2)]
      exfalso; omega
    · show GW κ 4 82 21282 (wX q d (upd (upd (upd iX0 40 (-2)) 41 (-2)) 42 (-2)) aX0 ++ wM r g iM1 aM1 lM1) 1058 [(3, .int 0), (2, .ref (r 0)), (1, .ref (q 0)), (0, .ref b)] [.int (-1), .int (-2)]
      exfalso; omega
    · show GW κ 4 82 21282 (wX q d (upd (upd (upd iX0 40 (-2)) 41 (-2)) 42 (-2)) aX0 ++ wM r g iM1 aM1 lM1) 1058 [(3, .int 0), (2, .ref (r 0)), (1, .ref (q 0)), (0, .ref b)] [.int (-1), .int (-2)]
      exfalso; omega
    · show GW κ 4 82 21282 (wX q d (upd (upd (upd iX0 40 (-2)) 41 (-2)) 42 (-2)) aX0 ++ wM r g iM1 (up2 aM1 18 (cp (aM1 17) (aM1 18) 165)) lM1) 1058 [(3, .int 0), (2, .ref (r 0)), (1, .ref (q 0)), (0, .ref b)] [.int (-2), .int (-2)]
      exfalso; omega
    · show GW κ 4 82 21282 (wX q d (upd (upd (upd iX0 40 (-2)) 41 (-2)) 42 (-2)) aX0 ++ wM r g iM1 (up2 aM1 18 (cp (aM1 17) (aM1 18) 165)) lM1) 1058 [(3, .int 0), (2, .ref (r 0)), (1, .ref (q 0)), (0, .ref b)] [.int (-2), .int (-2)]
      exfalso; omega
    · show GW κ 4 82 21282 (wX q d (upd (upd (upd iX0 40 (-2)) 41 (-2)) 42 (-2)) aX0 ++ wM r g iM1 (up2 aM1 18 (cp (aM1 17) (aM1 18) 165)) lM1) 1058 [(3, .int 0), (2, .ref (r 0)), (1, .ref (q 0)), (0, .ref b)] [.int (-2), .int (-2)]
      refine g_icmp_eq (tgt := 1465) (a := (-2)) (b := (-2)) hk dL_law_1058 (by decide) rfl rfl (fun _ => ?_) (fun z9 => absurd (show ((-2) : Int) = ((-2) : Int) from by decide) z9)
      exact tail _
  · show GW κ 4 82 21282 (wM r g iM1 aM1 lM1 ++ wX q d (upd (upd (upd iX0 40 (-2)) 41 (-2)) 42 (-2)) aX0) 1044 [(3, .int 0), (2, .ref (r 0)), (1, .ref (q 0)), (0, .ref b)] [.int (-2)]
    refine g_aload_n hk dL_law_1044 rfl ?_
    refine g_aload_n hk dL_law_1045 rfl ?_
    refine g_iload_n hk dL_law_1046 rfl ?_
    refine g_iconst (v := 1) hk dL_law_1047 (by decide) ?_
    refine g_iadd hk dL_law_1048 ?_
    refine g_norm (v := 1) (by decide) ?_
    refine g_sld (v := xs 1) hk hX (vp_in_iff.mpr ⟨by decide, by show (1 : Int) < (L : Int); omega⟩) rfl dL_law_1049 ?_
    refine g_aload_n hk dL_law_1050 rfl ?_
    refine g_iload_n hk dL_law_1051 rfl ?_
    refine g_iconst (v := 2) hk dL_law_1052 (by decide) ?_
    refine g_iadd hk dL_law_1053 ?_
    refine g_norm (v := 2) (by decide) ?_
    refine g_sld (v := xs 2) hk hX (vp_in_iff.mpr ⟨by decide, by show (2 : Int) < (L : Int); omega⟩) rfl dL_law_1054 ?_
    refine g_callV (n := 2) hk (m180_X12_pair l D zt g r (xs 1) (xs 2)) (SP.pre _ _) (fun q h => List.mem_append_right _ h) (gi_V zw_1927 zw_1928 zw_1929 zw_115 (gi_sub zi_m180_X12_pair zg_m180_X12_pair)) rfl rfl rfl (by decide +kernel) ⟨Nat.le_of_ble_eq_true rfl, Nat.le_of_ble_eq_true rfl⟩ 0 rfl rfl rfl rfl (Nat.le_of_ble_eq_true rfl) ⟨Nat.le_of_ble_eq_true rfl, Nat.le_of_ble_eq_true rfl⟩ dL_law_1055 (fun v ty' w' hp hk' => ?_)
    rcases hp with ⟨c3516, rfl, rfl⟩ | ⟨c3517, c3518, rfl, rfl⟩ | ⟨c3519, c3520, c3521, rfl, rfl⟩ | ⟨c3522, c3523, c3524, c3525, rfl, rfl⟩ | ⟨c3526, c3527, c3528, c3529, c3530, c3531, rfl, rfl⟩ | ⟨c3532, c3533, c3534, c3535, c3536, c3537, rfl, rfl⟩ | ⟨c3538, c3539, c3540, c3541, c3542, rfl, rfl⟩
    · show GW κ 4 82 21282 (wX q d (upd (upd (upd iX0 40 (-2)) 41 (-2)) 42 (-2)) aX0 ++ wM r g iM1 aM1 lM1) 1058 [(3, .int 0), (2, .ref (r 0)), (1, .ref (q 0)), (0, .ref b)] [.int (-1), .int (-2)]
      exfalso; omega
    · show GW κ 4 82 21282 (wX q d (upd (upd (upd iX0 40 (-2)) 41 (-2)) 42 (-2)) aX0 ++ wM r g iM1 aM1 lM1) 1058 [(3, .int 0), (2, .ref (r 0)), (1, .ref (q 0)), (0, .ref b)] [.int (-1), .int (-2)]
      exfalso; omega
    · show GW κ 4 82 21282 (wX q d (upd (upd (upd iX0 40 (-2)) 41 (-2)) 42 (-2)) aX0 ++ wM r g iM1 aM1 lM1) 1058 [(3, .int 0), (2, .ref (r 0)), (1, .ref (q 0)), (0, .ref b)] [.int (-1), .int (-2)]
      exfalso; omega
    · show GW κ 4 82 21282 (wX q d (upd (upd (upd iX0 40 (-2)) 41 (-2)) 42 (-2)) aX0 ++ wM r g iM1 aM1 lM1) 1058 [(3, .int 0), (2, .ref (r 0)), (1, .ref (q 0)), (0, .ref b)] [.int (-1), .int (-2)]
      exfalso; omega
    · show GW κ 4 82 21282 (wX q d (upd (upd (upd iX0 40 (-2)) 41 (-2)) 42 (-2)) aX0 ++ wM r g iM1 (up2 aM1 18 (cp (aM1 17) (aM1 18) 165)) lM1) 1058 [(3, .int 0), (2, .ref (r 0)), (1, .ref (q 0)), (0, .ref b)] [.int (-2), .int (-2)]
      refine g_icmp_eq (tgt := 1465) (a := (-2)) (b := (-2)) hk dL_law_1058 (by decide) rfl rfl (fun _ => ?_) (fun z9 => absurd (show ((-2) : Int) = ((-2) : Int) from by decide) z9)
      exact tail _
    · show GW κ 4 82 21282 (wX q d (upd (upd (upd iX0 40 (-2)) 41 (-2)) 42 (-2)) aX0 ++ wM r g iM1 (up2 aM1 18 (cp (aM1 17) (aM1 18) 165)) lM1) 1058 [(3, .int 0), (2, .ref (r 0)), (1, .ref (q 0)), (0, .ref b)] [.int (-2), .int (-2)]
      exfalso; omega
    · show GW κ 4 82 21282 (wX q d (upd (upd (upd iX0 40 (-2)) 41 (-2)) 42 (-2)) aX0 ++ wM r g iM1 (up2 aM1 18 (cp (aM1 17) (aM1 18) 165)) lM1) 1058 [(3, .int 0), (2, .ref (r 0)), (1, .ref (q 0)), (0, .ref b)] [.int (-2), .int (-2)]
      exfalso; omega
  · show GW κ 4 82 21282 (wM r g iM1 aM1 lM1 ++ wX q d iX0 aX0) 1044 [(3, .int 0), (2, .ref (r 0)), (1, .ref (q 0)), (0, .ref b)] [.int (-1)]
    refine g_aload_n hk dL_law_1044 rfl ?_
    refine g_aload_n hk dL_law_1045 rfl ?_
    refine g_iload_n hk dL_law_1046 rfl ?_
    refine g_iconst (v := 1) hk dL_law_1047 (by decide) ?_
    refine g_iadd hk dL_law_1048 ?_
    refine g_norm (v := 1) (by decide) ?_
    refine g_sld (v := xs 1) hk hX (vp_in_iff.mpr ⟨by decide, by show (1 : Int) < (L : Int); omega⟩) rfl dL_law_1049 ?_
    refine g_aload_n hk dL_law_1050 rfl ?_
    refine g_iload_n hk dL_law_1051 rfl ?_
    refine g_iconst (v := 2) hk dL_law_1052 (by decide) ?_
    refine g_iadd hk dL_law_1053 ?_
    refine g_norm (v := 2) (by decide) ?_
    refine g_sld (v := xs 2) hk hX (vp_in_iff.mpr ⟨by decide, by show (2 : Int) < (L : Int); omega⟩) rfl dL_law_1054 ?_
    refine g_callV (n := 2) hk (m180_X12_pair l D zt g r (xs 1) (xs 2)) (SP.pre _ _) (fun q h => List.mem_append_right _ h) (gi_V zw_1927 zw_1928 zw_1929 zw_115 (gi_sub zi_m180_X12_pair zg_m180_X12_pair)) rfl rfl rfl (by decide +kernel) ⟨Nat.le_of_ble_eq_true rfl, Nat.le_of_ble_eq_true rfl⟩ 0 rfl rfl rfl rfl (Nat.le_of_ble_eq_true rfl) ⟨Nat.le_of_ble_eq_true rfl, Nat.le_of_ble_eq_true rfl⟩ dL_law_1055 (fun v ty' w' hp hk' => ?_)
    rcases hp with ⟨c3543, rfl, rfl⟩ | ⟨c3544, c3545, rfl, rfl⟩ | ⟨c3546, c3547, c3548, rfl, rfl⟩ | ⟨c3549, c3550, c3551, c3552, rfl, rfl⟩ | ⟨c3553, c3554, c3555, c3556, c3557, c3558, rfl, rfl⟩ | ⟨c3559, c3560, c3561, c3562, c3563, c3564, rfl, rfl⟩ | ⟨c3565, c3566, c3567, c3568, c3569, rfl, rfl⟩
    · show GW κ 4 82 21282 (wX q d iX0 aX0 ++ wM r g iM1 aM1 lM1) 1058 [(3, .int 0), (2, .ref (r 0)), (1, .ref (q 0)), (0, .ref b)] [.int (-1), .int (-1)]
      exfalso; omega
    · show GW κ 4 82 21282 (wX q d iX0 aX0 ++ wM r g iM1 aM1 lM1) 1058 [(3, .int 0), (2, .ref (r 0)), (1, .ref (q 0)), (0, .ref b)] [.int (-1), .int (-1)]
      exfalso; omega
    · show GW κ 4 82 21282 (wX q d iX0 aX0 ++ wM r g iM1 aM1 lM1) 1058 [(3, .int 0), (2, .ref (r 0)), (1, .ref (q 0)), (0, .ref b)] [.int (-1), .int (-1)]
      exfalso; omega
    · show GW κ 4 82 21282 (wX q d iX0 aX0 ++ wM r g iM1 aM1 lM1) 1058 [(3, .int 0), (2, .ref (r 0)), (1, .ref (q 0)), (0, .ref b)] [.int (-1), .int (-1)]
      refine g_icmp_eq (tgt := 1465) (a := (-1)) (b := (-1)) hk dL_law_1058 (by decide) rfl rfl (fun _ => ?_) (fun z9 => absurd (show ((-1) : Int) = ((-1) : Int) from by decide) z9)
      exact tail _
    · show GW κ 4 82 21282 (wX q d iX0 aX0 ++ wM r g iM1 (up2 aM1 18 (cp (aM1 17) (aM1 18) 165)) lM1) 1058 [(3, .int 0), (2, .ref (r 0)), (1, .ref (q 0)), (0, .ref b)] [.int (-2), .int (-1)]
      exfalso; omega
    · show GW κ 4 82 21282 (wX q d iX0 aX0 ++ wM r g iM1 (up2 aM1 18 (cp (aM1 17) (aM1 18) 165)) lM1) 1058 [(3, .int 0), (2, .ref (r 0)), (1, .ref (q 0)), (0, .ref b)] [.int (-2), .int (-1)]
      exfalso; omega
    · show GW κ 4 82 21282 (wX q d iX0 aX0 ++ wM r g iM1 (up2 aM1 18 (cp (aM1 17) (aM1 18) 165)) lM1) 1058 [(3, .int 0), (2, .ref (r 0)), (1, .ref (q 0)), (0, .ref b)] [.int (-2), .int (-1)]
      exfalso; omega
set_option maxHeartbeats 4000000 in
set_option maxRecDepth 100000 in
theorem law_27 {κ : Cx} {l : Launch} {D : va_G} {zt : Nat × Nat × Nat} {q r : Nat → Nat} {d g : Nat → ClassId} {b L : Nat} {xs : Nat → Int32} (hk : GC κ l D zt code 4 RL lw_tbl (tyX d ++ tyM g) room_1) (hX : GX κ b L xs) (hL6 : L = 6) (tail : ∀ ws, GW κ 4 82 21282 ws 1465 [(3, .int 0), (2, .ref (r 0)), (1, .ref (q 0)), (0, .ref b)] []) : GW κ 4 82 21282 (wX q d iX0 aX0 ++ wM r g iM1 aM1 lM1) 1063 [(3, .int 0), (2, .ref (r 0)), (1, .ref (q 0)), (0, .ref b)] [] := by
  refine g_aload_n hk dL_law_1063 rfl ?_
  refine g_aload_n hk dL_law_1064 rfl ?_
  refine g_iload_n hk dL_law_1065 rfl ?_
  refine g_iconst (v := 1) hk dL_law_1066 (by decide) ?_
  refine g_iadd hk dL_law_1067 ?_
  refine g_norm (v := 1) (by decide) ?_
  refine g_sld (v := xs 1) hk hX (vp_in_iff.mpr ⟨by decide, by show (1 : Int) < (L : Int); omega⟩) rfl dL_law_1068 ?_
  refine g_aload_n hk dL_law_1069 rfl ?_
  refine g_iload_n hk dL_law_1070 rfl ?_
  refine g_iconst (v := 2) hk dL_law_1071 (by decide) ?_
  refine g_iadd hk dL_law_1072 ?_
  refine g_norm (v := 2) (by decide) ?_
  refine g_sld (v := xs 2) hk hX (vp_in_iff.mpr ⟨by decide, by show (2 : Int) < (L : Int); omega⟩) rfl dL_law_1073 ?_
  refine g_callV (n := 2) hk (m292_X11_odd l D zt d q (xs 1) (xs 2)) (SP.pre _ _) (fun q h => List.mem_append_left _ h) (gi_V zw_1297 zw_1298 zw_1299 zw_103 (gi_sub zi_m292_X11_odd zg_m292_X11_odd)) rfl rfl rfl (by decide +kernel) ⟨Nat.le_of_ble_eq_true rfl, Nat.le_of_ble_eq_true rfl⟩ 0 rfl rfl rfl rfl (Nat.le_of_ble_eq_true rfl) ⟨Nat.le_of_ble_eq_true rfl, Nat.le_of_ble_eq_true rfl⟩ dL_law_1074 (fun v ty' w' hp hk' => ?_)
  rcases hp with ⟨c3570, rfl, rfl⟩ | ⟨c3571, c3572, rfl, rfl⟩ | ⟨c3573, c3574, c3575, rfl, rfl⟩ | ⟨c3576, c3577, c3578, c3579, c3580, rfl, rfl⟩ | ⟨c3581, c3582, c3583, c3584, c3585, rfl, rfl⟩ | ⟨c3586, c3587, c3588, c3589, rfl, rfl⟩
  · show GW κ 4 82 21282 (wM r g iM1 aM1 lM1 ++ wX q d iX0 aX0) 1077 [(3, .int 0), (2, .ref (r 0)), (1, .ref (q 0)), (0, .ref b)] [.int (-1)]
    refine g_aload_n hk dL_law_1077 rfl ?_
    refine g_aload_n hk dL_law_1078 rfl ?_
    refine g_iload_n hk dL_law_1079 rfl ?_
    refine g_iconst (v := 1) hk dL_law_1080 (by decide) ?_
    refine g_iadd hk dL_law_1081 ?_
    refine g_norm (v := 1) (by decide) ?_
    refine g_sld (v := xs 1) hk hX (vp_in_iff.mpr ⟨by decide, by show (1 : Int) < (L : Int); omega⟩) rfl dL_law_1082 ?_
    refine g_aload_n hk dL_law_1083 rfl ?_
    refine g_iload_n hk dL_law_1084 rfl ?_
    refine g_iconst (v := 2) hk dL_law_1085 (by decide) ?_
    refine g_iadd hk dL_law_1086 ?_
    refine g_norm (v := 2) (by decide) ?_
    refine g_sld (v := xs 2) hk hX (vp_in_iff.mpr ⟨by decide, by show (2 : Int) < (L : Int); omega⟩) rfl dL_law_1087 ?_
    refine g_callV (n := 2) hk (m182_X12_odd l D zt g r (xs 1) (xs 2)) (SP.pre _ _) (fun q h => List.mem_append_right _ h) (gi_V zw_1931 zw_1932 zw_1933 zw_115 (gi_sub zi_m182_X12_odd zg_m182_X12_odd)) rfl rfl rfl (by decide +kernel) ⟨Nat.le_of_ble_eq_true rfl, Nat.le_of_ble_eq_true rfl⟩ 0 rfl rfl rfl rfl (Nat.le_of_ble_eq_true rfl) ⟨Nat.le_of_ble_eq_true rfl, Nat.le_of_ble_eq_true rfl⟩ dL_law_1088 (fun v ty' w' hp hk' => ?_)
    rcases hp with ⟨c3590, rfl, rfl⟩ | ⟨c3591, c3592, rfl, rfl⟩ | ⟨c3593, c3594, c3595, rfl, rfl⟩ | ⟨c3596, c3597, c3598, c3599, rfl, rfl⟩ | ⟨c3600, c3601, c3602, c3603, c3604, rfl, rfl⟩ | ⟨c3605, c3606, c3607, c3608, c3609, rfl, rfl⟩
    · show GW κ 4 82 21282 (wX q d iX0 aX0 ++ wM r g iM1 aM1 lM1) 1091 [(3, .int 0), (2, .ref (r 0)), (1, .ref (q 0)), (0, .ref b)] [.int (-1), .int (-1)]
      refine g_icmp_eq (tgt := 1465) (a := (-1)) (b := (-1)) hk dL_law_1091 (by decide) rfl rfl (fun _ => ?_) (fun z9 => absurd (show ((-1) : Int) = ((-1) : Int) from by decide) z9)
      exact tail _
    · show GW κ 4 82 21282 (wX q d iX0 aX0 ++ wM r g iM1 aM1 lM1) 1091 [(3, .int 0), (2, .ref (r 0)), (1, .ref (q 0)), (0, .ref b)] [.int (-1), .int (-1)]
      exfalso; omega
    · show GW κ 4 82 21282 (wX q d iX0 aX0 ++ wM r g iM1 aM1 lM1) 1091 [(3, .int 0), (2, .ref (r 0)), (1, .ref (q 0)), (0, .ref b)] [.int (-1), .int (-1)]
      exfalso; omega
    · show GW κ 4 82 21282 (wX q d iX0 aX0 ++ wM r g iM1 aM1 lM1) 1091 [(3, .int 0), (2, .ref (r 0)), (1, .ref (q 0)), (0, .ref b)] [.int (-1), .int (-1)]
      exfalso; omega
    · show GW κ 4 82 21282 (wX q d iX0 aX0 ++ wM r g iM1 (up2 aM1 18 (cp (aM1 17) (aM1 18) 165)) lM1) 1091 [(3, .int 0), (2, .ref (r 0)), (1, .ref (q 0)), (0, .ref b)] [.int (-2), .int (-1)]
      exfalso; omega
    · show GW κ 4 82 21282 (wX q d iX0 aX0 ++ wM r g iM1 (up2 aM1 18 (cp (aM1 17) (aM1 18) 165)) lM1) 1091 [(3, .int 0), (2, .ref (r 0)), (1, .ref (q 0)), (0, .ref b)] [.int (-2), .int (-1)]
      exfalso; omega
  · show GW κ 4 82 21282 (wM r g iM1 aM1 lM1 ++ wX q d iX0 aX0) 1077 [(3, .int 0), (2, .ref (r 0)), (1, .ref (q 0)), (0, .ref b)] [.int (-1)]
    refine g_aload_n hk dL_law_1077 rfl ?_
    refine g_aload_n hk dL_law_1078 rfl ?_
    refine g_iload_n hk dL_law_1079 rfl ?_
    refine g_iconst (v := 1) hk dL_law_1080 (by decide) ?_
    refine g_iadd hk dL_law_1081 ?_
    refine g_norm (v := 1) (by decide) ?_
    refine g_sld (v := xs 1) hk hX (vp_in_iff.mpr ⟨by decide, by show (1 : Int) < (L : Int); omega⟩) rfl dL_law_1082 ?_
    refine g_aload_n hk dL_law_1083 rfl ?_
    refine g_iload_n hk dL_law_1084 rfl ?_
    refine g_iconst (v := 2) hk dL_law_1085 (by decide) ?_
    refine g_iadd hk dL_law_1086 ?_
    refine g_norm (v := 2) (by decide) ?_
    refine g_sld (v := xs 2) hk hX (vp_in_iff.mpr ⟨by decide, by show (2 : Int) < (L : Int); omega⟩) rfl dL_law_1087 ?_
    refine g_callV (n := 2) hk (m182_X12_odd l D zt g r (xs 1) (xs 2)) (SP.pre _ _) (fun q h => List.mem_append_right _ h) (gi_V zw_1931 zw_1932 zw_1933 zw_115 (gi_sub zi_m182_X12_odd zg_m182_X12_odd)) rfl rfl rfl (by decide +kernel) ⟨Nat.le_of_ble_eq_true rfl, Nat.le_of_ble_eq_true rfl⟩ 0 rfl rfl rfl rfl (Nat.le_of_ble_eq_true rfl) ⟨Nat.le_of_ble_eq_true rfl, Nat.le_of_ble_eq_true rfl⟩ dL_law_1088 (fun v ty' w' hp hk' => ?_)
    rcases hp with ⟨c3610, rfl, rfl⟩ | ⟨c3611, c3612, rfl, rfl⟩ | ⟨c3613, c3614, c3615, rfl, rfl⟩ | ⟨c3616, c3617, c3618, c3619, rfl, rfl⟩ | ⟨c3620, c3621, c3622, c3623, c3624, rfl, rfl⟩ | ⟨c3625, c3626, c3627, c3628, c3629, rfl, rfl⟩
    · show GW κ 4 82 21282 (wX q d iX0 aX0 ++ wM r g iM1 aM1 lM1) 1091 [(3, .int 0), (2, .ref (r 0)), (1, .ref (q 0)), (0, .ref b)] [.int (-1), .int (-1)]
      exfalso; omega
    · show GW κ 4 82 21282 (wX q d iX0 aX0 ++ wM r g iM1 aM1 lM1) 1091 [(3, .int 0), (2, .ref (r 0)), (1, .ref (q 0)), (0, .ref b)] [.int (-1), .int (-1)]
      refine g_icmp_eq (tgt := 1465) (a := (-1)) (b := (-1)) hk dL_law_1091 (by decide) rfl rfl (fun _ => ?_) (fun z9 => absurd (show ((-1) : Int) = ((-1) : Int) from by decide) z9)
      exact tail _
    · show GW κ 4 82 21282 (wX q d iX0 aX0 ++ wM r g iM1 aM1 lM1) 1091 [(3, .int 0), (2, .ref (r 0)), (1, .ref (q 0)), (0, .ref b)] [.int (-1), .int (-1)]
      exfalso; omega
    · show GW κ 4 82 21282 (wX q d iX0 aX0 ++ wM r g iM1 aM1 lM1) 1091 [(3, .int 0), (2, .ref (r 0)), (1, .ref (q 0)), (0, .ref b)] [.int (-1), .int (-1)]
      exfalso; omega
    · show GW κ 4 82 21282 (wX q d iX0 aX0 ++ wM r g iM1 (up2 aM1 18 (cp (aM1 17) (aM1 18) 165)) lM1) 1091 [(3, .int 0), (2, .ref (r 0)), (1, .ref (q 0)), (0, .ref b)] [.int (-2), .int (-1)]
      exfalso; omega
    · show GW κ 4 82 21282 (wX q d iX0 aX0 ++ wM r g iM1 (up2 aM1 18 (cp (aM1 17) (aM1 18) 165)) lM1) 1091 [(3, .int 0), (2, .ref (r 0)), (1, .ref (q 0)), (0, .ref b)] [.int (-2), .int (-1)]
      exfalso; omega
  · show GW κ 4 82 21282 (wM r g iM1 aM1 lM1 ++ wX q d iX0 aX0) 1077 [(3, .int 0), (2, .ref (r 0)), (1, .ref (q 0)), (0, .ref b)] [.int (-1)]
    refine g_aload_n hk dL_law_1077 rfl ?_
    refine g_aload_n hk dL_law_1078 rfl ?_
    refine g_iload_n hk dL_law_1079 rfl ?_
    refine g_iconst (v := 1) hk dL_law_1080 (by decide) ?_
    refine g_iadd hk dL_law_1081 ?_
    refine g_norm (v := 1) (by decide) ?_
    refine g_sld (v := xs 1) hk hX (vp_in_iff.mpr ⟨by decide, by show (1 : Int) < (L : Int); omega⟩) rfl dL_law_1082 ?_
    refine g_aload_n hk dL_law_1083 rfl ?_
    refine g_iload_n hk dL_law_1084 rfl ?_
    refine g_iconst (v := 2) hk dL_law_1085 (by decide) ?_
    refine g_iadd hk dL_law_1086 ?_
    refine g_norm (v := 2) (by decide) ?_
    refine g_sld (v := xs 2) hk hX (vp_in_iff.mpr ⟨by decide, by show (2 : Int) < (L : Int); omega⟩) rfl dL_law_1087 ?_
    refine g_callV (n := 2) hk (m182_X12_odd l D zt g r (xs 1) (xs 2)) (SP.pre _ _) (fun q h => List.mem_append_right _ h) (gi_V zw_1931 zw_1932 zw_1933 zw_115 (gi_sub zi_m182_X12_odd zg_m182_X12_odd)) rfl rfl rfl (by decide +kernel) ⟨Nat.le_of_ble_eq_true rfl, Nat.le_of_ble_eq_true rfl⟩ 0 rfl rfl rfl rfl (Nat.le_of_ble_eq_true rfl) ⟨Nat.le_of_ble_eq_true rfl, Nat.le_of_ble_eq_true rfl⟩ dL_law_1088 (fun v ty' w' hp hk' => ?_)
    rcases hp with ⟨c3630, rfl, rfl⟩ | ⟨c3631, c3632, rfl, rfl⟩ | ⟨c3633, c3634, c3635, rfl, rfl⟩ | ⟨c3636, c3637, c3638, c3639, rfl, rfl⟩ | ⟨c3640, c3641, c3642, c3643, c3644, rfl, rfl⟩ | ⟨c3645, c3646, c3647, c3648, c3649, rfl, rfl⟩
    · show GW κ 4 82 21282 (wX q d iX0 aX0 ++ wM r g iM1 aM1 lM1) 1091 [(3, .int 0), (2, .ref (r 0)), (1, .ref (q 0)), (0, .ref b)] [.int (-1), .int (-1)]
      exfalso; omega
    · show GW κ 4 82 21282 (wX q d iX0 aX0 ++ wM r g iM1 aM1 lM1) 1091 [(3, .int 0), (2, .ref (r 0)), (1, .ref (q 0)), (0, .ref b)] [.int (-1), .int (-1)]
      exfalso; omega
    · show GW κ 4 82 21282 (wX q d iX0 aX0 ++ wM r g iM1 aM1 lM1) 1091 [(3, .int 0), (2, .ref (r 0)), (1, .ref (q 0)), (0, .ref b)] [.int (-1), .int (-1)]
      refine g_icmp_eq (tgt := 1465) (a := (-1)) (b := (-1)) hk dL_law_1091 (by decide) rfl rfl (fun _ => ?_) (fun z9 => absurd (show ((-1) : Int) = ((-1) : Int) from by decide) z9)
      exact tail _
    · show GW κ 4 82 21282 (wX q d iX0 aX0 ++ wM r g iM1 aM1 lM1) 1091 [(3, .int 0), (2, .ref (r 0)), (1, .ref (q 0)), (0, .ref b)] [.int (-1), .int (-1)]
      exfalso; omega
    · show GW κ 4 82 21282 (wX q d iX0 aX0 ++ wM r g iM1 (up2 aM1 18 (cp (aM1 17) (aM1 18) 165)) lM1) 1091 [(3, .int 0), (2, .ref (r 0)), (1, .ref (q 0)), (0, .ref b)] [.int (-2), .int (-1)]
      exfalso; omega
    · show GW κ 4 82 21282 (wX q d iX0 aX0 ++ wM r g iM1 (up2 aM1 18 (cp (aM1 17) (aM1 18) 165)) lM1) 1091 [(3, .int 0), (2, .ref (r 0)), (1, .ref (q 0)), (0, .ref b)] [.int (-2), .int (-1)]
      exfalso; omega
  · show GW κ 4 82 21282 (wM r g iM1 aM1 lM1 ++ wX q d (upd (upd iX0 43 (-2)) 44 (-2)) aX0) 1077 [(3, .int 0), (2, .ref (r 0)), (1, .ref (q 0)), (0, .ref b)] [.int (-2)]
    refine g_aload_n hk dL_law_1077 rfl ?_
    refine g_aload_n hk dL_law_1078 rfl ?_
    refine g_iload_n hk dL_law_1079 rfl ?_
    refine g_iconst (v := 1) hk dL_law_1080 (by decide) ?_
    refine g_iadd hk dL_law_1081 ?_
    refine g_norm (v := 1) (by decide) ?_
    refine g_sld (v := xs 1) hk hX (vp_in_iff.mpr ⟨by decide, by show (1 : Int) < (L : Int); omega⟩) rfl dL_law_1082 ?_
    refine g_aload_n hk dL_law_1083 rfl ?_
    refine g_iload_n hk dL_law_1084 rfl ?_
    refine g_iconst (v := 2) hk dL_law_1085 (by decide) ?_
    refine g_iadd hk dL_law_1086 ?_
    refine g_norm (v := 2) (by decide) ?_
    refine g_sld (v := xs 2) hk hX (vp_in_iff.mpr ⟨by decide, by show (2 : Int) < (L : Int); omega⟩) rfl dL_law_1087 ?_
    refine g_callV (n := 2) hk (m182_X12_odd l D zt g r (xs 1) (xs 2)) (SP.pre _ _) (fun q h => List.mem_append_right _ h) (gi_V zw_1931 zw_1932 zw_1933 zw_115 (gi_sub zi_m182_X12_odd zg_m182_X12_odd)) rfl rfl rfl (by decide +kernel) ⟨Nat.le_of_ble_eq_true rfl, Nat.le_of_ble_eq_true rfl⟩ 0 rfl rfl rfl rfl (Nat.le_of_ble_eq_true rfl) ⟨Nat.le_of_ble_eq_true rfl, Nat.le_of_ble_eq_true rfl⟩ dL_law_1088 (fun v ty' w' hp hk' => ?_)
    rcases hp with ⟨c3650, rfl, rfl⟩ | ⟨c3651, c3652, rfl, rfl⟩ | ⟨c3653, c3654, c3655, rfl, rfl⟩ | ⟨c3656, c3657, c3658, c3659, rfl, rfl⟩ | ⟨c3660, c3661, c3662, c3663, c3664, rfl, rfl⟩ | ⟨c3665, c3666, c3667, c3668, c3669, rfl, rfl⟩
    · show GW κ 4 82 21282 (wX q d (upd (upd iX0 43 (-2)) 44 (-2)) aX0 ++ wM r g iM1 aM1 lM1) 1091 [(3, .int 0), (2, .ref (r 0)), (1, .ref (q 0)), (0, .ref b)] [.int (-1), .int (-2)]
      exfalso; omega
    · show GW κ 4 82 21282 (wX q d (upd (upd iX0 43 (-2)) 44 (-2)) aX0 ++ wM r g iM1 aM1 lM1) 1091 [(3, .int 0), (2, .ref (r 0)), (1, .ref (q 0)), (0, .ref b)] [.int (-1), .int (-2)]
      exfalso; omega
    · show GW κ 4 82 21282 (wX q d (upd (upd iX0 43 (-2)) 44 (-2)) aX0 ++ wM r g iM1 aM1 lM1) 1091 [(3, .int 0), (2, .ref (r 0)), (1, .ref (q 0)), (0, .ref b)] [.int (-1), .int (-2)]
      exfalso; omega
    · show GW κ 4 82 21282 (wX q d (upd (upd iX0 43 (-2)) 44 (-2)) aX0 ++ wM r g iM1 aM1 lM1) 1091 [(3, .int 0), (2, .ref (r 0)), (1, .ref (q 0)), (0, .ref b)] [.int (-1), .int (-2)]
      exfalso; omega
    · show GW κ 4 82 21282 (wX q d (upd (upd iX0 43 (-2)) 44 (-2)) aX0 ++ wM r g iM1 (up2 aM1 18 (cp (aM1 17) (aM1 18) 165)) lM1) 1091 [(3, .int 0), (2, .ref (r 0)), (1, .ref (q 0)), (0, .ref b)] [.int (-2), .int (-2)]
      refine g_icmp_eq (tgt := 1465) (a := (-2)) (b := (-2)) hk dL_law_1091 (by decide) rfl rfl (fun _ => ?_) (fun z9 => absurd (show ((-2) : Int) = ((-2) : Int) from by decide) z9)
      exact tail _
    · show GW κ 4 82 21282 (wX q d (upd (upd iX0 43 (-2)) 44 (-2)) aX0 ++ wM r g iM1 (up2 aM1 18 (cp (aM1 17) (aM1 18) 165)) lM1) 1091 [(3, .int 0), (2, .ref (r 0)), (1, .ref (q 0)), (0, .ref b)] [.int (-2), .int (-2)]
      exfalso; omega
  · show GW κ 4 82 21282 (wM r g iM1 aM1 lM1 ++ wX q d (upd (upd iX0 43 (-2)) 44 (-2)) aX0) 1077 [(3, .int 0), (2, .ref (r 0)), (1, .ref (q 0)), (0, .ref b)] [.int (-2)]
    refine g_aload_n hk dL_law_1077 rfl ?_
    refine g_aload_n hk dL_law_1078 rfl ?_
    refine g_iload_n hk dL_law_1079 rfl ?_
    refine g_iconst (v := 1) hk dL_law_1080 (by decide) ?_
    refine g_iadd hk dL_law_1081 ?_
    refine g_norm (v := 1) (by decide) ?_
    refine g_sld (v := xs 1) hk hX (vp_in_iff.mpr ⟨by decide, by show (1 : Int) < (L : Int); omega⟩) rfl dL_law_1082 ?_
    refine g_aload_n hk dL_law_1083 rfl ?_
    refine g_iload_n hk dL_law_1084 rfl ?_
    refine g_iconst (v := 2) hk dL_law_1085 (by decide) ?_
    refine g_iadd hk dL_law_1086 ?_
    refine g_norm (v := 2) (by decide) ?_
    refine g_sld (v := xs 2) hk hX (vp_in_iff.mpr ⟨by decide, by show (2 : Int) < (L : Int); omega⟩) rfl dL_law_1087 ?_
    refine g_callV (n := 2) hk (m182_X12_odd l D zt g r (xs 1) (xs 2)) (SP.pre _ _) (fun q h => List.mem_append_right _ h) (gi_V zw_1931 zw_1932 zw_1933 zw_115 (gi_sub zi_m182_X12_odd zg_m182_X12_odd)) rfl rfl rfl (by decide +kernel) ⟨Nat.le_of_ble_eq_true rfl, Nat.le_of_ble_eq_true rfl⟩ 0 rfl rfl rfl rfl (Nat.le_of_ble_eq_true rfl) ⟨Nat.le_of_ble_eq_true rfl, Nat.le_of_ble_eq_true rfl⟩ dL_law_1088 (fun v ty' w' hp hk' => ?_)
    rcases hp with ⟨c3670, rfl, rfl⟩ | ⟨c3671, c3672, rfl, rfl⟩ | ⟨c3673, c3674, c3675, rfl, rfl⟩ | ⟨c3676, c3677, c3678, c3679, rfl, rfl⟩ | ⟨c3680, c3681, c3682, c3683, c3684, rfl, rfl⟩ | ⟨c3685, c3686, c3687, c3688, c3689, rfl, rfl⟩
    · show GW κ 4 82 21282 (wX q d (upd (upd iX0 43 (-2)) 44 (-2)) aX0 ++ wM r g iM1 aM1 lM1) 1091 [(3, .int 0), (2, .ref (r 0)), (1, .ref (q 0)), (0, .ref b)] [.int (-1), .int (-2)]
      exfalso; omega
    · show GW κ 4 82 21282 (wX q d (upd (upd iX0 43 (-2)) 44 (-2)) aX0 ++ wM r g iM1 aM1 lM1) 1091 [(3, .int 0), (2, .ref (r 0)), (1, .ref (q 0)), (0, .ref b)] [.int (-1), .int (-2)]
      exfalso; omega
    · show GW κ 4 82 21282 (wX q d (upd (upd iX0 43 (-2)) 44 (-2)) aX0 ++ wM r g iM1 aM1 lM1) 1091 [(3, .int 0), (2, .ref (r 0)), (1, .ref (q 0)), (0, .ref b)] [.int (-1), .int (-2)]
      exfalso; omega
    · show GW κ 4 82 21282 (wX q d (upd (upd iX0 43 (-2)) 44 (-2)) aX0 ++ wM r g iM1 aM1 lM1) 1091 [(3, .int 0), (2, .ref (r 0)), (1, .ref (q 0)), (0, .ref b)] [.int (-1), .int (-2)]
      exfalso; omega
    · show GW κ 4 82 21282 (wX q d (upd (upd iX0 43 (-2)) 44 (-2)) aX0 ++ wM r g iM1 (up2 aM1 18 (cp (aM1 17) (aM1 18) 165)) lM1) 1091 [(3, .int 0), (2, .ref (r 0)), (1, .ref (q 0)), (0, .ref b)] [.int (-2), .int (-2)]
      exfalso; omega
    · show GW κ 4 82 21282 (wX q d (upd (upd iX0 43 (-2)) 44 (-2)) aX0 ++ wM r g iM1 (up2 aM1 18 (cp (aM1 17) (aM1 18) 165)) lM1) 1091 [(3, .int 0), (2, .ref (r 0)), (1, .ref (q 0)), (0, .ref b)] [.int (-2), .int (-2)]
      refine g_icmp_eq (tgt := 1465) (a := (-2)) (b := (-2)) hk dL_law_1091 (by decide) rfl rfl (fun _ => ?_) (fun z9 => absurd (show ((-2) : Int) = ((-2) : Int) from by decide) z9)
      exact tail _
  · show GW κ 4 82 21282 (wM r g iM1 aM1 lM1 ++ wX q d iX0 aX0) 1077 [(3, .int 0), (2, .ref (r 0)), (1, .ref (q 0)), (0, .ref b)] [.int (-1)]
    refine g_aload_n hk dL_law_1077 rfl ?_
    refine g_aload_n hk dL_law_1078 rfl ?_
    refine g_iload_n hk dL_law_1079 rfl ?_
    refine g_iconst (v := 1) hk dL_law_1080 (by decide) ?_
    refine g_iadd hk dL_law_1081 ?_
    refine g_norm (v := 1) (by decide) ?_
    refine g_sld (v := xs 1) hk hX (vp_in_iff.mpr ⟨by decide, by show (1 : Int) < (L : Int); omega⟩) rfl dL_law_1082 ?_
    refine g_aload_n hk dL_law_1083 rfl ?_
    refine g_iload_n hk dL_law_1084 rfl ?_
    refine g_iconst (v := 2) hk dL_law_1085 (by decide) ?_
    refine g_iadd hk dL_law_1086 ?_
    refine g_norm (v := 2) (by decide) ?_
    refine g_sld (v := xs 2) hk hX (vp_in_iff.mpr ⟨by decide, by show (2 : Int) < (L : Int); omega⟩) rfl dL_law_1087 ?_
    refine g_callV (n := 2) hk (m182_X12_odd l D zt g r (xs 1) (xs 2)) (SP.pre _ _) (fun q h => List.mem_append_right _ h) (gi_V zw_1931 zw_1932 zw_1933 zw_115 (gi_sub zi_m182_X12_odd zg_m182_X12_odd)) rfl rfl rfl (by decide +kernel) ⟨Nat.le_of_ble_eq_true rfl, Nat.le_of_ble_eq_true rfl⟩ 0 rfl rfl rfl rfl (Nat.le_of_ble_eq_true rfl) ⟨Nat.le_of_ble_eq_true rfl, Nat.le_of_ble_eq_true rfl⟩ dL_law_1088 (fun v ty' w' hp hk' => ?_)
    rcases hp with ⟨c3690, rfl, rfl⟩ | ⟨c3691, c3692, rfl, rfl⟩ | ⟨c3693, c3694, c3695, rfl, rfl⟩ | ⟨c3696, c3697, c3698, c3699, rfl, rfl⟩ | ⟨c3700, c3701, c3702, c3703, c3704, rfl, rfl⟩ | ⟨c3705, c3706, c3707, c3708, c3709, rfl, rfl⟩
    · show GW κ 4 82 21282 (wX q d iX0 aX0 ++ wM r g iM1 aM1 lM1) 1091 [(3, .int 0), (2, .ref (r 0)), (1, .ref (q 0)), (0, .ref b)] [.int (-1), .int (-1)]
      exfalso; omega
    · show GW κ 4 82 21282 (wX q d iX0 aX0 ++ wM r g iM1 aM1 lM1) 1091 [(3, .int 0), (2, .ref (r 0)), (1, .ref (q 0)), (0, .ref b)] [.int (-1), .int (-1)]
      exfalso; omega
    · show GW κ 4 82 21282 (wX q d iX0 aX0 ++ wM r g iM1 aM1 lM1) 1091 [(3, .int 0), (2, .ref (r 0)), (1, .ref (q 0)), (0, .ref b)] [.int (-1), .int (-1)]
      exfalso; omega
    · show GW κ 4 82 21282 (wX q d iX0 aX0 ++ wM r g iM1 aM1 lM1) 1091 [(3, .int 0), (2, .ref (r 0)), (1, .ref (q 0)), (0, .ref b)] [.int (-1), .int (-1)]
      refine g_icmp_eq (tgt := 1465) (a := (-1)) (b := (-1)) hk dL_law_1091 (by decide) rfl rfl (fun _ => ?_) (fun z9 => absurd (show ((-1) : Int) = ((-1) : Int) from by decide) z9)
      exact tail _
    · show GW κ 4 82 21282 (wX q d iX0 aX0 ++ wM r g iM1 (up2 aM1 18 (cp (aM1 17) (aM1 18) 165)) lM1) 1091 [(3, .int 0), (2, .ref (r 0)), (1, .ref (q 0)), (0, .ref b)] [.int (-2), .int (-1)]
      exfalso; omega
    · show GW κ 4 82 21282 (wX q d iX0 aX0 ++ wM r g iM1 (up2 aM1 18 (cp (aM1 17) (aM1 18) 165)) lM1) 1091 [(3, .int 0), (2, .ref (r 0)), (1, .ref (q 0)), (0, .ref b)] [.int (-2), .int (-1)]
      exfalso; omega
set_option maxHeartbeats 4000000 in
set_option maxRecDepth 100000 in
theorem law_28 {κ : Cx} {l : Launch} {D : va_G} {zt : Nat × Nat × Nat} {q r : Nat → Nat} {d g : Nat → ClassId} {b L : Nat} {xs : Nat → Int32} (hk : GC κ l D zt code 4 RL lw_tbl (tyX d ++ tyM g) room_1) (hX : GX κ b L xs) (hL6 : L = 6) (tail : ∀ ws, GW κ 4 82 21282 ws 1465 [(3, .int 0), (2, .ref (r 0)), (1, .ref (q 0)), (0, .ref b)] []) : GW κ 4 82 21282 (wX q d iX0 aX0 ++ wM r g iM1 aM1 lM1) 1096 [(3, .int 0), (2, .ref (r 0)), (1, .ref (q 0)), (0, .ref b)] [] := by
  refine g_aload_n hk dL_law_1096 rfl ?_
  refine g_aload_n hk dL_law_1097 rfl ?_
  refine g_iload_n hk dL_law_1098 rfl ?_
  refine g_iconst (v := 1) hk dL_law_1099 (by decide) ?_
  refine g_iadd hk dL_law_1100 ?_
  refine g_norm (v := 1) (by decide) ?_
  refine g_sld (v := xs 1) hk hX (vp_in_iff.mpr ⟨by decide, by show (1 : Int) < (L : Int); omega⟩) rfl dL_law_1101 ?_
  refine g_aload_n hk dL_law_1102 rfl ?_
  refine g_iload_n hk dL_law_1103 rfl ?_
  refine g_iconst (v := 2) hk dL_law_1104 (by decide) ?_
  refine g_iadd hk dL_law_1105 ?_
  refine g_norm (v := 2) (by decide) ?_
  refine g_sld (v := xs 2) hk hX (vp_in_iff.mpr ⟨by decide, by show (2 : Int) < (L : Int); omega⟩) rfl dL_law_1106 ?_
  refine g_callV (n := 2) hk (m296_X11_cover l D zt d q (xs 1) (xs 2)) (SP.pre _ _) (fun q h => List.mem_append_left _ h) (gi_V zw_1181 zw_1182 zw_1183 zw_103 (gi_sub zi_m296_X11_cover zg_m296_X11_cover)) rfl rfl rfl (by decide +kernel) ⟨Nat.le_of_ble_eq_true rfl, Nat.le_of_ble_eq_true rfl⟩ 0 rfl rfl rfl rfl (Nat.le_of_ble_eq_true rfl) ⟨Nat.le_of_ble_eq_true rfl, Nat.le_of_ble_eq_true rfl⟩ dL_law_1107 (fun v ty' w' hp hk' => ?_)
  obtain ⟨rfl, rfl⟩ := hp
  show GW κ 4 82 21282 (wM r g iM1 aM1 lM1 ++ wX q d iX0 aX0) 1110 [(3, .int 0), (2, .ref (r 0)), (1, .ref (q 0)), (0, .ref b)] [.int (-1)]
  refine g_aload_n hk dL_law_1110 rfl ?_
  refine g_aload_n hk dL_law_1111 rfl ?_
  refine g_iload_n hk dL_law_1112 rfl ?_
  refine g_iconst (v := 1) hk dL_law_1113 (by decide) ?_
  refine g_iadd hk dL_law_1114 ?_
  refine g_norm (v := 1) (by decide) ?_
  refine g_sld (v := xs 1) hk hX (vp_in_iff.mpr ⟨by decide, by show (1 : Int) < (L : Int); omega⟩) rfl dL_law_1115 ?_
  refine g_aload_n hk dL_law_1116 rfl ?_
  refine g_iload_n hk dL_law_1117 rfl ?_
  refine g_iconst (v := 2) hk dL_law_1118 (by decide) ?_
  refine g_iadd hk dL_law_1119 ?_
  refine g_norm (v := 2) (by decide) ?_
  refine g_sld (v := xs 2) hk hX (vp_in_iff.mpr ⟨by decide, by show (2 : Int) < (L : Int); omega⟩) rfl dL_law_1120 ?_
  refine g_callV (n := 2) hk (m183_X12_cover l D zt g r (xs 1) (xs 2)) (SP.pre _ _) (fun q h => List.mem_append_right _ h) (gi_V zw_1880 zw_1881 zw_1882 zw_115 (gi_sub zi_m183_X12_cover zg_m183_X12_cover)) rfl rfl rfl (by decide +kernel) ⟨Nat.le_of_ble_eq_true rfl, Nat.le_of_ble_eq_true rfl⟩ 0 rfl rfl rfl rfl (Nat.le_of_ble_eq_true rfl) ⟨Nat.le_of_ble_eq_true rfl, Nat.le_of_ble_eq_true rfl⟩ dL_law_1121 (fun v ty' w' hp hk' => ?_)
  obtain ⟨rfl, rfl⟩ := hp
  show GW κ 4 82 21282 (wX q d iX0 aX0 ++ wM r g iM1 aM1 lM1) 1124 [(3, .int 0), (2, .ref (r 0)), (1, .ref (q 0)), (0, .ref b)] [.int (-1), .int (-1)]
  refine g_icmp_eq (tgt := 1465) (a := (-1)) (b := (-1)) hk dL_law_1124 (by decide) rfl rfl (fun _ => ?_) (fun z9 => absurd (show ((-1) : Int) = ((-1) : Int) from by decide) z9)
  exact tail _
set_option maxHeartbeats 4000000 in
set_option maxRecDepth 100000 in
theorem law_29 {κ : Cx} {l : Launch} {D : va_G} {zt : Nat × Nat × Nat} {q r : Nat → Nat} {d g : Nat → ClassId} {b L : Nat} {xs : Nat → Int32} (hk : GC κ l D zt code 4 RL lw_tbl (tyX d ++ tyM g) room_1) (hX : GX κ b L xs) (hL6 : L = 6) (tail : ∀ ws, GW κ 4 82 21282 ws 1465 [(3, .int 0), (2, .ref (r 0)), (1, .ref (q 0)), (0, .ref b)] []) : GW κ 4 82 21282 (wX q d iX0 aX0 ++ wM r g iM1 aM1 lM1) 1129 [(3, .int 0), (2, .ref (r 0)), (1, .ref (q 0)), (0, .ref b)] [] := by
  refine g_aload_n hk dL_law_1129 rfl ?_
  refine g_aload_n hk dL_law_1130 rfl ?_
  refine g_iload_n hk dL_law_1131 rfl ?_
  refine g_iconst (v := 1) hk dL_law_1132 (by decide) ?_
  refine g_iadd hk dL_law_1133 ?_
  refine g_norm (v := 1) (by decide) ?_
  refine g_sld (v := xs 1) hk hX (vp_in_iff.mpr ⟨by decide, by show (1 : Int) < (L : Int); omega⟩) rfl dL_law_1134 ?_
  refine g_aload_n hk dL_law_1135 rfl ?_
  refine g_iload_n hk dL_law_1136 rfl ?_
  refine g_iconst (v := 2) hk dL_law_1137 (by decide) ?_
  refine g_iadd hk dL_law_1138 ?_
  refine g_norm (v := 2) (by decide) ?_
  refine g_sld (v := xs 2) hk hX (vp_in_iff.mpr ⟨by decide, by show (2 : Int) < (L : Int); omega⟩) rfl dL_law_1139 ?_
  refine g_aload_n hk dL_law_1140 rfl ?_
  refine g_iload_n hk dL_law_1141 rfl ?_
  refine g_iconst (v := 3) hk dL_law_1142 (by decide) ?_
  refine g_iadd hk dL_law_1143 ?_
  refine g_norm (v := 3) (by decide) ?_
  refine g_sld (v := xs 3) hk hX (vp_in_iff.mpr ⟨by decide, by show (3 : Int) < (L : Int); omega⟩) rfl dL_law_1144 ?_
  refine g_callV (n := 3) hk (m297_X11_lean l D zt d q (xs 1) (xs 2) (xs 3)) (SP.pre _ _) (fun q h => List.mem_append_left _ h) (gi_V zw_1066 zw_1067 zw_1068 zw_103 (gi_sub zi_m297_X11_lean zg_m297_X11_lean)) rfl rfl rfl (by decide +kernel) ⟨Nat.le_of_ble_eq_true rfl, Nat.le_of_ble_eq_true rfl⟩ 0 rfl rfl rfl rfl (Nat.le_of_ble_eq_true rfl) ⟨Nat.le_of_ble_eq_true rfl, Nat.le_of_ble_eq_true rfl⟩ dL_law_1145 (fun v ty' w' hp hk' => ?_)
  obtain ⟨rfl, rfl⟩ := hp
  show GW κ 4 82 21282 (wM r g iM1 aM1 lM1 ++ wX q d iX0 aX0) 1148 [(3, .int 0), (2, .ref (r 0)), (1, .ref (q 0)), (0, .ref b)] [.int (-1)]
  refine g_aload_n hk dL_law_1148 rfl ?_
  refine g_aload_n hk dL_law_1149 rfl ?_
  refine g_iload_n hk dL_law_1150 rfl ?_
  refine g_iconst (v := 1) hk dL_law_1151 (by decide) ?_
  refine g_iadd hk dL_law_1152 ?_
  refine g_norm (v := 1) (by decide) ?_
  refine g_sld (v := xs 1) hk hX (vp_in_iff.mpr ⟨by decide, by show (1 : Int) < (L : Int); omega⟩) rfl dL_law_1153 ?_
  refine g_aload_n hk dL_law_1154 rfl ?_
  refine g_iload_n hk dL_law_1155 rfl ?_
  refine g_iconst (v := 2) hk dL_law_1156 (by decide) ?_
  refine g_iadd hk dL_law_1157 ?_
  refine g_norm (v := 2) (by decide) ?_
  refine g_sld (v := xs 2) hk hX (vp_in_iff.mpr ⟨by decide, by show (2 : Int) < (L : Int); omega⟩) rfl dL_law_1158 ?_
  refine g_aload_n hk dL_law_1159 rfl ?_
  refine g_iload_n hk dL_law_1160 rfl ?_
  refine g_iconst (v := 3) hk dL_law_1161 (by decide) ?_
  refine g_iadd hk dL_law_1162 ?_
  refine g_norm (v := 3) (by decide) ?_
  refine g_sld (v := xs 3) hk hX (vp_in_iff.mpr ⟨by decide, by show (3 : Int) < (L : Int); omega⟩) rfl dL_law_1163 ?_
  refine g_callV (n := 3) hk (m184_X12_lean l D zt g r (xs 1) (xs 2) (xs 3)) (SP.pre _ _) (fun q h => List.mem_append_right _ h) (gi_V zw_1836 zw_1837 zw_1838 zw_115 (gi_sub zi_m184_X12_lean zg_m184_X12_lean)) rfl rfl rfl (by decide +kernel) ⟨Nat.le_of_ble_eq_true rfl, Nat.le_of_ble_eq_true rfl⟩ 0 rfl rfl rfl rfl (Nat.le_of_ble_eq_true rfl) ⟨Nat.le_of_ble_eq_true rfl, Nat.le_of_ble_eq_true rfl⟩ dL_law_1164 (fun v ty' w' hp hk' => ?_)
  obtain ⟨rfl, rfl⟩ := hp
  show GW κ 4 82 21282 (wX q d iX0 aX0 ++ wM r g iM1 aM1 lM1) 1167 [(3, .int 0), (2, .ref (r 0)), (1, .ref (q 0)), (0, .ref b)] [.int (-1), .int (-1)]
  refine g_icmp_eq (tgt := 1465) (a := (-1)) (b := (-1)) hk dL_law_1167 (by decide) rfl rfl (fun _ => ?_) (fun z9 => absurd (show ((-1) : Int) = ((-1) : Int) from by decide) z9)
  exact tail _
set_option maxHeartbeats 4000000 in
set_option maxRecDepth 100000 in
theorem law_30 {κ : Cx} {l : Launch} {D : va_G} {zt : Nat × Nat × Nat} {q r : Nat → Nat} {d g : Nat → ClassId} {b L : Nat} {xs : Nat → Int32} (hk : GC κ l D zt code 4 RL lw_tbl (tyX d ++ tyM g) room_1) (hX : GX κ b L xs) (hL6 : L = 6) (tail : ∀ ws, GW κ 4 82 21282 ws 1465 [(3, .int 0), (2, .ref (r 0)), (1, .ref (q 0)), (0, .ref b)] []) : GW κ 4 82 21282 (wX q d iX0 aX0 ++ wM r g iM1 aM1 lM1) 1172 [(3, .int 0), (2, .ref (r 0)), (1, .ref (q 0)), (0, .ref b)] [] := by
  refine g_aload_n hk dL_law_1172 rfl ?_
  refine g_aload_n hk dL_law_1173 rfl ?_
  refine g_iload_n hk dL_law_1174 rfl ?_
  refine g_iconst (v := 1) hk dL_law_1175 (by decide) ?_
  refine g_iadd hk dL_law_1176 ?_
  refine g_norm (v := 1) (by decide) ?_
  refine g_sld (v := xs 1) hk hX (vp_in_iff.mpr ⟨by decide, by show (1 : Int) < (L : Int); omega⟩) rfl dL_law_1177 ?_
  refine g_aload_n hk dL_law_1178 rfl ?_
  refine g_iload_n hk dL_law_1179 rfl ?_
  refine g_iconst (v := 2) hk dL_law_1180 (by decide) ?_
  refine g_iadd hk dL_law_1181 ?_
  refine g_norm (v := 2) (by decide) ?_
  refine g_sld (v := xs 2) hk hX (vp_in_iff.mpr ⟨by decide, by show (2 : Int) < (L : Int); omega⟩) rfl dL_law_1182 ?_
  refine g_callV (n := 2) hk (m298_X11_whose l D zt d q (xs 1) (xs 2)) (SP.pre _ _) (fun q h => List.mem_append_left _ h) (gi_V zw_1093 zw_1094 zw_1095 zw_103 (gi_sub zi_m298_X11_whose zg_m298_X11_whose)) rfl rfl rfl (by decide +kernel) ⟨Nat.le_of_ble_eq_true rfl, Nat.le_of_ble_eq_true rfl⟩ 0 rfl rfl rfl rfl (Nat.le_of_ble_eq_true rfl) ⟨Nat.le_of_ble_eq_true rfl, Nat.le_of_ble_eq_true rfl⟩ dL_law_1183 (fun v ty' w' hp hk' => ?_)
  obtain ⟨rfl, rfl⟩ := hp
  show GW κ 4 82 21282 (wM r g iM1 aM1 lM1 ++ wX q d iX0 aX0) 1186 [(3, .int 0), (2, .ref (r 0)), (1, .ref (q 0)), (0, .ref b)] [.int (-1)]
  refine g_aload_n hk dL_law_1186 rfl ?_
  refine g_aload_n hk dL_law_1187 rfl ?_
  refine g_iload_n hk dL_law_1188 rfl ?_
  refine g_iconst (v := 1) hk dL_law_1189 (by decide) ?_
  refine g_iadd hk dL_law_1190 ?_
  refine g_norm (v := 1) (by decide) ?_
  refine g_sld (v := xs 1) hk hX (vp_in_iff.mpr ⟨by decide, by show (1 : Int) < (L : Int); omega⟩) rfl dL_law_1191 ?_
  refine g_aload_n hk dL_law_1192 rfl ?_
  refine g_iload_n hk dL_law_1193 rfl ?_
  refine g_iconst (v := 2) hk dL_law_1194 (by decide) ?_
  refine g_iadd hk dL_law_1195 ?_
  refine g_norm (v := 2) (by decide) ?_
  refine g_sld (v := xs 2) hk hX (vp_in_iff.mpr ⟨by decide, by show (2 : Int) < (L : Int); omega⟩) rfl dL_law_1196 ?_
  refine g_callV (n := 2) hk (m185_X12_whose l D zt g r (xs 1) (xs 2)) (SP.pre _ _) (fun q h => List.mem_append_right _ h) (gi_V zw_1911 zw_1912 zw_1913 zw_115 (gi_sub zi_m185_X12_whose zg_m185_X12_whose)) rfl rfl rfl (by decide +kernel) ⟨Nat.le_of_ble_eq_true rfl, Nat.le_of_ble_eq_true rfl⟩ 0 rfl rfl rfl rfl (Nat.le_of_ble_eq_true rfl) ⟨Nat.le_of_ble_eq_true rfl, Nat.le_of_ble_eq_true rfl⟩ dL_law_1197 (fun v ty' w' hp hk' => ?_)
  obtain ⟨rfl, rfl⟩ := hp
  show GW κ 4 82 21282 (wX q d iX0 aX0 ++ wM r g iM1 aM1 lM1) 1200 [(3, .int 0), (2, .ref (r 0)), (1, .ref (q 0)), (0, .ref b)] [.int (-1), .int (-1)]
  refine g_icmp_eq (tgt := 1465) (a := (-1)) (b := (-1)) hk dL_law_1200 (by decide) rfl rfl (fun _ => ?_) (fun z9 => absurd (show ((-1) : Int) = ((-1) : Int) from by decide) z9)
  exact tail _
set_option maxHeartbeats 4000000 in
set_option maxRecDepth 100000 in
theorem law_31 {κ : Cx} {l : Launch} {D : va_G} {zt : Nat × Nat × Nat} {q r : Nat → Nat} {d g : Nat → ClassId} {b L : Nat} {xs : Nat → Int32} (hk : GC κ l D zt code 4 RL lw_tbl (tyX d ++ tyM g) room_1) (hX : GX κ b L xs) (hL6 : L = 6) (tail : ∀ ws, GW κ 4 82 21282 ws 1465 [(3, .int 0), (2, .ref (r 0)), (1, .ref (q 0)), (0, .ref b)] []) : GW κ 4 82 21282 (wX q d iX0 aX0 ++ wM r g iM1 aM1 lM1) 1205 [(3, .int 0), (2, .ref (r 0)), (1, .ref (q 0)), (0, .ref b)] [] := by
  refine g_aload_n hk dL_law_1205 rfl ?_
  refine g_aload_n hk dL_law_1206 rfl ?_
  refine g_iload_n hk dL_law_1207 rfl ?_
  refine g_iconst (v := 1) hk dL_law_1208 (by decide) ?_
  refine g_iadd hk dL_law_1209 ?_
  refine g_norm (v := 1) (by decide) ?_
  refine g_sld (v := xs 1) hk hX (vp_in_iff.mpr ⟨by decide, by show (1 : Int) < (L : Int); omega⟩) rfl dL_law_1210 ?_
  refine g_aload_n hk dL_law_1211 rfl ?_
  refine g_iload_n hk dL_law_1212 rfl ?_
  refine g_iconst (v := 2) hk dL_law_1213 (by decide) ?_
  refine g_iadd hk dL_law_1214 ?_
  refine g_norm (v := 2) (by decide) ?_
  refine g_sld (v := xs 2) hk hX (vp_in_iff.mpr ⟨by decide, by show (2 : Int) < (L : Int); omega⟩) rfl dL_law_1215 ?_
  refine g_callV (n := 2) hk (m300_X11_rank l D zt d q (xs 1) (xs 2)) (SP.pre _ _) (fun q h => List.mem_append_left _ h) (gi_V zw_1204 zw_1205 zw_1206 zw_103 (gi_sub zi_m300_X11_rank zg_m300_X11_rank)) rfl rfl rfl (by decide +kernel) ⟨Nat.le_of_ble_eq_true rfl, Nat.le_of_ble_eq_true rfl⟩ 0 rfl rfl rfl rfl (Nat.le_of_ble_eq_true rfl) ⟨Nat.le_of_ble_eq_true rfl, Nat.le_of_ble_eq_true rfl⟩ dL_law_1216 (fun v ty' w' hp hk' => ?_)
  obtain ⟨rfl, rfl⟩ := hp
  show GW κ 4 82 21282 (wM r g iM1 aM1 lM1 ++ wX q d iX0 aX0) 1219 [(3, .int 0), (2, .ref (r 0)), (1, .ref (q 0)), (0, .ref b)] [.int (-1)]
  refine g_aload_n hk dL_law_1219 rfl ?_
  refine g_aload_n hk dL_law_1220 rfl ?_
  refine g_iload_n hk dL_law_1221 rfl ?_
  refine g_iconst (v := 1) hk dL_law_1222 (by decide) ?_
  refine g_iadd hk dL_law_1223 ?_
  refine g_norm (v := 1) (by decide) ?_
  refine g_sld (v := xs 1) hk hX (vp_in_iff.mpr ⟨by decide, by show (1 : Int) < (L : Int); omega⟩) rfl dL_law_1224 ?_
  refine g_aload_n hk dL_law_1225 rfl ?_
  refine g_iload_n hk dL_law_1226 rfl ?_
  refine g_iconst (v := 2) hk dL_law_1227 (by decide) ?_
  refine g_iadd hk dL_law_1228 ?_
  refine g_norm (v := 2) (by decide) ?_
  refine g_sld (v := xs 2) hk hX (vp_in_iff.mpr ⟨by decide, by show (2 : Int) < (L : Int); omega⟩) rfl dL_law_1229 ?_
  refine g_callV (n := 2) hk (m186_X12_rank l D zt g r (xs 1) (xs 2)) (SP.pre _ _) (fun q h => List.mem_append_right _ h) (gi_V zw_1884 zw_1885 zw_1886 zw_115 (gi_sub zi_m186_X12_rank zg_m186_X12_rank)) rfl rfl rfl (by decide +kernel) ⟨Nat.le_of_ble_eq_true rfl, Nat.le_of_ble_eq_true rfl⟩ 0 rfl rfl rfl rfl (Nat.le_of_ble_eq_true rfl) ⟨Nat.le_of_ble_eq_true rfl, Nat.le_of_ble_eq_true rfl⟩ dL_law_1230 (fun v ty' w' hp hk' => ?_)
  obtain ⟨rfl, rfl⟩ := hp
  show GW κ 4 82 21282 (wX q d iX0 aX0 ++ wM r g iM1 aM1 lM1) 1233 [(3, .int 0), (2, .ref (r 0)), (1, .ref (q 0)), (0, .ref b)] [.int (-1), .int (-1)]
  refine g_icmp_eq (tgt := 1465) (a := (-1)) (b := (-1)) hk dL_law_1233 (by decide) rfl rfl (fun _ => ?_) (fun z9 => absurd (show ((-1) : Int) = ((-1) : Int) from by decide) z9)
  exact tail _
set_option maxHeartbeats 4000000 in
set_option maxRecDepth 100000 in
theorem law_32 {κ : Cx} {l : Launch} {D : va_G} {zt : Nat × Nat × Nat} {q r : Nat → Nat} {d g : Nat → ClassId} {b L : Nat} {xs : Nat → Int32} (hk : GC κ l D zt code 4 RL lw_tbl (tyX d ++ tyM g) room_1) (hX : GX κ b L xs) (hL6 : L = 6) (tail : ∀ ws, GW κ 4 82 21282 ws 1465 [(3, .int 0), (2, .ref (r 0)), (1, .ref (q 0)), (0, .ref b)] []) : GW κ 4 82 21282 (wX q d iX0 aX0 ++ wM r g iM1 aM1 lM1) 1238 [(3, .int 0), (2, .ref (r 0)), (1, .ref (q 0)), (0, .ref b)] [] := by
  refine g_aload_n hk dL_law_1238 rfl ?_
  refine g_aload_n hk dL_law_1239 rfl ?_
  refine g_iload_n hk dL_law_1240 rfl ?_
  refine g_iconst (v := 1) hk dL_law_1241 (by decide) ?_
  refine g_iadd hk dL_law_1242 ?_
  refine g_norm (v := 1) (by decide) ?_
  refine g_sld (v := xs 1) hk hX (vp_in_iff.mpr ⟨by decide, by show (1 : Int) < (L : Int); omega⟩) rfl dL_law_1243 ?_
  refine g_aload_n hk dL_law_1244 rfl ?_
  refine g_iload_n hk dL_law_1245 rfl ?_
  refine g_iconst (v := 2) hk dL_law_1246 (by decide) ?_
  refine g_iadd hk dL_law_1247 ?_
  refine g_norm (v := 2) (by decide) ?_
  refine g_sld (v := xs 2) hk hX (vp_in_iff.mpr ⟨by decide, by show (2 : Int) < (L : Int); omega⟩) rfl dL_law_1248 ?_
  refine g_aload_n hk dL_law_1249 rfl ?_
  refine g_iload_n hk dL_law_1250 rfl ?_
  refine g_iconst (v := 3) hk dL_law_1251 (by decide) ?_
  refine g_iadd hk dL_law_1252 ?_
  refine g_norm (v := 3) (by decide) ?_
  refine g_sld (v := xs 3) hk hX (vp_in_iff.mpr ⟨by decide, by show (3 : Int) < (L : Int); omega⟩) rfl dL_law_1253 ?_
  refine g_callV (n := 3) hk (m301_X11_kth l D zt d q (xs 1) (xs 2) (xs 3)) (SP.pre _ _) (fun q h => List.mem_append_left _ h) (gi_V zw_1217 zw_1218 zw_1219 zw_103 (gi_sub zi_m301_X11_kth zg_m301_X11_kth)) rfl rfl rfl (by decide +kernel) ⟨Nat.le_of_ble_eq_true rfl, Nat.le_of_ble_eq_true rfl⟩ 0 rfl rfl rfl rfl (Nat.le_of_ble_eq_true rfl) ⟨Nat.le_of_ble_eq_true rfl, Nat.le_of_ble_eq_true rfl⟩ dL_law_1254 (fun v ty' w' hp hk' => ?_)
  obtain ⟨rfl, rfl⟩ := hp
  show GW κ 4 82 21282 (wM r g iM1 aM1 lM1 ++ wX q d iX0 aX0) 1257 [(3, .int 0), (2, .ref (r 0)), (1, .ref (q 0)), (0, .ref b)] [.int (-1)]
  refine g_aload_n hk dL_law_1257 rfl ?_
  refine g_aload_n hk dL_law_1258 rfl ?_
  refine g_iload_n hk dL_law_1259 rfl ?_
  refine g_iconst (v := 1) hk dL_law_1260 (by decide) ?_
  refine g_iadd hk dL_law_1261 ?_
  refine g_norm (v := 1) (by decide) ?_
  refine g_sld (v := xs 1) hk hX (vp_in_iff.mpr ⟨by decide, by show (1 : Int) < (L : Int); omega⟩) rfl dL_law_1262 ?_
  refine g_aload_n hk dL_law_1263 rfl ?_
  refine g_iload_n hk dL_law_1264 rfl ?_
  refine g_iconst (v := 2) hk dL_law_1265 (by decide) ?_
  refine g_iadd hk dL_law_1266 ?_
  refine g_norm (v := 2) (by decide) ?_
  refine g_sld (v := xs 2) hk hX (vp_in_iff.mpr ⟨by decide, by show (2 : Int) < (L : Int); omega⟩) rfl dL_law_1267 ?_
  refine g_aload_n hk dL_law_1268 rfl ?_
  refine g_iload_n hk dL_law_1269 rfl ?_
  refine g_iconst (v := 3) hk dL_law_1270 (by decide) ?_
  refine g_iadd hk dL_law_1271 ?_
  refine g_norm (v := 3) (by decide) ?_
  refine g_sld (v := xs 3) hk hX (vp_in_iff.mpr ⟨by decide, by show (3 : Int) < (L : Int); omega⟩) rfl dL_law_1272 ?_
  refine g_callV (n := 3) hk (m187_X12_kth l D zt g r (xs 1) (xs 2) (xs 3)) (SP.pre _ _) (fun q h => List.mem_append_right _ h) (gi_V zw_1892 zw_1893 zw_1894 zw_115 (gi_sub zi_m187_X12_kth zg_m187_X12_kth)) rfl rfl rfl (by decide +kernel) ⟨Nat.le_of_ble_eq_true rfl, Nat.le_of_ble_eq_true rfl⟩ 0 rfl rfl rfl rfl (Nat.le_of_ble_eq_true rfl) ⟨Nat.le_of_ble_eq_true rfl, Nat.le_of_ble_eq_true rfl⟩ dL_law_1273 (fun v ty' w' hp hk' => ?_)
  obtain ⟨rfl, rfl⟩ := hp
  show GW κ 4 82 21282 (wX q d iX0 aX0 ++ wM r g iM1 aM1 lM1) 1276 [(3, .int 0), (2, .ref (r 0)), (1, .ref (q 0)), (0, .ref b)] [.int (-1), .int (-1)]
  refine g_icmp_eq (tgt := 1465) (a := (-1)) (b := (-1)) hk dL_law_1276 (by decide) rfl rfl (fun _ => ?_) (fun z9 => absurd (show ((-1) : Int) = ((-1) : Int) from by decide) z9)
  exact tail _
set_option maxHeartbeats 4000000 in
set_option maxRecDepth 100000 in
theorem law_33 {κ : Cx} {l : Launch} {D : va_G} {zt : Nat × Nat × Nat} {q r : Nat → Nat} {d g : Nat → ClassId} {b L : Nat} {xs : Nat → Int32} (hk : GC κ l D zt code 4 RL lw_tbl (tyX d ++ tyM g) room_1) (hX : GX κ b L xs) (hL6 : L = 6) (tail : ∀ ws, GW κ 4 82 21282 ws 1465 [(3, .int 0), (2, .ref (r 0)), (1, .ref (q 0)), (0, .ref b)] []) : GW κ 4 82 21282 (wX q d iX0 aX0 ++ wM r g iM1 aM1 lM1) 1281 [(3, .int 0), (2, .ref (r 0)), (1, .ref (q 0)), (0, .ref b)] [] := by
  refine g_aload_n hk dL_law_1281 rfl ?_
  refine g_aload_n hk dL_law_1282 rfl ?_
  refine g_iload_n hk dL_law_1283 rfl ?_
  refine g_iconst (v := 1) hk dL_law_1284 (by decide) ?_
  refine g_iadd hk dL_law_1285 ?_
  refine g_norm (v := 1) (by decide) ?_
  refine g_sld (v := xs 1) hk hX (vp_in_iff.mpr ⟨by decide, by show (1 : Int) < (L : Int); omega⟩) rfl dL_law_1286 ?_
  refine g_callV (n := 1) hk (m302_X11_slack l D zt d q (xs 1)) (SP.pre _ _) (fun q h => List.mem_append_left _ h) (gi_V zw_1227 zw_1228 zw_1229 zw_103 (gi_sub zi_m302_X11_slack zg_m302_X11_slack)) rfl rfl rfl (by decide +kernel) ⟨Nat.le_of_ble_eq_true rfl, Nat.le_of_ble_eq_true rfl⟩ 0 rfl rfl rfl rfl (Nat.le_of_ble_eq_true rfl) ⟨Nat.le_of_ble_eq_true rfl, Nat.le_of_ble_eq_true rfl⟩ dL_law_1287 (fun v ty' w' hp hk' => ?_)
  obtain ⟨rfl, rfl⟩ := hp
  show GW κ 4 82 21282 (wM r g iM1 aM1 lM1 ++ wX q d iX0 aX0) 1290 [(3, .int 0), (2, .ref (r 0)), (1, .ref (q 0)), (0, .ref b)] [.int (-1)]
  refine g_aload_n hk dL_law_1290 rfl ?_
  refine g_aload_n hk dL_law_1291 rfl ?_
  refine g_iload_n hk dL_law_1292 rfl ?_
  refine g_iconst (v := 1) hk dL_law_1293 (by decide) ?_
  refine g_iadd hk dL_law_1294 ?_
  refine g_norm (v := 1) (by decide) ?_
  refine g_sld (v := xs 1) hk hX (vp_in_iff.mpr ⟨by decide, by show (1 : Int) < (L : Int); omega⟩) rfl dL_law_1295 ?_
  refine g_callV (n := 1) hk (m188_X12_slack l D zt g r (xs 1)) (SP.pre _ _) (fun q h => List.mem_append_right _ h) (gi_V zw_1896 zw_1897 zw_1898 zw_115 (gi_sub zi_m188_X12_slack zg_m188_X12_slack)) rfl rfl rfl (by decide +kernel) ⟨Nat.le_of_ble_eq_true rfl, Nat.le_of_ble_eq_true rfl⟩ 0 rfl rfl rfl rfl (Nat.le_of_ble_eq_true rfl) ⟨Nat.le_of_ble_eq_true rfl, Nat.le_of_ble_eq_true rfl⟩ dL_law_1296 (fun v ty' w' hp hk' => ?_)
  obtain ⟨rfl, rfl⟩ := hp
  show GW κ 4 82 21282 (wX q d iX0 aX0 ++ wM r g iM1 aM1 lM1) 1299 [(3, .int 0), (2, .ref (r 0)), (1, .ref (q 0)), (0, .ref b)] [.int (-1), .int (-1)]
  refine g_icmp_eq (tgt := 1465) (a := (-1)) (b := (-1)) hk dL_law_1299 (by decide) rfl rfl (fun _ => ?_) (fun z9 => absurd (show ((-1) : Int) = ((-1) : Int) from by decide) z9)
  exact tail _
set_option maxHeartbeats 4000000 in
set_option maxRecDepth 100000 in
theorem law_34 {κ : Cx} {l : Launch} {D : va_G} {zt : Nat × Nat × Nat} {q r : Nat → Nat} {d g : Nat → ClassId} {b L : Nat} {xs : Nat → Int32} (hk : GC κ l D zt code 4 RL lw_tbl (tyX d ++ tyM g) room_1) (hX : GX κ b L xs) (hL6 : L = 6) (tail : ∀ ws, GW κ 4 82 21282 ws 1465 [(3, .int 0), (2, .ref (r 0)), (1, .ref (q 0)), (0, .ref b)] []) : GW κ 4 82 21282 (wX q d iX0 aX0 ++ wM r g iM1 aM1 lM1) 1304 [(3, .int 0), (2, .ref (r 0)), (1, .ref (q 0)), (0, .ref b)] [] := by
  refine g_aload_n hk dL_law_1304 rfl ?_
  refine g_aload_n hk dL_law_1305 rfl ?_
  refine g_iload_n hk dL_law_1306 rfl ?_
  refine g_iconst (v := 1) hk dL_law_1307 (by decide) ?_
  refine g_iadd hk dL_law_1308 ?_
  refine g_norm (v := 1) (by decide) ?_
  refine g_sld (v := xs 1) hk hX (vp_in_iff.mpr ⟨by decide, by show (1 : Int) < (L : Int); omega⟩) rfl dL_law_1309 ?_
  refine g_callV (n := 1) hk (m303_X11_turns l D zt d q (xs 1)) (SP.pre _ _) (fun q h => List.mem_append_left _ h) (gi_V zw_1239 zw_1240 zw_1241 zw_103 (gi_sub zi_m303_X11_turns zg_m303_X11_turns)) rfl rfl rfl (by decide +kernel) ⟨Nat.le_of_ble_eq_true rfl, Nat.le_of_ble_eq_true rfl⟩ 0 rfl rfl rfl rfl (Nat.le_of_ble_eq_true rfl) ⟨Nat.le_of_ble_eq_true rfl, Nat.le_of_ble_eq_true rfl⟩ dL_law_1310 (fun v ty' w' hp hk' => ?_)
  obtain ⟨rfl, rfl⟩ := hp
  show GW κ 4 82 21282 (wM r g iM1 aM1 lM1 ++ wX q d iX0 aX0) 1313 [(3, .int 0), (2, .ref (r 0)), (1, .ref (q 0)), (0, .ref b)] [.int (-1)]
  refine g_aload_n hk dL_law_1313 rfl ?_
  refine g_aload_n hk dL_law_1314 rfl ?_
  refine g_iload_n hk dL_law_1315 rfl ?_
  refine g_iconst (v := 1) hk dL_law_1316 (by decide) ?_
  refine g_iadd hk dL_law_1317 ?_
  refine g_norm (v := 1) (by decide) ?_
  refine g_sld (v := xs 1) hk hX (vp_in_iff.mpr ⟨by decide, by show (1 : Int) < (L : Int); omega⟩) rfl dL_law_1318 ?_
  refine g_callV (n := 1) hk (m189_X12_turns l D zt g r (xs 1)) (SP.pre _ _) (fun q h => List.mem_append_right _ h) (gi_V zw_1903 zw_1904 zw_1905 zw_115 (gi_sub zi_m189_X12_turns zg_m189_X12_turns)) rfl rfl rfl (by decide +kernel) ⟨Nat.le_of_ble_eq_true rfl, Nat.le_of_ble_eq_true rfl⟩ 0 rfl rfl rfl rfl (Nat.le_of_ble_eq_true rfl) ⟨Nat.le_of_ble_eq_true rfl, Nat.le_of_ble_eq_true rfl⟩ dL_law_1319 (fun v ty' w' hp hk' => ?_)
  obtain ⟨rfl, rfl⟩ := hp
  show GW κ 4 82 21282 (wX q d iX0 aX0 ++ wM r g iM1 aM1 lM1) 1322 [(3, .int 0), (2, .ref (r 0)), (1, .ref (q 0)), (0, .ref b)] [.int (-1), .int (-1)]
  refine g_icmp_eq (tgt := 1465) (a := (-1)) (b := (-1)) hk dL_law_1322 (by decide) rfl rfl (fun _ => ?_) (fun z9 => absurd (show ((-1) : Int) = ((-1) : Int) from by decide) z9)
  exact tail _
set_option maxHeartbeats 4000000 in
set_option maxRecDepth 100000 in
theorem law_35 {κ : Cx} {l : Launch} {D : va_G} {zt : Nat × Nat × Nat} {q r : Nat → Nat} {d g : Nat → ClassId} {b L : Nat} {xs : Nat → Int32} (hk : GC κ l D zt code 4 RL lw_tbl (tyX d ++ tyM g) room_1) (hX : GX κ b L xs) (hL6 : L = 6) (tail : ∀ ws, GW κ 4 82 21282 ws 1465 [(3, .int 0), (2, .ref (r 0)), (1, .ref (q 0)), (0, .ref b)] []) : GW κ 4 82 21282 (wX q d iX0 aX0 ++ wM r g iM1 aM1 lM1) 1327 [(3, .int 0), (2, .ref (r 0)), (1, .ref (q 0)), (0, .ref b)] [] := by
  refine g_aload_n hk dL_law_1327 rfl ?_
  refine g_aload_n hk dL_law_1328 rfl ?_
  refine g_iload_n hk dL_law_1329 rfl ?_
  refine g_iconst (v := 1) hk dL_law_1330 (by decide) ?_
  refine g_iadd hk dL_law_1331 ?_
  refine g_norm (v := 1) (by decide) ?_
  refine g_sld (v := xs 1) hk hX (vp_in_iff.mpr ⟨by decide, by show (1 : Int) < (L : Int); omega⟩) rfl dL_law_1332 ?_
  refine g_callV (n := 1) hk (m304_X11_flat l D zt d q (xs 1)) (SP.pre _ _) (fun q h => List.mem_append_left _ h) (gi_V zw_1305 zw_1306 zw_1307 zw_103 (gi_sub zi_m304_X11_flat zg_m304_X11_flat)) rfl rfl rfl (by decide +kernel) ⟨Nat.le_of_ble_eq_true rfl, Nat.le_of_ble_eq_true rfl⟩ 0 rfl rfl rfl rfl (Nat.le_of_ble_eq_true rfl) ⟨Nat.le_of_ble_eq_true rfl, Nat.le_of_ble_eq_true rfl⟩ dL_law_1333 (fun v ty' w' hp hk' => ?_)
  rcases hp with ⟨c3710, rfl, rfl⟩ | ⟨c3711, c3712, rfl, rfl⟩ | ⟨c3713, c3714, rfl, rfl⟩
  · show GW κ 4 82 21282 (wM r g iM1 aM1 lM1 ++ wX q d iX0 aX0) 1336 [(3, .int 0), (2, .ref (r 0)), (1, .ref (q 0)), (0, .ref b)] [.int (-1)]
    refine g_aload_n hk dL_law_1336 rfl ?_
    refine g_aload_n hk dL_law_1337 rfl ?_
    refine g_iload_n hk dL_law_1338 rfl ?_
    refine g_iconst (v := 1) hk dL_law_1339 (by decide) ?_
    refine g_iadd hk dL_law_1340 ?_
    refine g_norm (v := 1) (by decide) ?_
    refine g_sld (v := xs 1) hk hX (vp_in_iff.mpr ⟨by decide, by show (1 : Int) < (L : Int); omega⟩) rfl dL_law_1341 ?_
    refine g_callV (n := 1) hk (m190_X12_flat l D zt g r (xs 1)) (SP.pre _ _) (fun q h => List.mem_append_right _ h) (gi_V zw_1743 zw_1744 zw_1745 zw_115 (gi_sub zi_m190_X12_flat zg_m190_X12_flat)) rfl rfl rfl (by decide +kernel) ⟨Nat.le_of_ble_eq_true rfl, Nat.le_of_ble_eq_true rfl⟩ 0 rfl rfl rfl rfl (Nat.le_of_ble_eq_true rfl) ⟨Nat.le_of_ble_eq_true rfl, Nat.le_of_ble_eq_true rfl⟩ dL_law_1342 (fun v ty' w' hp hk' => ?_)
    rcases hp with ⟨c3715, rfl, rfl⟩ | ⟨c3716, c3717, rfl, rfl⟩ | ⟨c3718, c3719, rfl, rfl⟩
    · show GW κ 4 82 21282 (wX q d iX0 aX0 ++ wM r g iM1 aM1 lM1) 1345 [(3, .int 0), (2, .ref (r 0)), (1, .ref (q 0)), (0, .ref b)] [.int (-1), .int (-1)]
      refine g_icmp_eq (tgt := 1465) (a := (-1)) (b := (-1)) hk dL_law_1345 (by decide) rfl rfl (fun _ => ?_) (fun z9 => absurd (show ((-1) : Int) = ((-1) : Int) from by decide) z9)
      exact tail _
    · show GW κ 4 82 21282 (wX q d iX0 aX0 ++ wM r g iM1 aM1 lM1) 1345 [(3, .int 0), (2, .ref (r 0)), (1, .ref (q 0)), (0, .ref b)] [.int (-1), .int (-1)]
      exfalso; omega
    · show GW κ 4 82 21282 (wX q d iX0 aX0 ++ wM r g iM1 aM1 lM1) 1345 [(3, .int 0), (2, .ref (r 0)), (1, .ref (q 0)), (0, .ref b)] [.int 0, .int (-1)]
      exfalso; omega
  · show GW κ 4 82 21282 (wM r g iM1 aM1 lM1 ++ wX q d iX0 aX0) 1336 [(3, .int 0), (2, .ref (r 0)), (1, .ref (q 0)), (0, .ref b)] [.int 0]
    refine g_aload_n hk dL_law_1336 rfl ?_
    refine g_aload_n hk dL_law_1337 rfl ?_
    refine g_iload_n hk dL_law_1338 rfl ?_
    refine g_iconst (v := 1) hk dL_law_1339 (by decide) ?_
    refine g_iadd hk dL_law_1340 ?_
    refine g_norm (v := 1) (by decide) ?_
    refine g_sld (v := xs 1) hk hX (vp_in_iff.mpr ⟨by decide, by show (1 : Int) < (L : Int); omega⟩) rfl dL_law_1341 ?_
    refine g_callV (n := 1) hk (m190_X12_flat l D zt g r (xs 1)) (SP.pre _ _) (fun q h => List.mem_append_right _ h) (gi_V zw_1743 zw_1744 zw_1745 zw_115 (gi_sub zi_m190_X12_flat zg_m190_X12_flat)) rfl rfl rfl (by decide +kernel) ⟨Nat.le_of_ble_eq_true rfl, Nat.le_of_ble_eq_true rfl⟩ 0 rfl rfl rfl rfl (Nat.le_of_ble_eq_true rfl) ⟨Nat.le_of_ble_eq_true rfl, Nat.le_of_ble_eq_true rfl⟩ dL_law_1342 (fun v ty' w' hp hk' => ?_)
    rcases hp with ⟨c3720, rfl, rfl⟩ | ⟨c3721, c3722, rfl, rfl⟩ | ⟨c3723, c3724, rfl, rfl⟩
    · show GW κ 4 82 21282 (wX q d iX0 aX0 ++ wM r g iM1 aM1 lM1) 1345 [(3, .int 0), (2, .ref (r 0)), (1, .ref (q 0)), (0, .ref b)] [.int (-1), .int 0]
      exfalso; omega
    · show GW κ 4 82 21282 (wX q d iX0 aX0 ++ wM r g iM1 aM1 lM1) 1345 [(3, .int 0), (2, .ref (r 0)), (1, .ref (q 0)), (0, .ref b)] [.int (-1), .int 0]
      exfalso; omega
    · show GW κ 4 82 21282 (wX q d iX0 aX0 ++ wM r g iM1 aM1 lM1) 1345 [(3, .int 0), (2, .ref (r 0)), (1, .ref (q 0)), (0, .ref b)] [.int 0, .int 0]
      refine g_icmp_eq (tgt := 1465) (a := 0) (b := 0) hk dL_law_1345 (by decide) rfl rfl (fun _ => ?_) (fun z9 => absurd (show (0 : Int) = (0 : Int) from by decide) z9)
      exact tail _
  · show GW κ 4 82 21282 (wM r g iM1 aM1 lM1 ++ wX q d iX0 aX0) 1336 [(3, .int 0), (2, .ref (r 0)), (1, .ref (q 0)), (0, .ref b)] [.int (-1)]
    refine g_aload_n hk dL_law_1336 rfl ?_
    refine g_aload_n hk dL_law_1337 rfl ?_
    refine g_iload_n hk dL_law_1338 rfl ?_
    refine g_iconst (v := 1) hk dL_law_1339 (by decide) ?_
    refine g_iadd hk dL_law_1340 ?_
    refine g_norm (v := 1) (by decide) ?_
    refine g_sld (v := xs 1) hk hX (vp_in_iff.mpr ⟨by decide, by show (1 : Int) < (L : Int); omega⟩) rfl dL_law_1341 ?_
    refine g_callV (n := 1) hk (m190_X12_flat l D zt g r (xs 1)) (SP.pre _ _) (fun q h => List.mem_append_right _ h) (gi_V zw_1743 zw_1744 zw_1745 zw_115 (gi_sub zi_m190_X12_flat zg_m190_X12_flat)) rfl rfl rfl (by decide +kernel) ⟨Nat.le_of_ble_eq_true rfl, Nat.le_of_ble_eq_true rfl⟩ 0 rfl rfl rfl rfl (Nat.le_of_ble_eq_true rfl) ⟨Nat.le_of_ble_eq_true rfl, Nat.le_of_ble_eq_true rfl⟩ dL_law_1342 (fun v ty' w' hp hk' => ?_)
    rcases hp with ⟨c3725, rfl, rfl⟩ | ⟨c3726, c3727, rfl, rfl⟩ | ⟨c3728, c3729, rfl, rfl⟩
    · show GW κ 4 82 21282 (wX q d iX0 aX0 ++ wM r g iM1 aM1 lM1) 1345 [(3, .int 0), (2, .ref (r 0)), (1, .ref (q 0)), (0, .ref b)] [.int (-1), .int (-1)]
      exfalso; omega
    · show GW κ 4 82 21282 (wX q d iX0 aX0 ++ wM r g iM1 aM1 lM1) 1345 [(3, .int 0), (2, .ref (r 0)), (1, .ref (q 0)), (0, .ref b)] [.int (-1), .int (-1)]
      refine g_icmp_eq (tgt := 1465) (a := (-1)) (b := (-1)) hk dL_law_1345 (by decide) rfl rfl (fun _ => ?_) (fun z9 => absurd (show ((-1) : Int) = ((-1) : Int) from by decide) z9)
      exact tail _
    · show GW κ 4 82 21282 (wX q d iX0 aX0 ++ wM r g iM1 aM1 lM1) 1345 [(3, .int 0), (2, .ref (r 0)), (1, .ref (q 0)), (0, .ref b)] [.int 0, .int (-1)]
      exfalso; omega
set_option maxHeartbeats 4000000 in
set_option maxRecDepth 100000 in
theorem law_36 {κ : Cx} {l : Launch} {D : va_G} {zt : Nat × Nat × Nat} {q r : Nat → Nat} {d g : Nat → ClassId} {b L : Nat} {xs : Nat → Int32} (hk : GC κ l D zt code 4 RL lw_tbl (tyX d ++ tyM g) room_1) (hX : GX κ b L xs) (hL6 : L = 6) (tail : ∀ ws, GW κ 4 82 21282 ws 1465 [(3, .int 0), (2, .ref (r 0)), (1, .ref (q 0)), (0, .ref b)] []) : GW κ 4 82 21282 (wX q d iX0 aX0 ++ wM r g iM1 aM1 lM1) 1350 [(3, .int 0), (2, .ref (r 0)), (1, .ref (q 0)), (0, .ref b)] [] := by
  refine g_aload_n hk dL_law_1350 rfl ?_
  refine g_aload_n hk dL_law_1351 rfl ?_
  refine g_iload_n hk dL_law_1352 rfl ?_
  refine g_iconst (v := 1) hk dL_law_1353 (by decide) ?_
  refine g_iadd hk dL_law_1354 ?_
  refine g_norm (v := 1) (by decide) ?_
  refine g_sld (v := xs 1) hk hX (vp_in_iff.mpr ⟨by decide, by show (1 : Int) < (L : Int); omega⟩) rfl dL_law_1355 ?_
  refine g_callV (n := 1) hk (m306_X11_whole l D zt d q (xs 1)) (SP.pre _ _) (fun q h => List.mem_append_left _ h) (gi_V zw_1313 zw_1314 zw_1315 zw_103 (gi_sub zi_m306_X11_whole zg_m306_X11_whole)) rfl rfl rfl (by decide +kernel) ⟨Nat.le_of_ble_eq_true rfl, Nat.le_of_ble_eq_true rfl⟩ 0 rfl rfl rfl rfl (Nat.le_of_ble_eq_true rfl) ⟨Nat.le_of_ble_eq_true rfl, Nat.le_of_ble_eq_true rfl⟩ dL_law_1356 (fun v ty' w' hp hk' => ?_)
  rcases hp with ⟨c3730, rfl, rfl⟩ | ⟨c3731, c3732, rfl, rfl⟩ | ⟨c3733, c3734, rfl, rfl⟩
  · show GW κ 4 82 21282 (wM r g iM1 aM1 lM1 ++ wX q d iX0 aX0) 1359 [(3, .int 0), (2, .ref (r 0)), (1, .ref (q 0)), (0, .ref b)] [.int (-1)]
    refine g_aload_n hk dL_law_1359 rfl ?_
    refine g_aload_n hk dL_law_1360 rfl ?_
    refine g_iload_n hk dL_law_1361 rfl ?_
    refine g_iconst (v := 1) hk dL_law_1362 (by decide) ?_
    refine g_iadd hk dL_law_1363 ?_
    refine g_norm (v := 1) (by decide) ?_
    refine g_sld (v := xs 1) hk hX (vp_in_iff.mpr ⟨by decide, by show (1 : Int) < (L : Int); omega⟩) rfl dL_law_1364 ?_
    refine g_callV (n := 1) hk (m192_X12_whole l D zt g r (xs 1)) (SP.pre _ _) (fun q h => List.mem_append_right _ h) (gi_V zw_1747 zw_1748 zw_1749 zw_115 (gi_sub zi_m192_X12_whole zg_m192_X12_whole)) rfl rfl rfl (by decide +kernel) ⟨Nat.le_of_ble_eq_true rfl, Nat.le_of_ble_eq_true rfl⟩ 0 rfl rfl rfl rfl (Nat.le_of_ble_eq_true rfl) ⟨Nat.le_of_ble_eq_true rfl, Nat.le_of_ble_eq_true rfl⟩ dL_law_1365 (fun v ty' w' hp hk' => ?_)
    rcases hp with ⟨c3735, rfl, rfl⟩ | ⟨c3736, c3737, rfl, rfl⟩ | ⟨c3738, c3739, c3740, rfl, rfl⟩ | ⟨c3741, c3742, c3743, rfl, rfl⟩
    · show GW κ 4 82 21282 (wX q d iX0 aX0 ++ wM r g iM1 aM1 lM1) 1368 [(3, .int 0), (2, .ref (r 0)), (1, .ref (q 0)), (0, .ref b)] [.int (-1), .int (-1)]
      refine g_icmp_eq (tgt := 1465) (a := (-1)) (b := (-1)) hk dL_law_1368 (by decide) rfl rfl (fun _ => ?_) (fun z9 => absurd (show ((-1) : Int) = ((-1) : Int) from by decide) z9)
      exact tail _
    · show GW κ 4 82 21282 (wX q d iX0 aX0 ++ wM r g iM1 aM1 lM1) 1368 [(3, .int 0), (2, .ref (r 0)), (1, .ref (q 0)), (0, .ref b)] [.int (-1), .int (-1)]
      exfalso; omega
    · show GW κ 4 82 21282 (wX q d iX0 aX0 ++ wM r g iM1 aM1 lM1) 1368 [(3, .int 0), (2, .ref (r 0)), (1, .ref (q 0)), (0, .ref b)] [.int (-2), .int (-1)]
      exfalso; omega
    · show GW κ 4 82 21282 (wX q d iX0 aX0 ++ wM r g iM1 aM1 lM1) 1368 [(3, .int 0), (2, .ref (r 0)), (1, .ref (q 0)), (0, .ref b)] [.int (-2), .int (-1)]
      exfalso; omega
  · show GW κ 4 82 21282 (wM r g iM1 aM1 lM1 ++ wX q d iX0 aX0) 1359 [(3, .int 0), (2, .ref (r 0)), (1, .ref (q 0)), (0, .ref b)] [.int (-2)]
    refine g_aload_n hk dL_law_1359 rfl ?_
    refine g_aload_n hk dL_law_1360 rfl ?_
    refine g_iload_n hk dL_law_1361 rfl ?_
    refine g_iconst (v := 1) hk dL_law_1362 (by decide) ?_
    refine g_iadd hk dL_law_1363 ?_
    refine g_norm (v := 1) (by decide) ?_
    refine g_sld (v := xs 1) hk hX (vp_in_iff.mpr ⟨by decide, by show (1 : Int) < (L : Int); omega⟩) rfl dL_law_1364 ?_
    refine g_callV (n := 1) hk (m192_X12_whole l D zt g r (xs 1)) (SP.pre _ _) (fun q h => List.mem_append_right _ h) (gi_V zw_1747 zw_1748 zw_1749 zw_115 (gi_sub zi_m192_X12_whole zg_m192_X12_whole)) rfl rfl rfl (by decide +kernel) ⟨Nat.le_of_ble_eq_true rfl, Nat.le_of_ble_eq_true rfl⟩ 0 rfl rfl rfl rfl (Nat.le_of_ble_eq_true rfl) ⟨Nat.le_of_ble_eq_true rfl, Nat.le_of_ble_eq_true rfl⟩ dL_law_1365 (fun v ty' w' hp hk' => ?_)
    rcases hp with ⟨c3744, rfl, rfl⟩ | ⟨c3745, c3746, rfl, rfl⟩ | ⟨c3747, c3748, c3749, rfl, rfl⟩ | ⟨c3750, c3751, c3752, rfl, rfl⟩
    · show GW κ 4 82 21282 (wX q d iX0 aX0 ++ wM r g iM1 aM1 lM1) 1368 [(3, .int 0), (2, .ref (r 0)), (1, .ref (q 0)), (0, .ref b)] [.int (-1), .int (-2)]
      exfalso; omega
    · show GW κ 4 82 21282 (wX q d iX0 aX0 ++ wM r g iM1 aM1 lM1) 1368 [(3, .int 0), (2, .ref (r 0)), (1, .ref (q 0)), (0, .ref b)] [.int (-1), .int (-2)]
      exfalso; omega
    · show GW κ 4 82 21282 (wX q d iX0 aX0 ++ wM r g iM1 aM1 lM1) 1368 [(3, .int 0), (2, .ref (r 0)), (1, .ref (q 0)), (0, .ref b)] [.int (-2), .int (-2)]
      refine g_icmp_eq (tgt := 1465) (a := (-2)) (b := (-2)) hk dL_law_1368 (by decide) rfl rfl (fun _ => ?_) (fun z9 => absurd (show ((-2) : Int) = ((-2) : Int) from by decide) z9)
      exact tail _
    · show GW κ 4 82 21282 (wX q d iX0 aX0 ++ wM r g iM1 aM1 lM1) 1368 [(3, .int 0), (2, .ref (r 0)), (1, .ref (q 0)), (0, .ref b)] [.int (-2), .int (-2)]
      refine g_icmp_eq (tgt := 1465) (a := (-2)) (b := (-2)) hk dL_law_1368 (by decide) rfl rfl (fun _ => ?_) (fun z9 => absurd (show ((-2) : Int) = ((-2) : Int) from by decide) z9)
      exact tail _
  · show GW κ 4 82 21282 (wM r g iM1 aM1 lM1 ++ wX q d iX0 aX0) 1359 [(3, .int 0), (2, .ref (r 0)), (1, .ref (q 0)), (0, .ref b)] [.int (-1)]
    refine g_aload_n hk dL_law_1359 rfl ?_
    refine g_aload_n hk dL_law_1360 rfl ?_
    refine g_iload_n hk dL_law_1361 rfl ?_
    refine g_iconst (v := 1) hk dL_law_1362 (by decide) ?_
    refine g_iadd hk dL_law_1363 ?_
    refine g_norm (v := 1) (by decide) ?_
    refine g_sld (v := xs 1) hk hX (vp_in_iff.mpr ⟨by decide, by show (1 : Int) < (L : Int); omega⟩) rfl dL_law_1364 ?_
    refine g_callV (n := 1) hk (m192_X12_whole l D zt g r (xs 1)) (SP.pre _ _) (fun q h => List.mem_append_right _ h) (gi_V zw_1747 zw_1748 zw_1749 zw_115 (gi_sub zi_m192_X12_whole zg_m192_X12_whole)) rfl rfl rfl (by decide +kernel) ⟨Nat.le_of_ble_eq_true rfl, Nat.le_of_ble_eq_true rfl⟩ 0 rfl rfl rfl rfl (Nat.le_of_ble_eq_true rfl) ⟨Nat.le_of_ble_eq_true rfl, Nat.le_of_ble_eq_true rfl⟩ dL_law_1365 (fun v ty' w' hp hk' => ?_)
    rcases hp with ⟨c3753, rfl, rfl⟩ | ⟨c3754, c3755, rfl, rfl⟩ | ⟨c3756, c3757, c3758, rfl, rfl⟩ | ⟨c3759, c3760, c3761, rfl, rfl⟩
    · show GW κ 4 82 21282 (wX q d iX0 aX0 ++ wM r g iM1 aM1 lM1) 1368 [(3, .int 0), (2, .ref (r 0)), (1, .ref (q 0)), (0, .ref b)] [.int (-1), .int (-1)]
      exfalso; omega
    · show GW κ 4 82 21282 (wX q d iX0 aX0 ++ wM r g iM1 aM1 lM1) 1368 [(3, .int 0), (2, .ref (r 0)), (1, .ref (q 0)), (0, .ref b)] [.int (-1), .int (-1)]
      refine g_icmp_eq (tgt := 1465) (a := (-1)) (b := (-1)) hk dL_law_1368 (by decide) rfl rfl (fun _ => ?_) (fun z9 => absurd (show ((-1) : Int) = ((-1) : Int) from by decide) z9)
      exact tail _
    · show GW κ 4 82 21282 (wX q d iX0 aX0 ++ wM r g iM1 aM1 lM1) 1368 [(3, .int 0), (2, .ref (r 0)), (1, .ref (q 0)), (0, .ref b)] [.int (-2), .int (-1)]
      exfalso; omega
    · show GW κ 4 82 21282 (wX q d iX0 aX0 ++ wM r g iM1 aM1 lM1) 1368 [(3, .int 0), (2, .ref (r 0)), (1, .ref (q 0)), (0, .ref b)] [.int (-2), .int (-1)]
      exfalso; omega
set_option maxHeartbeats 4000000 in
set_option maxRecDepth 100000 in
theorem law_37 {κ : Cx} {l : Launch} {D : va_G} {zt : Nat × Nat × Nat} {q r : Nat → Nat} {d g : Nat → ClassId} {b L : Nat} {xs : Nat → Int32} (hk : GC κ l D zt code 4 RL lw_tbl (tyX d ++ tyM g) room_1) (hX : GX κ b L xs) (hL6 : L = 6) (tail : ∀ ws, GW κ 4 82 21282 ws 1465 [(3, .int 0), (2, .ref (r 0)), (1, .ref (q 0)), (0, .ref b)] []) : GW κ 4 82 21282 (wX q d iX0 aX0 ++ wM r g iM1 aM1 lM1) 1373 [(3, .int 0), (2, .ref (r 0)), (1, .ref (q 0)), (0, .ref b)] [] := by
  refine g_aload_n hk dL_law_1373 rfl ?_
  refine g_aload_n hk dL_law_1374 rfl ?_
  refine g_iload_n hk dL_law_1375 rfl ?_
  refine g_iconst (v := 1) hk dL_law_1376 (by decide) ?_
  refine g_iadd hk dL_law_1377 ?_
  refine g_norm (v := 1) (by decide) ?_
  refine g_sld (v := xs 1) hk hX (vp_in_iff.mpr ⟨by decide, by show (1 : Int) < (L : Int); omega⟩) rfl dL_law_1378 ?_
  refine g_callV (n := 1) hk (m308_X11_fired l D zt d q (xs 1)) (SP.pre _ _) (fun q h => List.mem_append_left _ h) (gi_V zw_1105 zw_1106 zw_1107 zw_103 (gi_sub zi_m308_X11_fired zg_m308_X11_fired)) rfl rfl rfl (by decide +kernel) ⟨Nat.le_of_ble_eq_true rfl, Nat.le_of_ble_eq_true rfl⟩ 0 rfl rfl rfl rfl (Nat.le_of_ble_eq_true rfl) ⟨Nat.le_of_ble_eq_true rfl, Nat.le_of_ble_eq_true rfl⟩ dL_law_1379 (fun v ty' w' hp hk' => ?_)
  rcases hp with ⟨c3762, rfl, rfl⟩ | ⟨c3763, rfl, rfl⟩
  · show GW κ 4 82 21282 (wM r g iM1 aM1 lM1 ++ wX q d iX0 aX0) 1382 [(3, .int 0), (2, .ref (r 0)), (1, .ref (q 0)), (0, .ref b)] [.int 0]
    refine g_aload_n hk dL_law_1382 rfl ?_
    refine g_aload_n hk dL_law_1383 rfl ?_
    refine g_iload_n hk dL_law_1384 rfl ?_
    refine g_iconst (v := 1) hk dL_law_1385 (by decide) ?_
    refine g_iadd hk dL_law_1386 ?_
    refine g_norm (v := 1) (by decide) ?_
    refine g_sld (v := xs 1) hk hX (vp_in_iff.mpr ⟨by decide, by show (1 : Int) < (L : Int); omega⟩) rfl dL_law_1387 ?_
    refine g_callV (n := 1) hk (m193_X12_fired l D zt g r (xs 1)) (SP.pre _ _) (fun q h => List.mem_append_right _ h) (gi_V zw_1907 zw_1908 zw_1909 zw_115 (gi_sub zi_m193_X12_fired zg_m193_X12_fired)) rfl rfl rfl (by decide +kernel) ⟨Nat.le_of_ble_eq_true rfl, Nat.le_of_ble_eq_true rfl⟩ 0 rfl rfl rfl rfl (Nat.le_of_ble_eq_true rfl) ⟨Nat.le_of_ble_eq_true rfl, Nat.le_of_ble_eq_true rfl⟩ dL_law_1388 (fun v ty' w' hp hk' => ?_)
    rcases hp with ⟨c3764, rfl, rfl⟩ | ⟨c3765, rfl, rfl⟩
    · show GW κ 4 82 21282 (wX q d iX0 aX0 ++ wM r g iM1 (up2 aM1 18 (cp (aM1 17) (aM1 18) 165)) lM1) 1391 [(3, .int 0), (2, .ref (r 0)), (1, .ref (q 0)), (0, .ref b)] [.int 0, .int 0]
      refine g_icmp_eq (tgt := 1465) (a := 0) (b := 0) hk dL_law_1391 (by decide) rfl rfl (fun _ => ?_) (fun z9 => absurd (show (0 : Int) = (0 : Int) from by decide) z9)
      exact tail _
    · show GW κ 4 82 21282 (wX q d iX0 aX0 ++ wM r g iM1 aM1 lM1) 1391 [(3, .int 0), (2, .ref (r 0)), (1, .ref (q 0)), (0, .ref b)] [.int (-1), .int 0]
      exfalso; omega
  · show GW κ 4 82 21282 (wM r g iM1 aM1 lM1 ++ wX q d iX0 aX0) 1382 [(3, .int 0), (2, .ref (r 0)), (1, .ref (q 0)), (0, .ref b)] [.int (-1)]
    refine g_aload_n hk dL_law_1382 rfl ?_
    refine g_aload_n hk dL_law_1383 rfl ?_
    refine g_iload_n hk dL_law_1384 rfl ?_
    refine g_iconst (v := 1) hk dL_law_1385 (by decide) ?_
    refine g_iadd hk dL_law_1386 ?_
    refine g_norm (v := 1) (by decide) ?_
    refine g_sld (v := xs 1) hk hX (vp_in_iff.mpr ⟨by decide, by show (1 : Int) < (L : Int); omega⟩) rfl dL_law_1387 ?_
    refine g_callV (n := 1) hk (m193_X12_fired l D zt g r (xs 1)) (SP.pre _ _) (fun q h => List.mem_append_right _ h) (gi_V zw_1907 zw_1908 zw_1909 zw_115 (gi_sub zi_m193_X12_fired zg_m193_X12_fired)) rfl rfl rfl (by decide +kernel) ⟨Nat.le_of_ble_eq_true rfl, Nat.le_of_ble_eq_true rfl⟩ 0 rfl rfl rfl rfl (Nat.le_of_ble_eq_true rfl) ⟨Nat.le_of_ble_eq_true rfl, Nat.le_of_ble_eq_true rfl⟩ dL_law_1388 (fun v ty' w' hp hk' => ?_)
    rcases hp with ⟨c3766, rfl, rfl⟩ | ⟨c3767, rfl, rfl⟩
    · show GW κ 4 82 21282 (wX q d iX0 aX0 ++ wM r g iM1 (up2 aM1 18 (cp (aM1 17) (aM1 18) 165)) lM1) 1391 [(3, .int 0), (2, .ref (r 0)), (1, .ref (q 0)), (0, .ref b)] [.int 0, .int (-1)]
      exfalso; omega
    · show GW κ 4 82 21282 (wX q d iX0 aX0 ++ wM r g iM1 aM1 lM1) 1391 [(3, .int 0), (2, .ref (r 0)), (1, .ref (q 0)), (0, .ref b)] [.int (-1), .int (-1)]
      refine g_icmp_eq (tgt := 1465) (a := (-1)) (b := (-1)) hk dL_law_1391 (by decide) rfl rfl (fun _ => ?_) (fun z9 => absurd (show ((-1) : Int) = ((-1) : Int) from by decide) z9)
      exact tail _
set_option maxHeartbeats 4000000 in
set_option maxRecDepth 100000 in
theorem law_38 {κ : Cx} {l : Launch} {D : va_G} {zt : Nat × Nat × Nat} {q r : Nat → Nat} {d g : Nat → ClassId} {b L : Nat} {xs : Nat → Int32} (hk : GC κ l D zt code 4 RL lw_tbl (tyX d ++ tyM g) room_1) (hX : GX κ b L xs) (hL6 : L = 6) (tail : ∀ ws, GW κ 4 82 21282 ws 1465 [(3, .int 0), (2, .ref (r 0)), (1, .ref (q 0)), (0, .ref b)] []) : GW κ 4 82 21282 (wX q d iX0 aX0 ++ wM r g iM1 aM1 lM1) 1396 [(3, .int 0), (2, .ref (r 0)), (1, .ref (q 0)), (0, .ref b)] [] := by
  refine g_aload_n hk dL_law_1396 rfl ?_
  refine g_aload_n hk dL_law_1397 rfl ?_
  refine g_iload_n hk dL_law_1398 rfl ?_
  refine g_iconst (v := 1) hk dL_law_1399 (by decide) ?_
  refine g_iadd hk dL_law_1400 ?_
  refine g_norm (v := 1) (by decide) ?_
  refine g_sld (v := xs 1) hk hX (vp_in_iff.mpr ⟨by decide, by show (1 : Int) < (L : Int); omega⟩) rfl dL_law_1401 ?_
  refine g_callV (n := 1) hk (m310_X11_hold l D zt d q (xs 1)) (SP.pre _ _) (fun q h => List.mem_append_left _ h) (gi_V zw_1326 zw_1327 zw_1328 zw_103 (gi_sub zi_m310_X11_hold zg_m310_X11_hold)) rfl rfl rfl (by decide +kernel) ⟨Nat.le_of_ble_eq_true rfl, Nat.le_of_ble_eq_true rfl⟩ 0 rfl rfl rfl rfl (Nat.le_of_ble_eq_true rfl) ⟨Nat.le_of_ble_eq_true rfl, Nat.le_of_ble_eq_true rfl⟩ dL_law_1402 (fun v ty' w' hp hk' => ?_)
  rcases hp with ⟨c3768, rfl, rfl⟩ | ⟨c3769, c3770, c3771, rfl, rfl⟩ | ⟨c3772, c3773, c3774, c3775, rfl, rfl⟩ | ⟨c3776, c3777, c3778, c3779, c3780, rfl, rfl⟩ | ⟨c3781, c3782, rfl, rfl⟩
  · show GW κ 4 82 21282 (wM r g iM1 aM1 lM1 ++ wX q d iX0 aX0) 1405 [(3, .int 0), (2, .ref (r 0)), (1, .ref (q 0)), (0, .ref b)] [.int 0]
    refine g_aload_n hk dL_law_1405 rfl ?_
    refine g_aload_n hk dL_law_1406 rfl ?_
    refine g_iload_n hk dL_law_1407 rfl ?_
    refine g_iconst (v := 1) hk dL_law_1408 (by decide) ?_
    refine g_iadd hk dL_law_1409 ?_
    refine g_norm (v := 1) (by decide) ?_
    refine g_sld (v := xs 1) hk hX (vp_in_iff.mpr ⟨by decide, by show (1 : Int) < (L : Int); omega⟩) rfl dL_law_1410 ?_
    refine g_callV (n := 1) hk (m194_X12_hold l D zt g r (xs 1)) (SP.pre _ _) (fun q h => List.mem_append_right _ h) (gi_V zw_1935 zw_1936 zw_1937 zw_115 (gi_sub zi_m194_X12_hold zg_m194_X12_hold)) rfl rfl rfl (by decide +kernel) ⟨Nat.le_of_ble_eq_true rfl, Nat.le_of_ble_eq_true rfl⟩ 0 rfl rfl rfl rfl (Nat.le_of_ble_eq_true rfl) ⟨Nat.le_of_ble_eq_true rfl, Nat.le_of_ble_eq_true rfl⟩ dL_law_1411 (fun v ty' w' hp hk' => ?_)
    rcases hp with ⟨c3783, rfl, rfl⟩ | ⟨c3784, c3785, rfl, rfl⟩ | ⟨y3786, c3787, c3788, c3789, rfl, rfl⟩ | ⟨y3790, c3791, c3792, c3793, c3794, rfl, rfl⟩ | ⟨y3795, c3796, c3797, c3798, c3799, c3800, rfl, rfl⟩
    · show GW κ 4 82 21282 (wX q d iX0 aX0 ++ wM r g iM1 aM1 lM1) 1414 [(3, .int 0), (2, .ref (r 0)), (1, .ref (q 0)), (0, .ref b)] [.int 0, .int 0]
      refine g_icmp_eq (tgt := 1465) (a := 0) (b := 0) hk dL_law_1414 (by decide) rfl rfl (fun _ => ?_) (fun z9 => absurd (show (0 : Int) = (0 : Int) from by decide) z9)
      exact tail _
    · show GW κ 4 82 21282 (wX q d iX0 aX0 ++ wM r g iM1 aM1 lM1) 1414 [(3, .int 0), (2, .ref (r 0)), (1, .ref (q 0)), (0, .ref b)] [.int 0, .int 0]
      exfalso; omega
    · show GW κ 4 82 21282 (wX q d iX0 aX0 ++ wM r g iM1 (up2 (up3 aM1 27 0 1) 28 y3786) lM1) 1414 [(3, .int 0), (2, .ref (r 0)), (1, .ref (q 0)), (0, .ref b)] [.int 1, .int 0]
      exfalso; omega
    · show GW κ 4 82 21282 (wX q d iX0 aX0 ++ wM r g iM1 (up2 (up3 aM1 27 1 1) 28 y3790) lM1) 1414 [(3, .int 0), (2, .ref (r 0)), (1, .ref (q 0)), (0, .ref b)] [.int 1, .int 0]
      exfalso; omega
    · show GW κ 4 82 21282 (wX q d iX0 aX0 ++ wM r g iM1 (up2 (up3 aM1 27 2 1) 28 y3795) lM1) 1414 [(3, .int 0), (2, .ref (r 0)), (1, .ref (q 0)), (0, .ref b)] [.int 1, .int 0]
      exfalso; omega
  · show GW κ 4 82 21282 (wM r g iM1 aM1 lM1 ++ wX q d (upd iX0 23 1) aX0) 1405 [(3, .int 0), (2, .ref (r 0)), (1, .ref (q 0)), (0, .ref b)] [.int 1]
    refine g_aload_n hk dL_law_1405 rfl ?_
    refine g_aload_n hk dL_law_1406 rfl ?_
    refine g_iload_n hk dL_law_1407 rfl ?_
    refine g_iconst (v := 1) hk dL_law_1408 (by decide) ?_
    refine g_iadd hk dL_law_1409 ?_
    refine g_norm (v := 1) (by decide) ?_
    refine g_sld (v := xs 1) hk hX (vp_in_iff.mpr ⟨by decide, by show (1 : Int) < (L : Int); omega⟩) rfl dL_law_1410 ?_
    refine g_callV (n := 1) hk (m194_X12_hold l D zt g r (xs 1)) (SP.pre _ _) (fun q h => List.mem_append_right _ h) (gi_V zw_1935 zw_1936 zw_1937 zw_115 (gi_sub zi_m194_X12_hold zg_m194_X12_hold)) rfl rfl rfl (by decide +kernel) ⟨Nat.le_of_ble_eq_true rfl, Nat.le_of_ble_eq_true rfl⟩ 0 rfl rfl rfl rfl (Nat.le_of_ble_eq_true rfl) ⟨Nat.le_of_ble_eq_true rfl, Nat.le_of_ble_eq_true rfl⟩ dL_law_1411 (fun v ty' w' hp hk' => ?_)
    rcases hp with ⟨c3801, rfl, rfl⟩ | ⟨c3802, c3803, rfl, rfl⟩ | ⟨y3804, c3805, c3806, c3807, rfl, rfl⟩ | ⟨y3808, c3809, c3810, c3811, c3812, rfl, rfl⟩ | ⟨y3813, c3814, c3815, c3816, c3817, c3818, rfl, rfl⟩
    · show GW κ 4 82 21282 (wX q d (upd iX0 23 1) aX0 ++ wM r g iM1 aM1 lM1) 1414 [(3, .int 0), (2, .ref (r 0)), (1, .ref (q 0)), (0, .ref b)] [.int 0, .int 1]
      exfalso; omega
    · show GW κ 4 82 21282 (wX q d (upd iX0 23 1) aX0 ++ wM r g iM1 aM1 lM1) 1414 [(3, .int 0), (2, .ref (r 0)), (1, .ref (q 0)), (0, .ref b)] [.int 0, .int 1]
      exfalso; omega
    · show GW κ 4 82 21282 (wX q d (upd iX0 23 1) aX0 ++ wM r g iM1 (up2 (up3 aM1 27 0 1) 28 y3804) lM1) 1414 [(3, .int 0), (2, .ref (r 0)), (1, .ref (q 0)), (0, .ref b)] [.int 1, .int 1]
      refine g_icmp_eq (tgt := 1465) (a := 1) (b := 1) hk dL_law_1414 (by decide) rfl rfl (fun _ => ?_) (fun z9 => absurd (show (1 : Int) = (1 : Int) from by decide) z9)
      exact tail _
    · show GW κ 4 82 21282 (wX q d (upd iX0 23 1) aX0 ++ wM r g iM1 (up2 (up3 aM1 27 1 1) 28 y3808) lM1) 1414 [(3, .int 0), (2, .ref (r 0)), (1, .ref (q 0)), (0, .ref b)] [.int 1, .int 1]
      exfalso; omega
    · show GW κ 4 82 21282 (wX q d (upd iX0 23 1) aX0 ++ wM r g iM1 (up2 (up3 aM1 27 2 1) 28 y3813) lM1) 1414 [(3, .int 0), (2, .ref (r 0)), (1, .ref (q 0)), (0, .ref b)] [.int 1, .int 1]
      exfalso; omega
  · show GW κ 4 82 21282 (wM r g iM1 aM1 lM1 ++ wX q d (upd iX0 25 1) aX0) 1405 [(3, .int 0), (2, .ref (r 0)), (1, .ref (q 0)), (0, .ref b)] [.int 1]
    refine g_aload_n hk dL_law_1405 rfl ?_
    refine g_aload_n hk dL_law_1406 rfl ?_
    refine g_iload_n hk dL_law_1407 rfl ?_
    refine g_iconst (v := 1) hk dL_law_1408 (by decide) ?_
    refine g_iadd hk dL_law_1409 ?_
    refine g_norm (v := 1) (by decide) ?_
    refine g_sld (v := xs 1) hk hX (vp_in_iff.mpr ⟨by decide, by show (1 : Int) < (L : Int); omega⟩) rfl dL_law_1410 ?_
    refine g_callV (n := 1) hk (m194_X12_hold l D zt g r (xs 1)) (SP.pre _ _) (fun q h => List.mem_append_right _ h) (gi_V zw_1935 zw_1936 zw_1937 zw_115 (gi_sub zi_m194_X12_hold zg_m194_X12_hold)) rfl rfl rfl (by decide +kernel) ⟨Nat.le_of_ble_eq_true rfl, Nat.le_of_ble_eq_true rfl⟩ 0 rfl rfl rfl rfl (Nat.le_of_ble_eq_true rfl) ⟨Nat.le_of_ble_eq_true rfl, Nat.le_of_ble_eq_true rfl⟩ dL_law_1411 (fun v ty' w' hp hk' => ?_)
    rcases hp with ⟨c3819, rfl, rfl⟩ | ⟨c3820, c3821, rfl, rfl⟩ | ⟨y3822, c3823, c3824, c3825, rfl, rfl⟩ | ⟨y3826, c3827, c3828, c3829, c3830, rfl, rfl⟩ | ⟨y3831, c3832, c3833, c3834, c3835, c3836, rfl, rfl⟩
    · show GW κ 4 82 21282 (wX q d (upd iX0 25 1) aX0 ++ wM r g iM1 aM1 lM1) 1414 [(3, .int 0), (2, .ref (r 0)), (1, .ref (q 0)), (0, .ref b)] [.int 0, .int 1]
      exfalso; omega
    · show GW κ 4 82 21282 (wX q d (upd iX0 25 1) aX0 ++ wM r g iM1 aM1 lM1) 1414 [(3, .int 0), (2, .ref (r 0)), (1, .ref (q 0)), (0, .ref b)] [.int 0, .int 1]
      exfalso; omega
    · show GW κ 4 82 21282 (wX q d (upd iX0 25 1) aX0 ++ wM r g iM1 (up2 (up3 aM1 27 0 1) 28 y3822) lM1) 1414 [(3, .int 0), (2, .ref (r 0)), (1, .ref (q 0)), (0, .ref b)] [.int 1, .int 1]
      exfalso; omega
    · show GW κ 4 82 21282 (wX q d (upd iX0 25 1) aX0 ++ wM r g iM1 (up2 (up3 aM1 27 1 1) 28 y3826) lM1) 1414 [(3, .int 0), (2, .ref (r 0)), (1, .ref (q 0)), (0, .ref b)] [.int 1, .int 1]
      refine g_icmp_eq (tgt := 1465) (a := 1) (b := 1) hk dL_law_1414 (by decide) rfl rfl (fun _ => ?_) (fun z9 => absurd (show (1 : Int) = (1 : Int) from by decide) z9)
      exact tail _
    · show GW κ 4 82 21282 (wX q d (upd iX0 25 1) aX0 ++ wM r g iM1 (up2 (up3 aM1 27 2 1) 28 y3831) lM1) 1414 [(3, .int 0), (2, .ref (r 0)), (1, .ref (q 0)), (0, .ref b)] [.int 1, .int 1]
      exfalso; omega
  · show GW κ 4 82 21282 (wM r g iM1 aM1 lM1 ++ wX q d (upd iX0 27 1) aX0) 1405 [(3, .int 0), (2, .ref (r 0)), (1, .ref (q 0)), (0, .ref b)] [.int 1]
    refine g_aload_n hk dL_law_1405 rfl ?_
    refine g_aload_n hk dL_law_1406 rfl ?_
    refine g_iload_n hk dL_law_1407 rfl ?_
    refine g_iconst (v := 1) hk dL_law_1408 (by decide) ?_
    refine g_iadd hk dL_law_1409 ?_
    refine g_norm (v := 1) (by decide) ?_
    refine g_sld (v := xs 1) hk hX (vp_in_iff.mpr ⟨by decide, by show (1 : Int) < (L : Int); omega⟩) rfl dL_law_1410 ?_
    refine g_callV (n := 1) hk (m194_X12_hold l D zt g r (xs 1)) (SP.pre _ _) (fun q h => List.mem_append_right _ h) (gi_V zw_1935 zw_1936 zw_1937 zw_115 (gi_sub zi_m194_X12_hold zg_m194_X12_hold)) rfl rfl rfl (by decide +kernel) ⟨Nat.le_of_ble_eq_true rfl, Nat.le_of_ble_eq_true rfl⟩ 0 rfl rfl rfl rfl (Nat.le_of_ble_eq_true rfl) ⟨Nat.le_of_ble_eq_true rfl, Nat.le_of_ble_eq_true rfl⟩ dL_law_1411 (fun v ty' w' hp hk' => ?_)
    rcases hp with ⟨c3837, rfl, rfl⟩ | ⟨c3838, c3839, rfl, rfl⟩ | ⟨y3840, c3841, c3842, c3843, rfl, rfl⟩ | ⟨y3844, c3845, c3846, c3847, c3848, rfl, rfl⟩ | ⟨y3849, c3850, c3851, c3852, c3853, c3854, rfl, rfl⟩
    · show GW κ 4 82 21282 (wX q d (upd iX0 27 1) aX0 ++ wM r g iM1 aM1 lM1) 1414 [(3, .int 0), (2, .ref (r 0)), (1, .ref (q 0)), (0, .ref b)] [.int 0, .int 1]
      exfalso; omega
    · show GW κ 4 82 21282 (wX q d (upd iX0 27 1) aX0 ++ wM r g iM1 aM1 lM1) 1414 [(3, .int 0), (2, .ref (r 0)), (1, .ref (q 0)), (0, .ref b)] [.int 0, .int 1]
      exfalso; omega
    · show GW κ 4 82 21282 (wX q d (upd iX0 27 1) aX0 ++ wM r g iM1 (up2 (up3 aM1 27 0 1) 28 y3840) lM1) 1414 [(3, .int 0), (2, .ref (r 0)), (1, .ref (q 0)), (0, .ref b)] [.int 1, .int 1]
      exfalso; omega
    · show GW κ 4 82 21282 (wX q d (upd iX0 27 1) aX0 ++ wM r g iM1 (up2 (up3 aM1 27 1 1) 28 y3844) lM1) 1414 [(3, .int 0), (2, .ref (r 0)), (1, .ref (q 0)), (0, .ref b)] [.int 1, .int 1]
      exfalso; omega
    · show GW κ 4 82 21282 (wX q d (upd iX0 27 1) aX0 ++ wM r g iM1 (up2 (up3 aM1 27 2 1) 28 y3849) lM1) 1414 [(3, .int 0), (2, .ref (r 0)), (1, .ref (q 0)), (0, .ref b)] [.int 1, .int 1]
      refine g_icmp_eq (tgt := 1465) (a := 1) (b := 1) hk dL_law_1414 (by decide) rfl rfl (fun _ => ?_) (fun z9 => absurd (show (1 : Int) = (1 : Int) from by decide) z9)
      exact tail _
  · show GW κ 4 82 21282 (wM r g iM1 aM1 lM1 ++ wX q d iX0 aX0) 1405 [(3, .int 0), (2, .ref (r 0)), (1, .ref (q 0)), (0, .ref b)] [.int 0]
    refine g_aload_n hk dL_law_1405 rfl ?_
    refine g_aload_n hk dL_law_1406 rfl ?_
    refine g_iload_n hk dL_law_1407 rfl ?_
    refine g_iconst (v := 1) hk dL_law_1408 (by decide) ?_
    refine g_iadd hk dL_law_1409 ?_
    refine g_norm (v := 1) (by decide) ?_
    refine g_sld (v := xs 1) hk hX (vp_in_iff.mpr ⟨by decide, by show (1 : Int) < (L : Int); omega⟩) rfl dL_law_1410 ?_
    refine g_callV (n := 1) hk (m194_X12_hold l D zt g r (xs 1)) (SP.pre _ _) (fun q h => List.mem_append_right _ h) (gi_V zw_1935 zw_1936 zw_1937 zw_115 (gi_sub zi_m194_X12_hold zg_m194_X12_hold)) rfl rfl rfl (by decide +kernel) ⟨Nat.le_of_ble_eq_true rfl, Nat.le_of_ble_eq_true rfl⟩ 0 rfl rfl rfl rfl (Nat.le_of_ble_eq_true rfl) ⟨Nat.le_of_ble_eq_true rfl, Nat.le_of_ble_eq_true rfl⟩ dL_law_1411 (fun v ty' w' hp hk' => ?_)
    rcases hp with ⟨c3855, rfl, rfl⟩ | ⟨c3856, c3857, rfl, rfl⟩ | ⟨y3858, c3859, c3860, c3861, rfl, rfl⟩ | ⟨y3862, c3863, c3864, c3865, c3866, rfl, rfl⟩ | ⟨y3867, c3868, c3869, c3870, c3871, c3872, rfl, rfl⟩
    · show GW κ 4 82 21282 (wX q d iX0 aX0 ++ wM r g iM1 aM1 lM1) 1414 [(3, .int 0), (2, .ref (r 0)), (1, .ref (q 0)), (0, .ref b)] [.int 0, .int 0]
      exfalso; omega
    · show GW κ 4 82 21282 (wX q d iX0 aX0 ++ wM r g iM1 aM1 lM1) 1414 [(3, .int 0), (2, .ref (r 0)), (1, .ref (q 0)), (0, .ref b)] [.int 0, .int 0]
      refine g_icmp_eq (tgt := 1465) (a := 0) (b := 0) hk dL_law_1414 (by decide) rfl rfl (fun _ => ?_) (fun z9 => absurd (show (0 : Int) = (0 : Int) from by decide) z9)
      exact tail _
    · show GW κ 4 82 21282 (wX q d iX0 aX0 ++ wM r g iM1 (up2 (up3 aM1 27 0 1) 28 y3858) lM1) 1414 [(3, .int 0), (2, .ref (r 0)), (1, .ref (q 0)), (0, .ref b)] [.int 1, .int 0]
      exfalso; omega
    · show GW κ 4 82 21282 (wX q d iX0 aX0 ++ wM r g iM1 (up2 (up3 aM1 27 1 1) 28 y3862) lM1) 1414 [(3, .int 0), (2, .ref (r 0)), (1, .ref (q 0)), (0, .ref b)] [.int 1, .int 0]
      exfalso; omega
    · show GW κ 4 82 21282 (wX q d iX0 aX0 ++ wM r g iM1 (up2 (up3 aM1 27 2 1) 28 y3867) lM1) 1414 [(3, .int 0), (2, .ref (r 0)), (1, .ref (q 0)), (0, .ref b)] [.int 1, .int 0]
      exfalso; omega
set_option maxHeartbeats 4000000 in
set_option maxRecDepth 100000 in
theorem law_39 {κ : Cx} {l : Launch} {D : va_G} {zt : Nat × Nat × Nat} {q r : Nat → Nat} {d g : Nat → ClassId} {b L : Nat} {xs : Nat → Int32} (hk : GC κ l D zt code 4 RL lw_tbl (tyX d ++ tyM g) room_1) (hX : GX κ b L xs) (hL6 : L = 6) (tail : ∀ ws, GW κ 4 82 21282 ws 1465 [(3, .int 0), (2, .ref (r 0)), (1, .ref (q 0)), (0, .ref b)] []) : GW κ 4 82 21282 (wX q d iX0 aX0 ++ wM r g iM1 aM1 lM1) 1419 [(3, .int 0), (2, .ref (r 0)), (1, .ref (q 0)), (0, .ref b)] [] := by
  refine g_aload_n hk dL_law_1419 rfl ?_
  refine g_aload_n hk dL_law_1420 rfl ?_
  refine g_iload_n hk dL_law_1421 rfl ?_
  refine g_iconst (v := 1) hk dL_law_1422 (by decide) ?_
  refine g_iadd hk dL_law_1423 ?_
  refine g_norm (v := 1) (by decide) ?_
  refine g_sld (v := xs 1) hk hX (vp_in_iff.mpr ⟨by decide, by show (1 : Int) < (L : Int); omega⟩) rfl dL_law_1424 ?_
  refine g_callV (n := 1) hk (m321_X11_restore l D zt d q (xs 1)) (SP.pre _ _) (fun q h => List.mem_append_left _ h) (gi_V zw_1335 zw_1336 zw_1337 zw_103 (gi_sub zi_m321_X11_restore zg_m321_X11_restore)) rfl rfl rfl (by decide +kernel) ⟨Nat.le_of_ble_eq_true rfl, Nat.le_of_ble_eq_true rfl⟩ 0 rfl rfl rfl rfl (Nat.le_of_ble_eq_true rfl) ⟨Nat.le_of_ble_eq_true rfl, Nat.le_of_ble_eq_true rfl⟩ dL_law_1425 (fun v ty' w' hp hk' => ?_)
  obtain ⟨rfl, rfl⟩ := hp
  show GW κ 4 82 21282 (wM r g iM1 aM1 lM1 ++ wX q d iX0 aX0) 1428 [(3, .int 0), (2, .ref (r 0)), (1, .ref (q 0)), (0, .ref b)] [.int 0]
  refine g_aload_n hk dL_law_1428 rfl ?_
  refine g_aload_n hk dL_law_1429 rfl ?_
  refine g_iload_n hk dL_law_1430 rfl ?_
  refine g_iconst (v := 1) hk dL_law_1431 (by decide) ?_
  refine g_iadd hk dL_law_1432 ?_
  refine g_norm (v := 1) (by decide) ?_
  refine g_sld (v := xs 1) hk hX (vp_in_iff.mpr ⟨by decide, by show (1 : Int) < (L : Int); omega⟩) rfl dL_law_1433 ?_
  refine g_callV (n := 1) hk (m195_X12_restore l D zt g r (xs 1)) (SP.pre _ _) (fun q h => List.mem_append_right _ h) (gi_V zw_1939 zw_1940 zw_1941 zw_115 (gi_sub zi_m195_X12_restore zg_m195_X12_restore)) rfl rfl rfl (by decide +kernel) ⟨Nat.le_of_ble_eq_true rfl, Nat.le_of_ble_eq_true rfl⟩ 0 rfl rfl rfl rfl (Nat.le_of_ble_eq_true rfl) ⟨Nat.le_of_ble_eq_true rfl, Nat.le_of_ble_eq_true rfl⟩ dL_law_1434 (fun v ty' w' hp hk' => ?_)
  obtain ⟨rfl, rfl⟩ := hp
  show GW κ 4 82 21282 (wX q d iX0 aX0 ++ wM r g iM1 aM1 lM1) 1437 [(3, .int 0), (2, .ref (r 0)), (1, .ref (q 0)), (0, .ref b)] [.int 0, .int 0]
  refine g_icmp_eq (tgt := 1465) (a := 0) (b := 0) hk dL_law_1437 (by decide) rfl rfl (fun _ => ?_) (fun z9 => absurd (show (0 : Int) = (0 : Int) from by decide) z9)
  exact tail _
set_option maxHeartbeats 4000000 in
set_option maxRecDepth 100000 in
theorem law_40 {κ : Cx} {l : Launch} {D : va_G} {zt : Nat × Nat × Nat} {q r : Nat → Nat} {d g : Nat → ClassId} {b L : Nat} {xs : Nat → Int32} (hk : GC κ l D zt code 4 RL lw_tbl (tyX d ++ tyM g) room_1) (hX : GX κ b L xs) (hL6 : L = 6) (tail : ∀ ws, GW κ 4 82 21282 ws 1465 [(3, .int 0), (2, .ref (r 0)), (1, .ref (q 0)), (0, .ref b)] []) : GW κ 4 82 21282 (wX q d iX0 aX0 ++ wM r g iM1 aM1 lM1) 1442 [(3, .int 0), (2, .ref (r 0)), (1, .ref (q 0)), (0, .ref b)] [] := by
  refine g_aload_n hk dL_law_1442 rfl ?_
  refine g_aload_n hk dL_law_1443 rfl ?_
  refine g_iload_n hk dL_law_1444 rfl ?_
  refine g_iconst (v := 1) hk dL_law_1445 (by decide) ?_
  refine g_iadd hk dL_law_1446 ?_
  refine g_norm (v := 1) (by decide) ?_
  refine g_sld (v := xs 1) hk hX (vp_in_iff.mpr ⟨by decide, by show (1 : Int) < (L : Int); omega⟩) rfl dL_law_1447 ?_
  refine g_callV (n := 1) hk (m322_X11_count l D zt d q (xs 1)) (SP.pre _ _) (fun q h => List.mem_append_left _ h) (gi_V zw_1339 zw_1340 zw_1341 zw_103 (gi_sub zi_m322_X11_count zg_m322_X11_count)) rfl rfl rfl (by decide +kernel) ⟨Nat.le_of_ble_eq_true rfl, Nat.le_of_ble_eq_true rfl⟩ 0 rfl rfl rfl rfl (Nat.le_of_ble_eq_true rfl) ⟨Nat.le_of_ble_eq_true rfl, Nat.le_of_ble_eq_true rfl⟩ dL_law_1448 (fun v ty' w' hp hk' => ?_)
  rcases hp with ⟨c3873, rfl, rfl⟩ | ⟨c3874, c3875, rfl, rfl⟩ | ⟨c3876, c3877, c3878, rfl, rfl⟩ | ⟨c3879, c3880, c3881, c3882, rfl, rfl⟩ | ⟨c3883, c3884, c3885, c3886, c3887, rfl, rfl⟩ | ⟨c3888, c3889, c3890, c3891, c3892, c3893, rfl, rfl⟩ | ⟨c3894, c3895, c3896, c3897, c3898, c3899, c3900, rfl, rfl⟩ | ⟨c3901, c3902, c3903, c3904, c3905, c3906, c3907, c3908, rfl, rfl⟩ | ⟨c3909, c3910, c3911, c3912, c3913, c3914, c3915, c3916, c3917, rfl, rfl⟩ | ⟨c3918, c3919, c3920, c3921, c3922, c3923, c3924, c3925, c3926, c3927, rfl, rfl⟩ | ⟨c3928, c3929, c3930, c3931, c3932, c3933, c3934, c3935, c3936, c3937, c3938, rfl, rfl⟩ | ⟨c3939, c3940, c3941, c3942, c3943, c3944, c3945, c3946, c3947, c3948, c3949, c3950, rfl, rfl⟩ | ⟨c3951, c3952, c3953, c3954, c3955, c3956, c3957, c3958, c3959, c3960, c3961, c3962, c3963, rfl, rfl⟩ | ⟨c3964, c3965, c3966, c3967, c3968, c3969, c3970, c3971, c3972, c3973, c3974, c3975, c3976, c3977, rfl, rfl⟩ | ⟨c3978, c3979, c3980, c3981, c3982, c3983, c3984, c3985, c3986, c3987, c3988, c3989, c3990, c3991, c3992, rfl, rfl⟩ | ⟨c3993, c3994, c3995, c3996, c3997, c3998, c3999, c4000, c4001, c4002, c4003, c4004, c4005, c4006, c4007, rfl, rfl⟩
  · show GW κ 4 82 21282 (wM r g iM1 aM1 lM1 ++ wX q d iX0 aX0) 1451 [(3, .int 0), (2, .ref (r 0)), (1, .ref (q 0)), (0, .ref b)] [.int 0]
    refine g_aload_n hk dL_law_1451 rfl ?_
    refine g_aload_n hk dL_law_1452 rfl ?_
    refine g_iload_n hk dL_law_1453 rfl ?_
    refine g_iconst (v := 1) hk dL_law_1454 (by decide) ?_
    refine g_iadd hk dL_law_1455 ?_
    refine g_norm (v := 1) (by decide) ?_
    refine g_sld (v := xs 1) hk hX (vp_in_iff.mpr ⟨by decide, by show (1 : Int) < (L : Int); omega⟩) rfl dL_law_1456 ?_
    refine g_callV (n := 1) hk (m196_X12_count l D zt g r (xs 1)) (SP.pre _ _) (fun q h => List.mem_append_right _ h) (gi_V zw_1943 zw_1944 zw_1945 zw_115 (gi_sub zi_m196_X12_count zg_m196_X12_count)) rfl rfl rfl (by decide +kernel) ⟨Nat.le_of_ble_eq_true rfl, Nat.le_of_ble_eq_true rfl⟩ 0 rfl rfl rfl rfl (Nat.le_of_ble_eq_true rfl) ⟨Nat.le_of_ble_eq_true rfl, Nat.le_of_ble_eq_true rfl⟩ dL_law_1457 (fun v ty' w' hp hk' => ?_)
    rcases hp with ⟨c4008, rfl, rfl⟩ | ⟨c4009, c4010, rfl, rfl⟩ | ⟨c4011, c4012, c4013, rfl, rfl⟩ | ⟨c4014, c4015, c4016, c4017, rfl, rfl⟩ | ⟨c4018, c4019, c4020, c4021, c4022, rfl, rfl⟩ | ⟨c4023, c4024, c4025, c4026, c4027, c4028, rfl, rfl⟩ | ⟨c4029, c4030, c4031, c4032, c4033, c4034, c4035, rfl, rfl⟩ | ⟨c4036, c4037, c4038, c4039, c4040, c4041, c4042, c4043, rfl, rfl⟩ | ⟨c4044, c4045, c4046, c4047, c4048, c4049, c4050, c4051, c4052, rfl, rfl⟩ | ⟨c4053, c4054, c4055, c4056, c4057, c4058, c4059, c4060, c4061, c4062, rfl, rfl⟩ | ⟨c4063, c4064, c4065, c4066, c4067, c4068, c4069, c4070, c4071, c4072, c4073, rfl, rfl⟩ | ⟨c4074, c4075, c4076, c4077, c4078, c4079, c4080, c4081, c4082, c4083, c4084, c4085, rfl, rfl⟩ | ⟨c4086, c4087, c4088, c4089, c4090, c4091, c4092, c4093, c4094, c4095, c4096, c4097, c4098, rfl, rfl⟩ | ⟨c4099, c4100, c4101, c4102, c4103, c4104, c4105, c4106, c4107, c4108, c4109, c4110, c4111, c4112, rfl, rfl⟩ | ⟨c4113, c4114, c4115, c4116, c4117, c4118, c4119, c4120, c4121, c4122, c4123, c4124, c4125, c4126, c4127, rfl, rfl⟩ | ⟨c4128, c4129, c4130, c4131, c4132, c4133, c4134, c4135, c4136, c4137, c4138, c4139, c4140, c4141, c4142, rfl, rfl⟩
    · show GW κ 4 82 21282 (wX q d iX0 aX0 ++ wM r g iM1 aM1 lM1) 1460 [(3, .int 0), (2, .ref (r 0)), (1, .ref (q 0)), (0, .ref b)] [.int 0, .int 0]
      refine g_icmp_eq (tgt := 1465) (a := 0) (b := 0) hk dL_law_1460 (by decide) rfl rfl (fun _ => ?_) (fun z9 => absurd (show (0 : Int) = (0 : Int) from by decide) z9)
      exact tail _
    · show GW κ 4 82 21282 (wX q d iX0 aX0 ++ wM r g iM1 aM1 lM1) 1460 [(3, .int 0), (2, .ref (r 0)), (1, .ref (q 0)), (0, .ref b)] [.int 0, .int 0]
      exfalso; omega
    · show GW κ 4 82 21282 (wX q d iX0 aX0 ++ wM r g iM1 aM1 lM1) 1460 [(3, .int 0), (2, .ref (r 0)), (1, .ref (q 0)), (0, .ref b)] [.int 0, .int 0]
      exfalso; omega
    · show GW κ 4 82 21282 (wX q d iX0 aX0 ++ wM r g iM1 aM1 lM1) 1460 [(3, .int 0), (2, .ref (r 0)), (1, .ref (q 0)), (0, .ref b)] [.int 2, .int 0]
      exfalso; omega
    · show GW κ 4 82 21282 (wX q d iX0 aX0 ++ wM r g iM1 aM1 lM1) 1460 [(3, .int 0), (2, .ref (r 0)), (1, .ref (q 0)), (0, .ref b)] [.int 0, .int 0]
      exfalso; omega
    · show GW κ 4 82 21282 (wX q d iX0 aX0 ++ wM r g iM1 aM1 lM1) 1460 [(3, .int 0), (2, .ref (r 0)), (1, .ref (q 0)), (0, .ref b)] [.int 0, .int 0]
      exfalso; omega
    · show GW κ 4 82 21282 (wX q d iX0 aX0 ++ wM r g iM1 aM1 lM1) 1460 [(3, .int 0), (2, .ref (r 0)), (1, .ref (q 0)), (0, .ref b)] [.int 8, .int 0]
      exfalso; omega
    · show GW κ 4 82 21282 (wX q d iX0 aX0 ++ wM r g iM1 aM1 lM1) 1460 [(3, .int 0), (2, .ref (r 0)), (1, .ref (q 0)), (0, .ref b)] [.int 0, .int 0]
      exfalso; omega
    · show GW κ 4 82 21282 (wX q d iX0 aX0 ++ wM r g iM1 aM1 lM1) 1460 [(3, .int 0), (2, .ref (r 0)), (1, .ref (q 0)), (0, .ref b)] [.int 0, .int 0]
      exfalso; omega
    · show GW κ 4 82 21282 (wX q d iX0 aX0 ++ wM r g iM1 aM1 lM1) 1460 [(3, .int 0), (2, .ref (r 0)), (1, .ref (q 0)), (0, .ref b)] [.int 0, .int 0]
      exfalso; omega
    · show GW κ 4 82 21282 (wX q d iX0 aX0 ++ wM r g iM1 aM1 lM1) 1460 [(3, .int 0), (2, .ref (r 0)), (1, .ref (q 0)), (0, .ref b)] [.int 0, .int 0]
      exfalso; omega
    · show GW κ 4 82 21282 (wX q d iX0 aX0 ++ wM r g iM1 aM1 lM1) 1460 [(3, .int 0), (2, .ref (r 0)), (1, .ref (q 0)), (0, .ref b)] [.int 0, .int 0]
      exfalso; omega
    · show GW κ 4 82 21282 (wX q d iX0 aX0 ++ wM r g iM1 aM1 lM1) 1460 [(3, .int 0), (2, .ref (r 0)), (1, .ref (q 0)), (0, .ref b)] [.int (-1000), .int 0]
      exfalso; omega
    · show GW κ 4 82 21282 (wX q d iX0 aX0 ++ wM r g iM1 aM1 lM1) 1460 [(3, .int 0), (2, .ref (r 0)), (1, .ref (q 0)), (0, .ref b)] [.int (-1000), .int 0]
      exfalso; omega
    · show GW κ 4 82 21282 (wX q d iX0 aX0 ++ wM r g iM1 aM1 lM1) 1460 [(3, .int 0), (2, .ref (r 0)), (1, .ref (q 0)), (0, .ref b)] [.int 0, .int 0]
      exfalso; omega
    · show GW κ 4 82 21282 (wX q d iX0 aX0 ++ wM r g iM1 aM1 lM1) 1460 [(3, .int 0), (2, .ref (r 0)), (1, .ref (q 0)), (0, .ref b)] [.int (-1), .int 0]
      exfalso; omega
  · show GW κ 4 82 21282 (wM r g iM1 aM1 lM1 ++ wX q d iX0 aX0) 1451 [(3, .int 0), (2, .ref (r 0)), (1, .ref (q 0)), (0, .ref b)] [.int 0]
    refine g_aload_n hk dL_law_1451 rfl ?_
    refine g_aload_n hk dL_law_1452 rfl ?_
    refine g_iload_n hk dL_law_1453 rfl ?_
    refine g_iconst (v := 1) hk dL_law_1454 (by decide) ?_
    refine g_iadd hk dL_law_1455 ?_
    refine g_norm (v := 1) (by decide) ?_
    refine g_sld (v := xs 1) hk hX (vp_in_iff.mpr ⟨by decide, by show (1 : Int) < (L : Int); omega⟩) rfl dL_law_1456 ?_
    refine g_callV (n := 1) hk (m196_X12_count l D zt g r (xs 1)) (SP.pre _ _) (fun q h => List.mem_append_right _ h) (gi_V zw_1943 zw_1944 zw_1945 zw_115 (gi_sub zi_m196_X12_count zg_m196_X12_count)) rfl rfl rfl (by decide +kernel) ⟨Nat.le_of_ble_eq_true rfl, Nat.le_of_ble_eq_true rfl⟩ 0 rfl rfl rfl rfl (Nat.le_of_ble_eq_true rfl) ⟨Nat.le_of_ble_eq_true rfl, Nat.le_of_ble_eq_true rfl⟩ dL_law_1457 (fun v ty' w' hp hk' => ?_)
    rcases hp with ⟨c4143, rfl, rfl⟩ | ⟨c4144, c4145, rfl, rfl⟩ | ⟨c4146, c4147, c4148, rfl, rfl⟩ | ⟨c4149, c4150, c4151, c4152, rfl, rfl⟩ | ⟨c4153, c4154, c4155, c4156, c4157, rfl, rfl⟩ | ⟨c4158, c4159, c4160, c4161, c4162, c4163, rfl, rfl⟩ | ⟨c4164, c4165, c4166, c4167, c4168, c4169, c4170, rfl, rfl⟩ | ⟨c4171, c4172, c4173, c4174, c4175, c4176, c4177, c4178, rfl, rfl⟩ | ⟨c4179, c4180, c4181, c4182, c4183, c4184, c4185, c4186, c4187, rfl, rfl⟩ | ⟨c4188, c4189, c4190, c4191, c4192, c4193, c4194, c4195, c4196, c4197, rfl, rfl⟩ | ⟨c4198, c4199, c4200, c4201, c4202, c4203, c4204, c4205, c4206, c4207, c4208, rfl, rfl⟩ | ⟨c4209, c4210, c4211, c4212, c4213, c4214, c4215, c4216, c4217, c4218, c4219, c4220, rfl, rfl⟩ | ⟨c4221, c4222, c4223, c4224, c4225, c4226, c4227, c4228, c4229, c4230, c4231, c4232, c4233, rfl, rfl⟩ | ⟨c4234, c4235, c4236, c4237, c4238, c4239, c4240, c4241, c4242, c4243, c4244, c4245, c4246, c4247, rfl, rfl⟩ | ⟨c4248, c4249, c4250, c4251, c4252, c4253, c4254, c4255, c4256, c4257, c4258, c4259, c4260, c4261, c4262, rfl, rfl⟩ | ⟨c4263, c4264, c4265, c4266, c4267, c4268, c4269, c4270, c4271, c4272, c4273, c4274, c4275, c4276, c4277, rfl, rfl⟩
    · show GW κ 4 82 21282 (wX q d iX0 aX0 ++ wM r g iM1 aM1 lM1) 1460 [(3, .int 0), (2, .ref (r 0)), (1, .ref (q 0)), (0, .ref b)] [.int 0, .int 0]
      exfalso; omega
    · show GW κ 4 82 21282 (wX q d iX0 aX0 ++ wM r g iM1 aM1 lM1) 1460 [(3, .int 0), (2, .ref (r 0)), (1, .ref (q 0)), (0, .ref b)] [.int 0, .int 0]
      refine g_icmp_eq (tgt := 1465) (a := 0) (b := 0) hk dL_law_1460 (by decide) rfl rfl (fun _ => ?_) (fun z9 => absurd (show (0 : Int) = (0 : Int) from by decide) z9)
      exact tail _
    · show GW κ 4 82 21282 (wX q d iX0 aX0 ++ wM r g iM1 aM1 lM1) 1460 [(3, .int 0), (2, .ref (r 0)), (1, .ref (q 0)), (0, .ref b)] [.int 0, .int 0]
      exfalso; omega
    · show GW κ 4 82 21282 (wX q d iX0 aX0 ++ wM r g iM1 aM1 lM1) 1460 [(3, .int 0), (2, .ref (r 0)), (1, .ref (q 0)), (0, .ref b)] [.int 2, .int 0]
      exfalso; omega
    · show GW κ 4 82 21282 (wX q d iX0 aX0 ++ wM r g iM1 aM1 lM1) 1460 [(3, .int 0), (2, .ref (r 0)), (1, .ref (q 0)), (0, .ref b)] [.int 0, .int 0]
      exfalso; omega
    · show GW κ 4 82 21282 (wX q d iX0 aX0 ++ wM r g iM1 aM1 lM1) 1460 [(3, .int 0), (2, .ref (r 0)), (1, .ref (q 0)), (0, .ref b)] [.int 0, .int 0]
      exfalso; omega
    · show GW κ 4 82 21282 (wX q d iX0 aX0 ++ wM r g iM1 aM1 lM1) 1460 [(3, .int 0), (2, .ref (r 0)), (1, .ref (q 0)), (0, .ref b)] [.int 8, .int 0]
      exfalso; omega
    · show GW κ 4 82 21282 (wX q d iX0 aX0 ++ wM r g iM1 aM1 lM1) 1460 [(3, .int 0), (2, .ref (r 0)), (1, .ref (q 0)), (0, .ref b)] [.int 0, .int 0]
      exfalso; omega
    · show GW κ 4 82 21282 (wX q d iX0 aX0 ++ wM r g iM1 aM1 lM1) 1460 [(3, .int 0), (2, .ref (r 0)), (1, .ref (q 0)), (0, .ref b)] [.int 0, .int 0]
      exfalso; omega
    · show GW κ 4 82 21282 (wX q d iX0 aX0 ++ wM r g iM1 aM1 lM1) 1460 [(3, .int 0), (2, .ref (r 0)), (1, .ref (q 0)), (0, .ref b)] [.int 0, .int 0]
      exfalso; omega
    · show GW κ 4 82 21282 (wX q d iX0 aX0 ++ wM r g iM1 aM1 lM1) 1460 [(3, .int 0), (2, .ref (r 0)), (1, .ref (q 0)), (0, .ref b)] [.int 0, .int 0]
      exfalso; omega
    · show GW κ 4 82 21282 (wX q d iX0 aX0 ++ wM r g iM1 aM1 lM1) 1460 [(3, .int 0), (2, .ref (r 0)), (1, .ref (q 0)), (0, .ref b)] [.int 0, .int 0]
      exfalso; omega
    · show GW κ 4 82 21282 (wX q d iX0 aX0 ++ wM r g iM1 aM1 lM1) 1460 [(3, .int 0), (2, .ref (r 0)), (1, .ref (q 0)), (0, .ref b)] [.int (-1000), .int 0]
      exfalso; omega
    · show GW κ 4 82 21282 (wX q d iX0 aX0 ++ wM r g iM1 aM1 lM1) 1460 [(3, .int 0), (2, .ref (r 0)), (1, .ref (q 0)), (0, .ref b)] [.int (-1000), .int 0]
      exfalso; omega
    · show GW κ 4 82 21282 (wX q d iX0 aX0 ++ wM r g iM1 aM1 lM1) 1460 [(3, .int 0), (2, .ref (r 0)), (1, .ref (q 0)), (0, .ref b)] [.int 0, .int 0]
      exfalso; omega
    · show GW κ 4 82 21282 (wX q d iX0 aX0 ++ wM r g iM1 aM1 lM1) 1460 [(3, .int 0), (2, .ref (r 0)), (1, .ref (q 0)), (0, .ref b)] [.int (-1), .int 0]
      exfalso; omega
  · show GW κ 4 82 21282 (wM r g iM1 aM1 lM1 ++ wX q d iX0 aX0) 1451 [(3, .int 0), (2, .ref (r 0)), (1, .ref (q 0)), (0, .ref b)] [.int 0]
    refine g_aload_n hk dL_law_1451 rfl ?_
    refine g_aload_n hk dL_law_1452 rfl ?_
    refine g_iload_n hk dL_law_1453 rfl ?_
    refine g_iconst (v := 1) hk dL_law_1454 (by decide) ?_
    refine g_iadd hk dL_law_1455 ?_
    refine g_norm (v := 1) (by decide) ?_
    refine g_sld (v := xs 1) hk hX (vp_in_iff.mpr ⟨by decide, by show (1 : Int) < (L : Int); omega⟩) rfl dL_law_1456 ?_
    refine g_callV (n := 1) hk (m196_X12_count l D zt g r (xs 1)) (SP.pre _ _) (fun q h => List.mem_append_right _ h) (gi_V zw_1943 zw_1944 zw_1945 zw_115 (gi_sub zi_m196_X12_count zg_m196_X12_count)) rfl rfl rfl (by decide +kernel) ⟨Nat.le_of_ble_eq_true rfl, Nat.le_of_ble_eq_true rfl⟩ 0 rfl rfl rfl rfl (Nat.le_of_ble_eq_true rfl) ⟨Nat.le_of_ble_eq_true rfl, Nat.le_of_ble_eq_true rfl⟩ dL_law_1457 (fun v ty' w' hp hk' => ?_)
    rcases hp with ⟨c4278, rfl, rfl⟩ | ⟨c4279, c4280, rfl, rfl⟩ | ⟨c4281, c4282, c4283, rfl, rfl⟩ | ⟨c4284, c4285, c4286, c4287, rfl, rfl⟩ | ⟨c4288, c4289, c4290, c4291, c4292, rfl, rfl⟩ | ⟨c4293, c4294, c4295, c4296, c4297, c4298, rfl, rfl⟩ | ⟨c4299, c4300, c4301, c4302, c4303, c4304, c4305, rfl, rfl⟩ | ⟨c4306, c4307, c4308, c4309, c4310, c4311, c4312, c4313, rfl, rfl⟩ | ⟨c4314, c4315, c4316, c4317, c4318, c4319, c4320, c4321, c4322, rfl, rfl⟩ | ⟨c4323, c4324, c4325, c4326, c4327, c4328, c4329, c4330, c4331, c4332, rfl, rfl⟩ | ⟨c4333, c4334, c4335, c4336, c4337, c4338, c4339, c4340, c4341, c4342, c4343, rfl, rfl⟩ | ⟨c4344, c4345, c4346, c4347, c4348, c4349, c4350, c4351, c4352, c4353, c4354, c4355, rfl, rfl⟩ | ⟨c4356, c4357, c4358, c4359, c4360, c4361, c4362, c4363, c4364, c4365, c4366, c4367, c4368, rfl, rfl⟩ | ⟨c4369, c4370, c4371, c4372, c4373, c4374, c4375, c4376, c4377, c4378, c4379, c4380, c4381, c4382, rfl, rfl⟩ | ⟨c4383, c4384, c4385, c4386, c4387, c4388, c4389, c4390, c4391, c4392, c4393, c4394, c4395, c4396, c4397, rfl, rfl⟩ | ⟨c4398, c4399, c4400, c4401, c4402, c4403, c4404, c4405, c4406, c4407, c4408, c4409, c4410, c4411, c4412, rfl, rfl⟩
    · show GW κ 4 82 21282 (wX q d iX0 aX0 ++ wM r g iM1 aM1 lM1) 1460 [(3, .int 0), (2, .ref (r 0)), (1, .ref (q 0)), (0, .ref b)] [.int 0, .int 0]
      exfalso; omega
    · show GW κ 4 82 21282 (wX q d iX0 aX0 ++ wM r g iM1 aM1 lM1) 1460 [(3, .int 0), (2, .ref (r 0)), (1, .ref (q 0)), (0, .ref b)] [.int 0, .int 0]
      exfalso; omega
    · show GW κ 4 82 21282 (wX q d iX0 aX0 ++ wM r g iM1 aM1 lM1) 1460 [(3, .int 0), (2, .ref (r 0)), (1, .ref (q 0)), (0, .ref b)] [.int 0, .int 0]
      refine g_icmp_eq (tgt := 1465) (a := 0) (b := 0) hk dL_law_1460 (by decide) rfl rfl (fun _ => ?_) (fun z9 => absurd (show (0 : Int) = (0 : Int) from by decide) z9)
      exact tail _
    · show GW κ 4 82 21282 (wX q d iX0 aX0 ++ wM r g iM1 aM1 lM1) 1460 [(3, .int 0), (2, .ref (r 0)), (1, .ref (q 0)), (0, .ref b)] [.int 2, .int 0]
      exfalso; omega
    · show GW κ 4 82 21282 (wX q d iX0 aX0 ++ wM r g iM1 aM1 lM1) 1460 [(3, .int 0), (2, .ref (r 0)), (1, .ref (q 0)), (0, .ref b)] [.int 0, .int 0]
      exfalso; omega
    · show GW κ 4 82 21282 (wX q d iX0 aX0 ++ wM r g iM1 aM1 lM1) 1460 [(3, .int 0), (2, .ref (r 0)), (1, .ref (q 0)), (0, .ref b)] [.int 0, .int 0]
      exfalso; omega
    · show GW κ 4 82 21282 (wX q d iX0 aX0 ++ wM r g iM1 aM1 lM1) 1460 [(3, .int 0), (2, .ref (r 0)), (1, .ref (q 0)), (0, .ref b)] [.int 8, .int 0]
      exfalso; omega
    · show GW κ 4 82 21282 (wX q d iX0 aX0 ++ wM r g iM1 aM1 lM1) 1460 [(3, .int 0), (2, .ref (r 0)), (1, .ref (q 0)), (0, .ref b)] [.int 0, .int 0]
      exfalso; omega
    · show GW κ 4 82 21282 (wX q d iX0 aX0 ++ wM r g iM1 aM1 lM1) 1460 [(3, .int 0), (2, .ref (r 0)), (1, .ref (q 0)), (0, .ref b)] [.int 0, .int 0]
      exfalso; omega
    · show GW κ 4 82 21282 (wX q d iX0 aX0 ++ wM r g iM1 aM1 lM1) 1460 [(3, .int 0), (2, .ref (r 0)), (1, .ref (q 0)), (0, .ref b)] [.int 0, .int 0]
      exfalso; omega
    · show GW κ 4 82 21282 (wX q d iX0 aX0 ++ wM r g iM1 aM1 lM1) 1460 [(3, .int 0), (2, .ref (r 0)), (1, .ref (q 0)), (0, .ref b)] [.int 0, .int 0]
      exfalso; omega
    · show GW κ 4 82 21282 (wX q d iX0 aX0 ++ wM r g iM1 aM1 lM1) 1460 [(3, .int 0), (2, .ref (r 0)), (1, .ref (q 0)), (0, .ref b)] [.int 0, .int 0]
      exfalso; omega
    · show GW κ 4 82 21282 (wX q d iX0 aX0 ++ wM r g iM1 aM1 lM1) 1460 [(3, .int 0), (2, .ref (r 0)), (1, .ref (q 0)), (0, .ref b)] [.int (-1000), .int 0]
      exfalso; omega
    · show GW κ 4 82 21282 (wX q d iX0 aX0 ++ wM r g iM1 aM1 lM1) 1460 [(3, .int 0), (2, .ref (r 0)), (1, .ref (q 0)), (0, .ref b)] [.int (-1000), .int 0]
      exfalso; omega
    · show GW κ 4 82 21282 (wX q d iX0 aX0 ++ wM r g iM1 aM1 lM1) 1460 [(3, .int 0), (2, .ref (r 0)), (1, .ref (q 0)), (0, .ref b)] [.int 0, .int 0]
      exfalso; omega
    · show GW κ 4 82 21282 (wX q d iX0 aX0 ++ wM r g iM1 aM1 lM1) 1460 [(3, .int 0), (2, .ref (r 0)), (1, .ref (q 0)), (0, .ref b)] [.int (-1), .int 0]
      exfalso; omega
  · show GW κ 4 82 21282 (wM r g iM1 aM1 lM1 ++ wX q d iX0 aX0) 1451 [(3, .int 0), (2, .ref (r 0)), (1, .ref (q 0)), (0, .ref b)] [.int 2]
    refine g_aload_n hk dL_law_1451 rfl ?_
    refine g_aload_n hk dL_law_1452 rfl ?_
    refine g_iload_n hk dL_law_1453 rfl ?_
    refine g_iconst (v := 1) hk dL_law_1454 (by decide) ?_
    refine g_iadd hk dL_law_1455 ?_
    refine g_norm (v := 1) (by decide) ?_
    refine g_sld (v := xs 1) hk hX (vp_in_iff.mpr ⟨by decide, by show (1 : Int) < (L : Int); omega⟩) rfl dL_law_1456 ?_
    refine g_callV (n := 1) hk (m196_X12_count l D zt g r (xs 1)) (SP.pre _ _) (fun q h => List.mem_append_right _ h) (gi_V zw_1943 zw_1944 zw_1945 zw_115 (gi_sub zi_m196_X12_count zg_m196_X12_count)) rfl rfl rfl (by decide +kernel) ⟨Nat.le_of_ble_eq_true rfl, Nat.le_of_ble_eq_true rfl⟩ 0 rfl rfl rfl rfl (Nat.le_of_ble_eq_true rfl) ⟨Nat.le_of_ble_eq_true rfl, Nat.le_of_ble_eq_true rfl⟩ dL_law_1457 (fun v ty' w' hp hk' => ?_)
    rcases hp with ⟨c4413, rfl, rfl⟩ | ⟨c4414, c4415, rfl, rfl⟩ | ⟨c4416, c4417, c4418, rfl, rfl⟩ | ⟨c4419, c4420, c4421, c4422, rfl, rfl⟩ | ⟨c4423, c4424, c4425, c4426, c4427, rfl, rfl⟩ | ⟨c4428, c4429, c4430, c4431, c4432, c4433, rfl, rfl⟩ | ⟨c4434, c4435, c4436, c4437, c4438, c4439, c4440, rfl, rfl⟩ | ⟨c4441, c4442, c4443, c4444, c4445, c4446, c4447, c4448, rfl, rfl⟩ | ⟨c4449, c4450, c4451, c4452, c4453, c4454, c4455, c4456, c4457, rfl, rfl⟩ | ⟨c4458, c4459, c4460, c4461, c4462, c4463, c4464, c4465, c4466, c4467, rfl, rfl⟩ | ⟨c4468, c4469, c4470, c4471, c4472, c4473, c4474, c4475, c4476, c4477, c4478, rfl, rfl⟩ | ⟨c4479, c4480, c4481, c4482, c4483, c4484, c4485, c4486, c4487, c4488, c4489, c4490, rfl, rfl⟩ | ⟨c4491, c4492, c4493, c4494, c4495, c4496, c4497, c4498, c4499, c4500, c4501, c4502, c4503, rfl, rfl⟩ | ⟨c4504, c4505, c4506, c4507, c4508, c4509, c4510, c4511, c4512, c4513, c4514, c4515, c4516, c4517, rfl, rfl⟩ | ⟨c4518, c4519, c4520, c4521, c4522, c4523, c4524, c4525, c4526, c4527, c4528, c4529, c4530, c4531, c4532, rfl, rfl⟩ | ⟨c4533, c4534, c4535, c4536, c4537, c4538, c4539, c4540, c4541, c4542, c4543, c4544, c4545, c4546, c4547, rfl, rfl⟩
    · show GW κ 4 82 21282 (wX q d iX0 aX0 ++ wM r g iM1 aM1 lM1) 1460 [(3, .int 0), (2, .ref (r 0)), (1, .ref (q 0)), (0, .ref b)] [.int 0, .int 2]
      exfalso; omega
    · show GW κ 4 82 21282 (wX q d iX0 aX0 ++ wM r g iM1 aM1 lM1) 1460 [(3, .int 0), (2, .ref (r 0)), (1, .ref (q 0)), (0, .ref b)] [.int 0, .int 2]
      exfalso; omega
    · show GW κ 4 82 21282 (wX q d iX0 aX0 ++ wM r g iM1 aM1 lM1) 1460 [(3, .int 0), (2, .ref (r 0)), (1, .ref (q 0)), (0, .ref b)] [.int 0, .int 2]
      exfalso; omega
    · show GW κ 4 82 21282 (wX q d iX0 aX0 ++ wM r g iM1 aM1 lM1) 1460 [(3, .int 0), (2, .ref (r 0)), (1, .ref (q 0)), (0, .ref b)] [.int 2, .int 2]
      refine g_icmp_eq (tgt := 1465) (a := 2) (b := 2) hk dL_law_1460 (by decide) rfl rfl (fun _ => ?_) (fun z9 => absurd (show (2 : Int) = (2 : Int) from by decide) z9)
      exact tail _
    · show GW κ 4 82 21282 (wX q d iX0 aX0 ++ wM r g iM1 aM1 lM1) 1460 [(3, .int 0), (2, .ref (r 0)), (1, .ref (q 0)), (0, .ref b)] [.int 0, .int 2]
      exfalso; omega
    · show GW κ 4 82 21282 (wX q d iX0 aX0 ++ wM r g iM1 aM1 lM1) 1460 [(3, .int 0), (2, .ref (r 0)), (1, .ref (q 0)), (0, .ref b)] [.int 0, .int 2]
      exfalso; omega
    · show GW κ 4 82 21282 (wX q d iX0 aX0 ++ wM r g iM1 aM1 lM1) 1460 [(3, .int 0), (2, .ref (r 0)), (1, .ref (q 0)), (0, .ref b)] [.int 8, .int 2]
      exfalso; omega
    · show GW κ 4 82 21282 (wX q d iX0 aX0 ++ wM r g iM1 aM1 lM1) 1460 [(3, .int 0), (2, .ref (r 0)), (1, .ref (q 0)), (0, .ref b)] [.int 0, .int 2]
      exfalso; omega
    · show GW κ 4 82 21282 (wX q d iX0 aX0 ++ wM r g iM1 aM1 lM1) 1460 [(3, .int 0), (2, .ref (r 0)), (1, .ref (q 0)), (0, .ref b)] [.int 0, .int 2]
      exfalso; omega
    · show GW κ 4 82 21282 (wX q d iX0 aX0 ++ wM r g iM1 aM1 lM1) 1460 [(3, .int 0), (2, .ref (r 0)), (1, .ref (q 0)), (0, .ref b)] [.int 0, .int 2]
      exfalso; omega
    · show GW κ 4 82 21282 (wX q d iX0 aX0 ++ wM r g iM1 aM1 lM1) 1460 [(3, .int 0), (2, .ref (r 0)), (1, .ref (q 0)), (0, .ref b)] [.int 0, .int 2]
      exfalso; omega
    · show GW κ 4 82 21282 (wX q d iX0 aX0 ++ wM r g iM1 aM1 lM1) 1460 [(3, .int 0), (2, .ref (r 0)), (1, .ref (q 0)), (0, .ref b)] [.int 0, .int 2]
      exfalso; omega
    · show GW κ 4 82 21282 (wX q d iX0 aX0 ++ wM r g iM1 aM1 lM1) 1460 [(3, .int 0), (2, .ref (r 0)), (1, .ref (q 0)), (0, .ref b)] [.int (-1000), .int 2]
      exfalso; omega
    · show GW κ 4 82 21282 (wX q d iX0 aX0 ++ wM r g iM1 aM1 lM1) 1460 [(3, .int 0), (2, .ref (r 0)), (1, .ref (q 0)), (0, .ref b)] [.int (-1000), .int 2]
      exfalso; omega
    · show GW κ 4 82 21282 (wX q d iX0 aX0 ++ wM r g iM1 aM1 lM1) 1460 [(3, .int 0), (2, .ref (r 0)), (1, .ref (q 0)), (0, .ref b)] [.int 0, .int 2]
      exfalso; omega
    · show GW κ 4 82 21282 (wX q d iX0 aX0 ++ wM r g iM1 aM1 lM1) 1460 [(3, .int 0), (2, .ref (r 0)), (1, .ref (q 0)), (0, .ref b)] [.int (-1), .int 2]
      exfalso; omega
  · show GW κ 4 82 21282 (wM r g iM1 aM1 lM1 ++ wX q d iX0 aX0) 1451 [(3, .int 0), (2, .ref (r 0)), (1, .ref (q 0)), (0, .ref b)] [.int 0]
    refine g_aload_n hk dL_law_1451 rfl ?_
    refine g_aload_n hk dL_law_1452 rfl ?_
    refine g_iload_n hk dL_law_1453 rfl ?_
    refine g_iconst (v := 1) hk dL_law_1454 (by decide) ?_
    refine g_iadd hk dL_law_1455 ?_
    refine g_norm (v := 1) (by decide) ?_
    refine g_sld (v := xs 1) hk hX (vp_in_iff.mpr ⟨by decide, by show (1 : Int) < (L : Int); omega⟩) rfl dL_law_1456 ?_
    refine g_callV (n := 1) hk (m196_X12_count l D zt g r (xs 1)) (SP.pre _ _) (fun q h => List.mem_append_right _ h) (gi_V zw_1943 zw_1944 zw_1945 zw_115 (gi_sub zi_m196_X12_count zg_m196_X12_count)) rfl rfl rfl (by decide +kernel) ⟨Nat.le_of_ble_eq_true rfl, Nat.le_of_ble_eq_true rfl⟩ 0 rfl rfl rfl rfl (Nat.le_of_ble_eq_true rfl) ⟨Nat.le_of_ble_eq_true rfl, Nat.le_of_ble_eq_true rfl⟩ dL_law_1457 (fun v ty' w' hp hk' => ?_)
    rcases hp with ⟨c4548, rfl, rfl⟩ | ⟨c4549, c4550, rfl, rfl⟩ | ⟨c4551, c4552, c4553, rfl, rfl⟩ | ⟨c4554, c4555, c4556, c4557, rfl, rfl⟩ | ⟨c4558, c4559, c4560, c4561, c4562, rfl, rfl⟩ | ⟨c4563, c4564, c4565, c4566, c4567, c4568, rfl, rfl⟩ | ⟨c4569, c4570, c4571, c4572, c4573, c4574, c4575, rfl, rfl⟩ | ⟨c4576, c4577, c4578, c4579, c4580, c4581, c4582, c4583, rfl, rfl⟩ | ⟨c4584, c4585, c4586, c4587, c4588, c4589, c4590, c4591, c4592, rfl, rfl⟩ | ⟨c4593, c4594, c4595, c4596, c4597, c4598, c4599, c4600, c4601, c4602, rfl, rfl⟩ | ⟨c4603, c4604, c4605, c4606, c4607, c4608, c4609, c4610, c4611, c4612, c4613, rfl, rfl⟩ | ⟨c4614, c4615, c4616, c4617, c4618, c4619, c4620, c4621, c4622, c4623, c4624, c4625, rfl, rfl⟩ | ⟨c4626, c4627, c4628, c4629, c4630, c4631, c4632, c4633, c4634, c4635, c4636, c4637, c4638, rfl, rfl⟩ | ⟨c4639, c4640, c4641, c4642, c4643, c4644, c4645, c4646, c4647, c4648, c4649, c4650, c4651, c4652, rfl, rfl⟩ | ⟨c4653, c4654, c4655, c4656, c4657, c4658, c4659, c4660, c4661, c4662, c4663, c4664, c4665, c4666, c4667, rfl, rfl⟩ | ⟨c4668, c4669, c4670, c4671, c4672, c4673, c4674, c4675, c4676, c4677, c4678, c4679, c4680, c4681, c4682, rfl, rfl⟩
    · show GW κ 4 82 21282 (wX q d iX0 aX0 ++ wM r g iM1 aM1 lM1) 1460 [(3, .int 0), (2, .ref (r 0)), (1, .ref (q 0)), (0, .ref b)] [.int 0, .int 0]
      exfalso; omega
    · show GW κ 4 82 21282 (wX q d iX0 aX0 ++ wM r g iM1 aM1 lM1) 1460 [(3, .int 0), (2, .ref (r 0)), (1, .ref (q 0)), (0, .ref b)] [.int 0, .int 0]
      exfalso; omega
    · show GW κ 4 82 21282 (wX q d iX0 aX0 ++ wM r g iM1 aM1 lM1) 1460 [(3, .int 0), (2, .ref (r 0)), (1, .ref (q 0)), (0, .ref b)] [.int 0, .int 0]
      exfalso; omega
    · show GW κ 4 82 21282 (wX q d iX0 aX0 ++ wM r g iM1 aM1 lM1) 1460 [(3, .int 0), (2, .ref (r 0)), (1, .ref (q 0)), (0, .ref b)] [.int 2, .int 0]
      exfalso; omega
    · show GW κ 4 82 21282 (wX q d iX0 aX0 ++ wM r g iM1 aM1 lM1) 1460 [(3, .int 0), (2, .ref (r 0)), (1, .ref (q 0)), (0, .ref b)] [.int 0, .int 0]
      refine g_icmp_eq (tgt := 1465) (a := 0) (b := 0) hk dL_law_1460 (by decide) rfl rfl (fun _ => ?_) (fun z9 => absurd (show (0 : Int) = (0 : Int) from by decide) z9)
      exact tail _
    · show GW κ 4 82 21282 (wX q d iX0 aX0 ++ wM r g iM1 aM1 lM1) 1460 [(3, .int 0), (2, .ref (r 0)), (1, .ref (q 0)), (0, .ref b)] [.int 0, .int 0]
      exfalso; omega
    · show GW κ 4 82 21282 (wX q d iX0 aX0 ++ wM r g iM1 aM1 lM1) 1460 [(3, .int 0), (2, .ref (r 0)), (1, .ref (q 0)), (0, .ref b)] [.int 8, .int 0]
      exfalso; omega
    · show GW κ 4 82 21282 (wX q d iX0 aX0 ++ wM r g iM1 aM1 lM1) 1460 [(3, .int 0), (2, .ref (r 0)), (1, .ref (q 0)), (0, .ref b)] [.int 0, .int 0]
      exfalso; omega
    · show GW κ 4 82 21282 (wX q d iX0 aX0 ++ wM r g iM1 aM1 lM1) 1460 [(3, .int 0), (2, .ref (r 0)), (1, .ref (q 0)), (0, .ref b)] [.int 0, .int 0]
      exfalso; omega
    · show GW κ 4 82 21282 (wX q d iX0 aX0 ++ wM r g iM1 aM1 lM1) 1460 [(3, .int 0), (2, .ref (r 0)), (1, .ref (q 0)), (0, .ref b)] [.int 0, .int 0]
      exfalso; omega
    · show GW κ 4 82 21282 (wX q d iX0 aX0 ++ wM r g iM1 aM1 lM1) 1460 [(3, .int 0), (2, .ref (r 0)), (1, .ref (q 0)), (0, .ref b)] [.int 0, .int 0]
      exfalso; omega
    · show GW κ 4 82 21282 (wX q d iX0 aX0 ++ wM r g iM1 aM1 lM1) 1460 [(3, .int 0), (2, .ref (r 0)), (1, .ref (q 0)), (0, .ref b)] [.int 0, .int 0]
      exfalso; omega
    · show GW κ 4 82 21282 (wX q d iX0 aX0 ++ wM r g iM1 aM1 lM1) 1460 [(3, .int 0), (2, .ref (r 0)), (1, .ref (q 0)), (0, .ref b)] [.int (-1000), .int 0]
      exfalso; omega
    · show GW κ 4 82 21282 (wX q d iX0 aX0 ++ wM r g iM1 aM1 lM1) 1460 [(3, .int 0), (2, .ref (r 0)), (1, .ref (q 0)), (0, .ref b)] [.int (-1000), .int 0]
      exfalso; omega
    · show GW κ 4 82 21282 (wX q d iX0 aX0 ++ wM r g iM1 aM1 lM1) 1460 [(3, .int 0), (2, .ref (r 0)), (1, .ref (q 0)), (0, .ref b)] [.int 0, .int 0]
      exfalso; omega
    · show GW κ 4 82 21282 (wX q d iX0 aX0 ++ wM r g iM1 aM1 lM1) 1460 [(3, .int 0), (2, .ref (r 0)), (1, .ref (q 0)), (0, .ref b)] [.int (-1), .int 0]
      exfalso; omega
  · show GW κ 4 82 21282 (wM r g iM1 aM1 lM1 ++ wX q d iX0 aX0) 1451 [(3, .int 0), (2, .ref (r 0)), (1, .ref (q 0)), (0, .ref b)] [.int 0]
    refine g_aload_n hk dL_law_1451 rfl ?_
    refine g_aload_n hk dL_law_1452 rfl ?_
    refine g_iload_n hk dL_law_1453 rfl ?_
    refine g_iconst (v := 1) hk dL_law_1454 (by decide) ?_
    refine g_iadd hk dL_law_1455 ?_
    refine g_norm (v := 1) (by decide) ?_
    refine g_sld (v := xs 1) hk hX (vp_in_iff.mpr ⟨by decide, by show (1 : Int) < (L : Int); omega⟩) rfl dL_law_1456 ?_
    refine g_callV (n := 1) hk (m196_X12_count l D zt g r (xs 1)) (SP.pre _ _) (fun q h => List.mem_append_right _ h) (gi_V zw_1943 zw_1944 zw_1945 zw_115 (gi_sub zi_m196_X12_count zg_m196_X12_count)) rfl rfl rfl (by decide +kernel) ⟨Nat.le_of_ble_eq_true rfl, Nat.le_of_ble_eq_true rfl⟩ 0 rfl rfl rfl rfl (Nat.le_of_ble_eq_true rfl) ⟨Nat.le_of_ble_eq_true rfl, Nat.le_of_ble_eq_true rfl⟩ dL_law_1457 (fun v ty' w' hp hk' => ?_)
    rcases hp with ⟨c4683, rfl, rfl⟩ | ⟨c4684, c4685, rfl, rfl⟩ | ⟨c4686, c4687, c4688, rfl, rfl⟩ | ⟨c4689, c4690, c4691, c4692, rfl, rfl⟩ | ⟨c4693, c4694, c4695, c4696, c4697, rfl, rfl⟩ | ⟨c4698, c4699, c4700, c4701, c4702, c4703, rfl, rfl⟩ | ⟨c4704, c4705, c4706, c4707, c4708, c4709, c4710, rfl, rfl⟩ | ⟨c4711, c4712, c4713, c4714, c4715, c4716, c4717, c4718, rfl, rfl⟩ | ⟨c4719, c4720, c4721, c4722, c4723, c4724, c4725, c4726, c4727, rfl, rfl⟩ | ⟨c4728, c4729, c4730, c4731, c4732, c4733, c4734, c4735, c4736, c4737, rfl, rfl⟩ | ⟨c4738, c4739, c4740, c4741, c4742, c4743, c4744, c4745, c4746, c4747, c4748, rfl, rfl⟩ | ⟨c4749, c4750, c4751, c4752, c4753, c4754, c4755, c4756, c4757, c4758, c4759, c4760, rfl, rfl⟩ | ⟨c4761, c4762, c4763, c4764, c4765, c4766, c4767, c4768, c4769, c4770, c4771, c4772, c4773, rfl, rfl⟩ | ⟨c4774, c4775, c4776, c4777, c4778, c4779, c4780, c4781, c4782, c4783, c4784, c4785, c4786, c4787, rfl, rfl⟩ | ⟨c4788, c4789, c4790, c4791, c4792, c4793, c4794, c4795, c4796, c4797, c4798, c4799, c4800, c4801, c4802, rfl, rfl⟩ | ⟨c4803, c4804, c4805, c4806, c4807, c4808, c4809, c4810, c4811, c4812, c4813, c4814, c4815, c4816, c4817, rfl, rfl⟩
    · show GW κ 4 82 21282 (wX q d iX0 aX0 ++ wM r g iM1 aM1 lM1) 1460 [(3, .int 0), (2, .ref (r 0)), (1, .ref (q 0)), (0, .ref b)] [.int 0, .int 0]
      exfalso; omega
    · show GW κ 4 82 21282 (wX q d iX0 aX0 ++ wM r g iM1 aM1 lM1) 1460 [(3, .int 0), (2, .ref (r 0)), (1, .ref (q 0)), (0, .ref b)] [.int 0, .int 0]
      exfalso; omega
    · show GW κ 4 82 21282 (wX q d iX0 aX0 ++ wM r g iM1 aM1 lM1) 1460 [(3, .int 0), (2, .ref (r 0)), (1, .ref (q 0)), (0, .ref b)] [.int 0, .int 0]
      exfalso; omega
    · show GW κ 4 82 21282 (wX q d iX0 aX0 ++ wM r g iM1 aM1 lM1) 1460 [(3, .int 0), (2, .ref (r 0)), (1, .ref (q 0)), (0, .ref b)] [.int 2, .int 0]
      exfalso; omega
    · show GW κ 4 82 21282 (wX q d iX0 aX0 ++ wM r g iM1 aM1 lM1) 1460 [(3, .int 0), (2, .ref (r 0)), (1, .ref (q 0)), (0, .ref b)] [.int 0, .int 0]
      exfalso; omega
    · show GW κ 4 82 21282 (wX q d iX0 aX0 ++ wM r g iM1 aM1 lM1) 1460 [(3, .int 0), (2, .ref (r 0)), (1, .ref (q 0)), (0, .ref b)] [.int 0, .int 0]
      refine g_icmp_eq (tgt := 1465) (a := 0) (b := 0) hk dL_law_1460 (by decide) rfl rfl (fun _ => ?_) (fun z9 => absurd (show (0 : Int) = (0 : Int) from by decide) z9)
      exact tail _
    · show GW κ 4 82 21282 (wX q d iX0 aX0 ++ wM r g iM1 aM1 lM1) 1460 [(3, .int 0), (2, .ref (r 0)), (1, .ref (q 0)), (0, .ref b)] [.int 8, .int 0]
      exfalso; omega
    · show GW κ 4 82 21282 (wX q d iX0 aX0 ++ wM r g iM1 aM1 lM1) 1460 [(3, .int 0), (2, .ref (r 0)), (1, .ref (q 0)), (0, .ref b)] [.int 0, .int 0]
      exfalso; omega
    · show GW κ 4 82 21282 (wX q d iX0 aX0 ++ wM r g iM1 aM1 lM1) 1460 [(3, .int 0), (2, .ref (r 0)), (1, .ref (q 0)), (0, .ref b)] [.int 0, .int 0]
      exfalso; omega
    · show GW κ 4 82 21282 (wX q d iX0 aX0 ++ wM r g iM1 aM1 lM1) 1460 [(3, .int 0), (2, .ref (r 0)), (1, .ref (q 0)), (0, .ref b)] [.int 0, .int 0]
      exfalso; omega
    · show GW κ 4 82 21282 (wX q d iX0 aX0 ++ wM r g iM1 aM1 lM1) 1460 [(3, .int 0), (2, .ref (r 0)), (1, .ref (q 0)), (0, .ref b)] [.int 0, .int 0]
      exfalso; omega
    · show GW κ 4 82 21282 (wX q d iX0 aX0 ++ wM r g iM1 aM1 lM1) 1460 [(3, .int 0), (2, .ref (r 0)), (1, .ref (q 0)), (0, .ref b)] [.int 0, .int 0]
      exfalso; omega
    · show GW κ 4 82 21282 (wX q d iX0 aX0 ++ wM r g iM1 aM1 lM1) 1460 [(3, .int 0), (2, .ref (r 0)), (1, .ref (q 0)), (0, .ref b)] [.int (-1000), .int 0]
      exfalso; omega
    · show GW κ 4 82 21282 (wX q d iX0 aX0 ++ wM r g iM1 aM1 lM1) 1460 [(3, .int 0), (2, .ref (r 0)), (1, .ref (q 0)), (0, .ref b)] [.int (-1000), .int 0]
      exfalso; omega
    · show GW κ 4 82 21282 (wX q d iX0 aX0 ++ wM r g iM1 aM1 lM1) 1460 [(3, .int 0), (2, .ref (r 0)), (1, .ref (q 0)), (0, .ref b)] [.int 0, .int 0]
      exfalso; omega
    · show GW κ 4 82 21282 (wX q d iX0 aX0 ++ wM r g iM1 aM1 lM1) 1460 [(3, .int 0), (2, .ref (r 0)), (1, .ref (q 0)), (0, .ref b)] [.int (-1), .int 0]
      exfalso; omega
  · show GW κ 4 82 21282 (wM r g iM1 aM1 lM1 ++ wX q d iX0 aX0) 1451 [(3, .int 0), (2, .ref (r 0)), (1, .ref (q 0)), (0, .ref b)] [.int 8]
    refine g_aload_n hk dL_law_1451 rfl ?_
    refine g_aload_n hk dL_law_1452 rfl ?_
    refine g_iload_n hk dL_law_1453 rfl ?_
    refine g_iconst (v := 1) hk dL_law_1454 (by decide) ?_
    refine g_iadd hk dL_law_1455 ?_
    refine g_norm (v := 1) (by decide) ?_
    refine g_sld (v := xs 1) hk hX (vp_in_iff.mpr ⟨by decide, by show (1 : Int) < (L : Int); omega⟩) rfl dL_law_1456 ?_
    refine g_callV (n := 1) hk (m196_X12_count l D zt g r (xs 1)) (SP.pre _ _) (fun q h => List.mem_append_right _ h) (gi_V zw_1943 zw_1944 zw_1945 zw_115 (gi_sub zi_m196_X12_count zg_m196_X12_count)) rfl rfl rfl (by decide +kernel) ⟨Nat.le_of_ble_eq_true rfl, Nat.le_of_ble_eq_true rfl⟩ 0 rfl rfl rfl rfl (Nat.le_of_ble_eq_true rfl) ⟨Nat.le_of_ble_eq_true rfl, Nat.le_of_ble_eq_true rfl⟩ dL_law_1457 (fun v ty' w' hp hk' => ?_)
    rcases hp with ⟨c4818, rfl, rfl⟩ | ⟨c4819, c4820, rfl, rfl⟩ | ⟨c4821, c4822, c4823, rfl, rfl⟩ | ⟨c4824, c4825, c4826, c4827, rfl, rfl⟩ | ⟨c4828, c4829, c4830, c4831, c4832, rfl, rfl⟩ | ⟨c4833, c4834, c4835, c4836, c4837, c4838, rfl, rfl⟩ | ⟨c4839, c4840, c4841, c4842, c4843, c4844, c4845, rfl, rfl⟩ | ⟨c4846, c4847, c4848, c4849, c4850, c4851, c4852, c4853, rfl, rfl⟩ | ⟨c4854, c4855, c4856, c4857, c4858, c4859, c4860, c4861, c4862, rfl, rfl⟩ | ⟨c4863, c4864, c4865, c4866, c4867, c4868, c4869, c4870, c4871, c4872, rfl, rfl⟩ | ⟨c4873, c4874, c4875, c4876, c4877, c4878, c4879, c4880, c4881, c4882, c4883, rfl, rfl⟩ | ⟨c4884, c4885, c4886, c4887, c4888, c4889, c4890, c4891, c4892, c4893, c4894, c4895, rfl, rfl⟩ | ⟨c4896, c4897, c4898, c4899, c4900, c4901, c4902, c4903, c4904, c4905, c4906, c4907, c4908, rfl, rfl⟩ | ⟨c4909, c4910, c4911, c4912, c4913, c4914, c4915, c4916, c4917, c4918, c4919, c4920, c4921, c4922, rfl, rfl⟩ | ⟨c4923, c4924, c4925, c4926, c4927, c4928, c4929, c4930, c4931, c4932, c4933, c4934, c4935, c4936, c4937, rfl, rfl⟩ | ⟨c4938, c4939, c4940, c4941, c4942, c4943, c4944, c4945, c4946, c4947, c4948, c4949, c4950, c4951, c4952, rfl, rfl⟩
    · show GW κ 4 82 21282 (wX q d iX0 aX0 ++ wM r g iM1 aM1 lM1) 1460 [(3, .int 0), (2, .ref (r 0)), (1, .ref (q 0)), (0, .ref b)] [.int 0, .int 8]
      exfalso; omega
    · show GW κ 4 82 21282 (wX q d iX0 aX0 ++ wM r g iM1 aM1 lM1) 1460 [(3, .int 0), (2, .ref (r 0)), (1, .ref (q 0)), (0, .ref b)] [.int 0, .int 8]
      exfalso; omega
    · show GW κ 4 82 21282 (wX q d iX0 aX0 ++ wM r g iM1 aM1 lM1) 1460 [(3, .int 0), (2, .ref (r 0)), (1, .ref (q 0)), (0, .ref b)] [.int 0, .int 8]
      exfalso; omega
    · show GW κ 4 82 21282 (wX q d iX0 aX0 ++ wM r g iM1 aM1 lM1) 1460 [(3, .int 0), (2, .ref (r 0)), (1, .ref (q 0)), (0, .ref b)] [.int 2, .int 8]
      exfalso; omega
    · show GW κ 4 82 21282 (wX q d iX0 aX0 ++ wM r g iM1 aM1 lM1) 1460 [(3, .int 0), (2, .ref (r 0)), (1, .ref (q 0)), (0, .ref b)] [.int 0, .int 8]
      exfalso; omega
    · show GW κ 4 82 21282 (wX q d iX0 aX0 ++ wM r g iM1 aM1 lM1) 1460 [(3, .int 0), (2, .ref (r 0)), (1, .ref (q 0)), (0, .ref b)] [.int 0, .int 8]
      exfalso; omega
    · show GW κ 4 82 21282 (wX q d iX0 aX0 ++ wM r g iM1 aM1 lM1) 1460 [(3, .int 0), (2, .ref (r 0)), (1, .ref (q 0)), (0, .ref b)] [.int 8, .int 8]
      refine g_icmp_eq (tgt := 1465) (a := 8) (b := 8) hk dL_law_1460 (by decide) rfl rfl (fun _ => ?_) (fun z9 => absurd (show (8 : Int) = (8 : Int) from by decide) z9)
      exact tail _
    · show GW κ 4 82 21282 (wX q d iX0 aX0 ++ wM r g iM1 aM1 lM1) 1460 [(3, .int 0), (2, .ref (r 0)), (1, .ref (q 0)), (0, .ref b)] [.int 0, .int 8]
      exfalso; omega
    · show GW κ 4 82 21282 (wX q d iX0 aX0 ++ wM r g iM1 aM1 lM1) 1460 [(3, .int 0), (2, .ref (r 0)), (1, .ref (q 0)), (0, .ref b)] [.int 0, .int 8]
      exfalso; omega
    · show GW κ 4 82 21282 (wX q d iX0 aX0 ++ wM r g iM1 aM1 lM1) 1460 [(3, .int 0), (2, .ref (r 0)), (1, .ref (q 0)), (0, .ref b)] [.int 0, .int 8]
      exfalso; omega
    · show GW κ 4 82 21282 (wX q d iX0 aX0 ++ wM r g iM1 aM1 lM1) 1460 [(3, .int 0), (2, .ref (r 0)), (1, .ref (q 0)), (0, .ref b)] [.int 0, .int 8]
      exfalso; omega
    · show GW κ 4 82 21282 (wX q d iX0 aX0 ++ wM r g iM1 aM1 lM1) 1460 [(3, .int 0), (2, .ref (r 0)), (1, .ref (q 0)), (0, .ref b)] [.int 0, .int 8]
      exfalso; omega
    · show GW κ 4 82 21282 (wX q d iX0 aX0 ++ wM r g iM1 aM1 lM1) 1460 [(3, .int 0), (2, .ref (r 0)), (1, .ref (q 0)), (0, .ref b)] [.int (-1000), .int 8]
      exfalso; omega
    · show GW κ 4 82 21282 (wX q d iX0 aX0 ++ wM r g iM1 aM1 lM1) 1460 [(3, .int 0), (2, .ref (r 0)), (1, .ref (q 0)), (0, .ref b)] [.int (-1000), .int 8]
      exfalso; omega
    · show GW κ 4 82 21282 (wX q d iX0 aX0 ++ wM r g iM1 aM1 lM1) 1460 [(3, .int 0), (2, .ref (r 0)), (1, .ref (q 0)), (0, .ref b)] [.int 0, .int 8]
      exfalso; omega
    · show GW κ 4 82 21282 (wX q d iX0 aX0 ++ wM r g iM1 aM1 lM1) 1460 [(3, .int 0), (2, .ref (r 0)), (1, .ref (q 0)), (0, .ref b)] [.int (-1), .int 8]
      exfalso; omega
  · show GW κ 4 82 21282 (wM r g iM1 aM1 lM1 ++ wX q d iX0 aX0) 1451 [(3, .int 0), (2, .ref (r 0)), (1, .ref (q 0)), (0, .ref b)] [.int 0]
    refine g_aload_n hk dL_law_1451 rfl ?_
    refine g_aload_n hk dL_law_1452 rfl ?_
    refine g_iload_n hk dL_law_1453 rfl ?_
    refine g_iconst (v := 1) hk dL_law_1454 (by decide) ?_
    refine g_iadd hk dL_law_1455 ?_
    refine g_norm (v := 1) (by decide) ?_
    refine g_sld (v := xs 1) hk hX (vp_in_iff.mpr ⟨by decide, by show (1 : Int) < (L : Int); omega⟩) rfl dL_law_1456 ?_
    refine g_callV (n := 1) hk (m196_X12_count l D zt g r (xs 1)) (SP.pre _ _) (fun q h => List.mem_append_right _ h) (gi_V zw_1943 zw_1944 zw_1945 zw_115 (gi_sub zi_m196_X12_count zg_m196_X12_count)) rfl rfl rfl (by decide +kernel) ⟨Nat.le_of_ble_eq_true rfl, Nat.le_of_ble_eq_true rfl⟩ 0 rfl rfl rfl rfl (Nat.le_of_ble_eq_true rfl) ⟨Nat.le_of_ble_eq_true rfl, Nat.le_of_ble_eq_true rfl⟩ dL_law_1457 (fun v ty' w' hp hk' => ?_)
    rcases hp with ⟨c4953, rfl, rfl⟩ | ⟨c4954, c4955, rfl, rfl⟩ | ⟨c4956, c4957, c4958, rfl, rfl⟩ | ⟨c4959, c4960, c4961, c4962, rfl, rfl⟩ | ⟨c4963, c4964, c4965, c4966, c4967, rfl, rfl⟩ | ⟨c4968, c4969, c4970, c4971, c4972, c4973, rfl, rfl⟩ | ⟨c4974, c4975, c4976, c4977, c4978, c4979, c4980, rfl, rfl⟩ | ⟨c4981, c4982, c4983, c4984, c4985, c4986, c4987, c4988, rfl, rfl⟩ | ⟨c4989, c4990, c4991, c4992, c4993, c4994, c4995, c4996, c4997, rfl, rfl⟩ | ⟨c4998, c4999, c5000, c5001, c5002, c5003, c5004, c5005, c5006, c5007, rfl, rfl⟩ | ⟨c5008, c5009, c5010, c5011, c5012, c5013, c5014, c5015, c5016, c5017, c5018, rfl, rfl⟩ | ⟨c5019, c5020, c5021, c5022, c5023, c5024, c5025, c5026, c5027, c5028, c5029, c5030, rfl, rfl⟩ | ⟨c5031, c5032, c5033, c5034, c5035, c5036, c5037, c5038, c5039, c5040, c5041, c5042, c5043, rfl, rfl⟩ | ⟨c5044, c5045, c5046, c5047, c5048, c5049, c5050, c5051, c5052, c5053, c5054, c5055, c5056, c5057, rfl, rfl⟩ | ⟨c5058, c5059, c5060, c5061, c5062, c5063, c5064, c5065, c5066, c5067, c5068, c5069, c5070, c5071, c5072, rfl, rfl⟩ | ⟨c5073, c5074, c5075, c5076, c5077, c5078, c5079, c5080, c5081, c5082, c5083, c5084, c5085, c5086, c5087, rfl, rfl⟩
    · show GW κ 4 82 21282 (wX q d iX0 aX0 ++ wM r g iM1 aM1 lM1) 1460 [(3, .int 0), (2, .ref (r 0)), (1, .ref (q 0)), (0, .ref b)] [.int 0, .int 0]
      exfalso; omega
    · show GW κ 4 82 21282 (wX q d iX0 aX0 ++ wM r g iM1 aM1 lM1) 1460 [(3, .int 0), (2, .ref (r 0)), (1, .ref (q 0)), (0, .ref b)] [.int 0, .int 0]
      exfalso; omega
    · show GW κ 4 82 21282 (wX q d iX0 aX0 ++ wM r g iM1 aM1 lM1) 1460 [(3, .int 0), (2, .ref (r 0)), (1, .ref (q 0)), (0, .ref b)] [.int 0, .int 0]
      exfalso; omega
    · show GW κ 4 82 21282 (wX q d iX0 aX0 ++ wM r g iM1 aM1 lM1) 1460 [(3, .int 0), (2, .ref (r 0)), (1, .ref (q 0)), (0, .ref b)] [.int 2, .int 0]
      exfalso; omega
    · show GW κ 4 82 21282 (wX q d iX0 aX0 ++ wM r g iM1 aM1 lM1) 1460 [(3, .int 0), (2, .ref (r 0)), (1, .ref (q 0)), (0, .ref b)] [.int 0, .int 0]
      exfalso; omega
    · show GW κ 4 82 21282 (wX q d iX0 aX0 ++ wM r g iM1 aM1 lM1) 1460 [(3, .int 0), (2, .ref (r 0)), (1, .ref (q 0)), (0, .ref b)] [.int 0, .int 0]
      exfalso; omega
    · show GW κ 4 82 21282 (wX q d iX0 aX0 ++ wM r g iM1 aM1 lM1) 1460 [(3, .int 0), (2, .ref (r 0)), (1, .ref (q 0)), (0, .ref b)] [.int 8, .int 0]
      exfalso; omega
    · show GW κ 4 82 21282 (wX q d iX0 aX0 ++ wM r g iM1 aM1 lM1) 1460 [(3, .int 0), (2, .ref (r 0)), (1, .ref (q 0)), (0, .ref b)] [.int 0, .int 0]
      refine g_icmp_eq (tgt := 1465) (a := 0) (b := 0) hk dL_law_1460 (by decide) rfl rfl (fun _ => ?_) (fun z9 => absurd (show (0 : Int) = (0 : Int) from by decide) z9)
      exact tail _
    · show GW κ 4 82 21282 (wX q d iX0 aX0 ++ wM r g iM1 aM1 lM1) 1460 [(3, .int 0), (2, .ref (r 0)), (1, .ref (q 0)), (0, .ref b)] [.int 0, .int 0]
      exfalso; omega
    · show GW κ 4 82 21282 (wX q d iX0 aX0 ++ wM r g iM1 aM1 lM1) 1460 [(3, .int 0), (2, .ref (r 0)), (1, .ref (q 0)), (0, .ref b)] [.int 0, .int 0]
      exfalso; omega
    · show GW κ 4 82 21282 (wX q d iX0 aX0 ++ wM r g iM1 aM1 lM1) 1460 [(3, .int 0), (2, .ref (r 0)), (1, .ref (q 0)), (0, .ref b)] [.int 0, .int 0]
      exfalso; omega
    · show GW κ 4 82 21282 (wX q d iX0 aX0 ++ wM r g iM1 aM1 lM1) 1460 [(3, .int 0), (2, .ref (r 0)), (1, .ref (q 0)), (0, .ref b)] [.int 0, .int 0]
      exfalso; omega
    · show GW κ 4 82 21282 (wX q d iX0 aX0 ++ wM r g iM1 aM1 lM1) 1460 [(3, .int 0), (2, .ref (r 0)), (1, .ref (q 0)), (0, .ref b)] [.int (-1000), .int 0]
      exfalso; omega
    · show GW κ 4 82 21282 (wX q d iX0 aX0 ++ wM r g iM1 aM1 lM1) 1460 [(3, .int 0), (2, .ref (r 0)), (1, .ref (q 0)), (0, .ref b)] [.int (-1000), .int 0]
      exfalso; omega
    · show GW κ 4 82 21282 (wX q d iX0 aX0 ++ wM r g iM1 aM1 lM1) 1460 [(3, .int 0), (2, .ref (r 0)), (1, .ref (q 0)), (0, .ref b)] [.int 0, .int 0]
      exfalso; omega
    · show GW κ 4 82 21282 (wX q d iX0 aX0 ++ wM r g iM1 aM1 lM1) 1460 [(3, .int 0), (2, .ref (r 0)), (1, .ref (q 0)), (0, .ref b)] [.int (-1), .int 0]
      exfalso; omega
  · show GW κ 4 82 21282 (wM r g iM1 aM1 lM1 ++ wX q d iX0 aX0) 1451 [(3, .int 0), (2, .ref (r 0)), (1, .ref (q 0)), (0, .ref b)] [.int 0]
    refine g_aload_n hk dL_law_1451 rfl ?_
    refine g_aload_n hk dL_law_1452 rfl ?_
    refine g_iload_n hk dL_law_1453 rfl ?_
    refine g_iconst (v := 1) hk dL_law_1454 (by decide) ?_
    refine g_iadd hk dL_law_1455 ?_
    refine g_norm (v := 1) (by decide) ?_
    refine g_sld (v := xs 1) hk hX (vp_in_iff.mpr ⟨by decide, by show (1 : Int) < (L : Int); omega⟩) rfl dL_law_1456 ?_
    refine g_callV (n := 1) hk (m196_X12_count l D zt g r (xs 1)) (SP.pre _ _) (fun q h => List.mem_append_right _ h) (gi_V zw_1943 zw_1944 zw_1945 zw_115 (gi_sub zi_m196_X12_count zg_m196_X12_count)) rfl rfl rfl (by decide +kernel) ⟨Nat.le_of_ble_eq_true rfl, Nat.le_of_ble_eq_true rfl⟩ 0 rfl rfl rfl rfl (Nat.le_of_ble_eq_true rfl) ⟨Nat.le_of_ble_eq_true rfl, Nat.le_of_ble_eq_true rfl⟩ dL_law_1457 (fun v ty' w' hp hk' => ?_)
    rcases hp with ⟨c5088, rfl, rfl⟩ | ⟨c5089, c5090, rfl, rfl⟩ | ⟨c5091, c5092, c5093, rfl, rfl⟩ | ⟨c5094, c5095, c5096, c5097, rfl, rfl⟩ | ⟨c5098, c5099, c5100, c5101, c5102, rfl, rfl⟩ | ⟨c5103, c5104, c5105, c5106, c5107, c5108, rfl, rfl⟩ | ⟨c5109, c5110, c5111, c5112, c5113, c5114, c5115, rfl, rfl⟩ | ⟨c5116, c5117, c5118, c5119, c5120, c5121, c5122, c5123, rfl, rfl⟩ | ⟨c5124, c5125, c5126, c5127, c5128, c5129, c5130, c5131, c5132, rfl, rfl⟩ | ⟨c5133, c5134, c5135, c5136, c5137, c5138, c5139, c5140, c5141, c5142, rfl, rfl⟩ | ⟨c5143, c5144, c5145, c5146, c5147, c5148, c5149, c5150, c5151, c5152, c5153, rfl, rfl⟩ | ⟨c5154, c5155, c5156, c5157, c5158, c5159, c5160, c5161, c5162, c5163, c5164, c5165, rfl, rfl⟩ | ⟨c5166, c5167, c5168, c5169, c5170, c5171, c5172, c5173, c5174, c5175, c5176, c5177, c5178, rfl, rfl⟩ | ⟨c5179, c5180, c5181, c5182, c5183, c5184, c5185, c5186, c5187, c5188, c5189, c5190, c5191, c5192, rfl, rfl⟩ | ⟨c5193, c5194, c5195, c5196, c5197, c5198, c5199, c5200, c5201, c5202, c5203, c5204, c5205, c5206, c5207, rfl, rfl⟩ | ⟨c5208, c5209, c5210, c5211, c5212, c5213, c5214, c5215, c5216, c5217, c5218, c5219, c5220, c5221, c5222, rfl, rfl⟩
    · show GW κ 4 82 21282 (wX q d iX0 aX0 ++ wM r g iM1 aM1 lM1) 1460 [(3, .int 0), (2, .ref (r 0)), (1, .ref (q 0)), (0, .ref b)] [.int 0, .int 0]
      exfalso; omega
    · show GW κ 4 82 21282 (wX q d iX0 aX0 ++ wM r g iM1 aM1 lM1) 1460 [(3, .int 0), (2, .ref (r 0)), (1, .ref (q 0)), (0, .ref b)] [.int 0, .int 0]
      exfalso; omega
    · show GW κ 4 82 21282 (wX q d iX0 aX0 ++ wM r g iM1 aM1 lM1) 1460 [(3, .int 0), (2, .ref (r 0)), (1, .ref (q 0)), (0, .ref b)] [.int 0, .int 0]
      exfalso; omega
    · show GW κ 4 82 21282 (wX q d iX0 aX0 ++ wM r g iM1 aM1 lM1) 1460 [(3, .int 0), (2, .ref (r 0)), (1, .ref (q 0)), (0, .ref b)] [.int 2, .int 0]
      exfalso; omega
    · show GW κ 4 82 21282 (wX q d iX0 aX0 ++ wM r g iM1 aM1 lM1) 1460 [(3, .int 0), (2, .ref (r 0)), (1, .ref (q 0)), (0, .ref b)] [.int 0, .int 0]
      exfalso; omega
    · show GW κ 4 82 21282 (wX q d iX0 aX0 ++ wM r g iM1 aM1 lM1) 1460 [(3, .int 0), (2, .ref (r 0)), (1, .ref (q 0)), (0, .ref b)] [.int 0, .int 0]
      exfalso; omega
    · show GW κ 4 82 21282 (wX q d iX0 aX0 ++ wM r g iM1 aM1 lM1) 1460 [(3, .int 0), (2, .ref (r 0)), (1, .ref (q 0)), (0, .ref b)] [.int 8, .int 0]
      exfalso; omega
    · show GW κ 4 82 21282 (wX q d iX0 aX0 ++ wM r g iM1 aM1 lM1) 1460 [(3, .int 0), (2, .ref (r 0)), (1, .ref (q 0)), (0, .ref b)] [.int 0, .int 0]
      exfalso; omega
    · show GW κ 4 82 21282 (wX q d iX0 aX0 ++ wM r g iM1 aM1 lM1) 1460 [(3, .int 0), (2, .ref (r 0)), (1, .ref (q 0)), (0, .ref b)] [.int 0, .int 0]
      refine g_icmp_eq (tgt := 1465) (a := 0) (b := 0) hk dL_law_1460 (by decide) rfl rfl (fun _ => ?_) (fun z9 => absurd (show (0 : Int) = (0 : Int) from by decide) z9)
      exact tail _
    · show GW κ 4 82 21282 (wX q d iX0 aX0 ++ wM r g iM1 aM1 lM1) 1460 [(3, .int 0), (2, .ref (r 0)), (1, .ref (q 0)), (0, .ref b)] [.int 0, .int 0]
      exfalso; omega
    · show GW κ 4 82 21282 (wX q d iX0 aX0 ++ wM r g iM1 aM1 lM1) 1460 [(3, .int 0), (2, .ref (r 0)), (1, .ref (q 0)), (0, .ref b)] [.int 0, .int 0]
      exfalso; omega
    · show GW κ 4 82 21282 (wX q d iX0 aX0 ++ wM r g iM1 aM1 lM1) 1460 [(3, .int 0), (2, .ref (r 0)), (1, .ref (q 0)), (0, .ref b)] [.int 0, .int 0]
      exfalso; omega
    · show GW κ 4 82 21282 (wX q d iX0 aX0 ++ wM r g iM1 aM1 lM1) 1460 [(3, .int 0), (2, .ref (r 0)), (1, .ref (q 0)), (0, .ref b)] [.int (-1000), .int 0]
      exfalso; omega
    · show GW κ 4 82 21282 (wX q d iX0 aX0 ++ wM r g iM1 aM1 lM1) 1460 [(3, .int 0), (2, .ref (r 0)), (1, .ref (q 0)), (0, .ref b)] [.int (-1000), .int 0]
      exfalso; omega
    · show GW κ 4 82 21282 (wX q d iX0 aX0 ++ wM r g iM1 aM1 lM1) 1460 [(3, .int 0), (2, .ref (r 0)), (1, .ref (q 0)), (0, .ref b)] [.int 0, .int 0]
      exfalso; omega
    · show GW κ 4 82 21282 (wX q d iX0 aX0 ++ wM r g iM1 aM1 lM1) 1460 [(3, .int 0), (2, .ref (r 0)), (1, .ref (q 0)), (0, .ref b)] [.int (-1), .int 0]
      exfalso; omega
  · show GW κ 4 82 21282 (wM r g iM1 aM1 lM1 ++ wX q d iX0 aX0) 1451 [(3, .int 0), (2, .ref (r 0)), (1, .ref (q 0)), (0, .ref b)] [.int 0]
    refine g_aload_n hk dL_law_1451 rfl ?_
    refine g_aload_n hk dL_law_1452 rfl ?_
    refine g_iload_n hk dL_law_1453 rfl ?_
    refine g_iconst (v := 1) hk dL_law_1454 (by decide) ?_
    refine g_iadd hk dL_law_1455 ?_
    refine g_norm (v := 1) (by decide) ?_
    refine g_sld (v := xs 1) hk hX (vp_in_iff.mpr ⟨by decide, by show (1 : Int) < (L : Int); omega⟩) rfl dL_law_1456 ?_
    refine g_callV (n := 1) hk (m196_X12_count l D zt g r (xs 1)) (SP.pre _ _) (fun q h => List.mem_append_right _ h) (gi_V zw_1943 zw_1944 zw_1945 zw_115 (gi_sub zi_m196_X12_count zg_m196_X12_count)) rfl rfl rfl (by decide +kernel) ⟨Nat.le_of_ble_eq_true rfl, Nat.le_of_ble_eq_true rfl⟩ 0 rfl rfl rfl rfl (Nat.le_of_ble_eq_true rfl) ⟨Nat.le_of_ble_eq_true rfl, Nat.le_of_ble_eq_true rfl⟩ dL_law_1457 (fun v ty' w' hp hk' => ?_)
    rcases hp with ⟨c5223, rfl, rfl⟩ | ⟨c5224, c5225, rfl, rfl⟩ | ⟨c5226, c5227, c5228, rfl, rfl⟩ | ⟨c5229, c5230, c5231, c5232, rfl, rfl⟩ | ⟨c5233, c5234, c5235, c5236, c5237, rfl, rfl⟩ | ⟨c5238, c5239, c5240, c5241, c5242, c5243, rfl, rfl⟩ | ⟨c5244, c5245, c5246, c5247, c5248, c5249, c5250, rfl, rfl⟩ | ⟨c5251, c5252, c5253, c5254, c5255, c5256, c5257, c5258, rfl, rfl⟩ | ⟨c5259, c5260, c5261, c5262, c5263, c5264, c5265, c5266, c5267, rfl, rfl⟩ | ⟨c5268, c5269, c5270, c5271, c5272, c5273, c5274, c5275, c5276, c5277, rfl, rfl⟩ | ⟨c5278, c5279, c5280, c5281, c5282, c5283, c5284, c5285, c5286, c5287, c5288, rfl, rfl⟩ | ⟨c5289, c5290, c5291, c5292, c5293, c5294, c5295, c5296, c5297, c5298, c5299, c5300, rfl, rfl⟩ | ⟨c5301, c5302, c5303, c5304, c5305, c5306, c5307, c5308, c5309, c5310, c5311, c5312, c5313, rfl, rfl⟩ | ⟨c5314, c5315, c5316, c5317, c5318, c5319, c5320, c5321, c5322, c5323, c5324, c5325, c5326, c5327, rfl, rfl⟩ | ⟨c5328, c5329, c5330, c5331, c5332, c5333, c5334, c5335, c5336, c5337, c5338, c5339, c5340, c5341, c5342, rfl, rfl⟩ | ⟨c5343, c5344, c5345, c5346, c5347, c5348, c5349, c5350, c5351, c5352, c5353, c5354, c5355, c5356, c5357, rfl, rfl⟩
    · show GW κ 4 82 21282 (wX q d iX0 aX0 ++ wM r g iM1 aM1 lM1) 1460 [(3, .int 0), (2, .ref (r 0)), (1, .ref (q 0)), (0, .ref b)] [.int 0, .int 0]
      exfalso; omega
    · show GW κ 4 82 21282 (wX q d iX0 aX0 ++ wM r g iM1 aM1 lM1) 1460 [(3, .int 0), (2, .ref (r 0)), (1, .ref (q 0)), (0, .ref b)] [.int 0, .int 0]
      exfalso; omega
    · show GW κ 4 82 21282 (wX q d iX0 aX0 ++ wM r g iM1 aM1 lM1) 1460 [(3, .int 0), (2, .ref (r 0)), (1, .ref (q 0)), (0, .ref b)] [.int 0, .int 0]
      exfalso; omega
    · show GW κ 4 82 21282 (wX q d iX0 aX0 ++ wM r g iM1 aM1 lM1) 1460 [(3, .int 0), (2, .ref (r 0)), (1, .ref (q 0)), (0, .ref b)] [.int 2, .int 0]
      exfalso; omega
    · show GW κ 4 82 21282 (wX q d iX0 aX0 ++ wM r g iM1 aM1 lM1) 1460 [(3, .int 0), (2, .ref (r 0)), (1, .ref (q 0)), (0, .ref b)] [.int 0, .int 0]
      exfalso; omega
    · show GW κ 4 82 21282 (wX q d iX0 aX0 ++ wM r g iM1 aM1 lM1) 1460 [(3, .int 0), (2, .ref (r 0)), (1, .ref (q 0)), (0, .ref b)] [.int 0, .int 0]
      exfalso; omega
    · show GW κ 4 82 21282 (wX q d iX0 aX0 ++ wM r g iM1 aM1 lM1) 1460 [(3, .int 0), (2, .ref (r 0)), (1, .ref (q 0)), (0, .ref b)] [.int 8, .int 0]
      exfalso; omega
    · show GW κ 4 82 21282 (wX q d iX0 aX0 ++ wM r g iM1 aM1 lM1) 1460 [(3, .int 0), (2, .ref (r 0)), (1, .ref (q 0)), (0, .ref b)] [.int 0, .int 0]
      exfalso; omega
    · show GW κ 4 82 21282 (wX q d iX0 aX0 ++ wM r g iM1 aM1 lM1) 1460 [(3, .int 0), (2, .ref (r 0)), (1, .ref (q 0)), (0, .ref b)] [.int 0, .int 0]
      exfalso; omega
    · show GW κ 4 82 21282 (wX q d iX0 aX0 ++ wM r g iM1 aM1 lM1) 1460 [(3, .int 0), (2, .ref (r 0)), (1, .ref (q 0)), (0, .ref b)] [.int 0, .int 0]
      refine g_icmp_eq (tgt := 1465) (a := 0) (b := 0) hk dL_law_1460 (by decide) rfl rfl (fun _ => ?_) (fun z9 => absurd (show (0 : Int) = (0 : Int) from by decide) z9)
      exact tail _
    · show GW κ 4 82 21282 (wX q d iX0 aX0 ++ wM r g iM1 aM1 lM1) 1460 [(3, .int 0), (2, .ref (r 0)), (1, .ref (q 0)), (0, .ref b)] [.int 0, .int 0]
      exfalso; omega
    · show GW κ 4 82 21282 (wX q d iX0 aX0 ++ wM r g iM1 aM1 lM1) 1460 [(3, .int 0), (2, .ref (r 0)), (1, .ref (q 0)), (0, .ref b)] [.int 0, .int 0]
      exfalso; omega
    · show GW κ 4 82 21282 (wX q d iX0 aX0 ++ wM r g iM1 aM1 lM1) 1460 [(3, .int 0), (2, .ref (r 0)), (1, .ref (q 0)), (0, .ref b)] [.int (-1000), .int 0]
      exfalso; omega
    · show GW κ 4 82 21282 (wX q d iX0 aX0 ++ wM r g iM1 aM1 lM1) 1460 [(3, .int 0), (2, .ref (r 0)), (1, .ref (q 0)), (0, .ref b)] [.int (-1000), .int 0]
      exfalso; omega
    · show GW κ 4 82 21282 (wX q d iX0 aX0 ++ wM r g iM1 aM1 lM1) 1460 [(3, .int 0), (2, .ref (r 0)), (1, .ref (q 0)), (0, .ref b)] [.int 0, .int 0]
      exfalso; omega
    · show GW κ 4 82 21282 (wX q d iX0 aX0 ++ wM r g iM1 aM1 lM1) 1460 [(3, .int 0), (2, .ref (r 0)), (1, .ref (q 0)), (0, .ref b)] [.int (-1), .int 0]
      exfalso; omega
  · show GW κ 4 82 21282 (wM r g iM1 aM1 lM1 ++ wX q d iX0 aX0) 1451 [(3, .int 0), (2, .ref (r 0)), (1, .ref (q 0)), (0, .ref b)] [.int 0]
    refine g_aload_n hk dL_law_1451 rfl ?_
    refine g_aload_n hk dL_law_1452 rfl ?_
    refine g_iload_n hk dL_law_1453 rfl ?_
    refine g_iconst (v := 1) hk dL_law_1454 (by decide) ?_
    refine g_iadd hk dL_law_1455 ?_
    refine g_norm (v := 1) (by decide) ?_
    refine g_sld (v := xs 1) hk hX (vp_in_iff.mpr ⟨by decide, by show (1 : Int) < (L : Int); omega⟩) rfl dL_law_1456 ?_
    refine g_callV (n := 1) hk (m196_X12_count l D zt g r (xs 1)) (SP.pre _ _) (fun q h => List.mem_append_right _ h) (gi_V zw_1943 zw_1944 zw_1945 zw_115 (gi_sub zi_m196_X12_count zg_m196_X12_count)) rfl rfl rfl (by decide +kernel) ⟨Nat.le_of_ble_eq_true rfl, Nat.le_of_ble_eq_true rfl⟩ 0 rfl rfl rfl rfl (Nat.le_of_ble_eq_true rfl) ⟨Nat.le_of_ble_eq_true rfl, Nat.le_of_ble_eq_true rfl⟩ dL_law_1457 (fun v ty' w' hp hk' => ?_)
    rcases hp with ⟨c5358, rfl, rfl⟩ | ⟨c5359, c5360, rfl, rfl⟩ | ⟨c5361, c5362, c5363, rfl, rfl⟩ | ⟨c5364, c5365, c5366, c5367, rfl, rfl⟩ | ⟨c5368, c5369, c5370, c5371, c5372, rfl, rfl⟩ | ⟨c5373, c5374, c5375, c5376, c5377, c5378, rfl, rfl⟩ | ⟨c5379, c5380, c5381, c5382, c5383, c5384, c5385, rfl, rfl⟩ | ⟨c5386, c5387, c5388, c5389, c5390, c5391, c5392, c5393, rfl, rfl⟩ | ⟨c5394, c5395, c5396, c5397, c5398, c5399, c5400, c5401, c5402, rfl, rfl⟩ | ⟨c5403, c5404, c5405, c5406, c5407, c5408, c5409, c5410, c5411, c5412, rfl, rfl⟩ | ⟨c5413, c5414, c5415, c5416, c5417, c5418, c5419, c5420, c5421, c5422, c5423, rfl, rfl⟩ | ⟨c5424, c5425, c5426, c5427, c5428, c5429, c5430, c5431, c5432, c5433, c5434, c5435, rfl, rfl⟩ | ⟨c5436, c5437, c5438, c5439, c5440, c5441, c5442, c5443, c5444, c5445, c5446, c5447, c5448, rfl, rfl⟩ | ⟨c5449, c5450, c5451, c5452, c5453, c5454, c5455, c5456, c5457, c5458, c5459, c5460, c5461, c5462, rfl, rfl⟩ | ⟨c5463, c5464, c5465, c5466, c5467, c5468, c5469, c5470, c5471, c5472, c5473, c5474, c5475, c5476, c5477, rfl, rfl⟩ | ⟨c5478, c5479, c5480, c5481, c5482, c5483, c5484, c5485, c5486, c5487, c5488, c5489, c5490, c5491, c5492, rfl, rfl⟩
    · show GW κ 4 82 21282 (wX q d iX0 aX0 ++ wM r g iM1 aM1 lM1) 1460 [(3, .int 0), (2, .ref (r 0)), (1, .ref (q 0)), (0, .ref b)] [.int 0, .int 0]
      exfalso; omega
    · show GW κ 4 82 21282 (wX q d iX0 aX0 ++ wM r g iM1 aM1 lM1) 1460 [(3, .int 0), (2, .ref (r 0)), (1, .ref (q 0)), (0, .ref b)] [.int 0, .int 0]
      exfalso; omega
    · show GW κ 4 82 21282 (wX q d iX0 aX0 ++ wM r g iM1 aM1 lM1) 1460 [(3, .int 0), (2, .ref (r 0)), (1, .ref (q 0)), (0, .ref b)] [.int 0, .int 0]
      exfalso; omega
    · show GW κ 4 82 21282 (wX q d iX0 aX0 ++ wM r g iM1 aM1 lM1) 1460 [(3, .int 0), (2, .ref (r 0)), (1, .ref (q 0)), (0, .ref b)] [.int 2, .int 0]
      exfalso; omega
    · show GW κ 4 82 21282 (wX q d iX0 aX0 ++ wM r g iM1 aM1 lM1) 1460 [(3, .int 0), (2, .ref (r 0)), (1, .ref (q 0)), (0, .ref b)] [.int 0, .int 0]
      exfalso; omega
    · show GW κ 4 82 21282 (wX q d iX0 aX0 ++ wM r g iM1 aM1 lM1) 1460 [(3, .int 0), (2, .ref (r 0)), (1, .ref (q 0)), (0, .ref b)] [.int 0, .int 0]
      exfalso; omega
    · show GW κ 4 82 21282 (wX q d iX0 aX0 ++ wM r g iM1 aM1 lM1) 1460 [(3, .int 0), (2, .ref (r 0)), (1, .ref (q 0)), (0, .ref b)] [.int 8, .int 0]
      exfalso; omega
    · show GW κ 4 82 21282 (wX q d iX0 aX0 ++ wM r g iM1 aM1 lM1) 1460 [(3, .int 0), (2, .ref (r 0)), (1, .ref (q 0)), (0, .ref b)] [.int 0, .int 0]
      exfalso; omega
    · show GW κ 4 82 21282 (wX q d iX0 aX0 ++ wM r g iM1 aM1 lM1) 1460 [(3, .int 0), (2, .ref (r 0)), (1, .ref (q 0)), (0, .ref b)] [.int 0, .int 0]
      exfalso; omega
    · show GW κ 4 82 21282 (wX q d iX0 aX0 ++ wM r g iM1 aM1 lM1) 1460 [(3, .int 0), (2, .ref (r 0)), (1, .ref (q 0)), (0, .ref b)] [.int 0, .int 0]
      exfalso; omega
    · show GW κ 4 82 21282 (wX q d iX0 aX0 ++ wM r g iM1 aM1 lM1) 1460 [(3, .int 0), (2, .ref (r 0)), (1, .ref (q 0)), (0, .ref b)] [.int 0, .int 0]
      refine g_icmp_eq (tgt := 1465) (a := 0) (b := 0) hk dL_law_1460 (by decide) rfl rfl (fun _ => ?_) (fun z9 => absurd (show (0 : Int) = (0 : Int) from by decide) z9)
      exact tail _
    · show GW κ 4 82 21282 (wX q d iX0 aX0 ++ wM r g iM1 aM1 lM1) 1460 [(3, .int 0), (2, .ref (r 0)), (1, .ref (q 0)), (0, .ref b)] [.int 0, .int 0]
      exfalso; omega
    · show GW κ 4 82 21282 (wX q d iX0 aX0 ++ wM r g iM1 aM1 lM1) 1460 [(3, .int 0), (2, .ref (r 0)), (1, .ref (q 0)), (0, .ref b)] [.int (-1000), .int 0]
      exfalso; omega
    · show GW κ 4 82 21282 (wX q d iX0 aX0 ++ wM r g iM1 aM1 lM1) 1460 [(3, .int 0), (2, .ref (r 0)), (1, .ref (q 0)), (0, .ref b)] [.int (-1000), .int 0]
      exfalso; omega
    · show GW κ 4 82 21282 (wX q d iX0 aX0 ++ wM r g iM1 aM1 lM1) 1460 [(3, .int 0), (2, .ref (r 0)), (1, .ref (q 0)), (0, .ref b)] [.int 0, .int 0]
      exfalso; omega
    · show GW κ 4 82 21282 (wX q d iX0 aX0 ++ wM r g iM1 aM1 lM1) 1460 [(3, .int 0), (2, .ref (r 0)), (1, .ref (q 0)), (0, .ref b)] [.int (-1), .int 0]
      exfalso; omega
  · show GW κ 4 82 21282 (wM r g iM1 aM1 lM1 ++ wX q d iX0 aX0) 1451 [(3, .int 0), (2, .ref (r 0)), (1, .ref (q 0)), (0, .ref b)] [.int 0]
    refine g_aload_n hk dL_law_1451 rfl ?_
    refine g_aload_n hk dL_law_1452 rfl ?_
    refine g_iload_n hk dL_law_1453 rfl ?_
    refine g_iconst (v := 1) hk dL_law_1454 (by decide) ?_
    refine g_iadd hk dL_law_1455 ?_
    refine g_norm (v := 1) (by decide) ?_
    refine g_sld (v := xs 1) hk hX (vp_in_iff.mpr ⟨by decide, by show (1 : Int) < (L : Int); omega⟩) rfl dL_law_1456 ?_
    refine g_callV (n := 1) hk (m196_X12_count l D zt g r (xs 1)) (SP.pre _ _) (fun q h => List.mem_append_right _ h) (gi_V zw_1943 zw_1944 zw_1945 zw_115 (gi_sub zi_m196_X12_count zg_m196_X12_count)) rfl rfl rfl (by decide +kernel) ⟨Nat.le_of_ble_eq_true rfl, Nat.le_of_ble_eq_true rfl⟩ 0 rfl rfl rfl rfl (Nat.le_of_ble_eq_true rfl) ⟨Nat.le_of_ble_eq_true rfl, Nat.le_of_ble_eq_true rfl⟩ dL_law_1457 (fun v ty' w' hp hk' => ?_)
    rcases hp with ⟨c5493, rfl, rfl⟩ | ⟨c5494, c5495, rfl, rfl⟩ | ⟨c5496, c5497, c5498, rfl, rfl⟩ | ⟨c5499, c5500, c5501, c5502, rfl, rfl⟩ | ⟨c5503, c5504, c5505, c5506, c5507, rfl, rfl⟩ | ⟨c5508, c5509, c5510, c5511, c5512, c5513, rfl, rfl⟩ | ⟨c5514, c5515, c5516, c5517, c5518, c5519, c5520, rfl, rfl⟩ | ⟨c5521, c5522, c5523, c5524, c5525, c5526, c5527, c5528, rfl, rfl⟩ | ⟨c5529, c5530, c5531, c5532, c5533, c5534, c5535, c5536, c5537, rfl, rfl⟩ | ⟨c5538, c5539, c5540, c5541, c5542, c5543, c5544, c5545, c5546, c5547, rfl, rfl⟩ | ⟨c5548, c5549, c5550, c5551, c5552, c5553, c5554, c5555, c5556, c5557, c5558, rfl, rfl⟩ | ⟨c5559, c5560, c5561, c5562, c5563, c5564, c5565, c5566, c5567, c5568, c5569, c5570, rfl, rfl⟩ | ⟨c5571, c5572, c5573, c5574, c5575, c5576, c5577, c5578, c5579, c5580, c5581, c5582, c5583, rfl, rfl⟩ | ⟨c5584, c5585, c5586, c5587, c5588, c5589, c5590, c5591, c5592, c5593, c5594, c5595, c5596, c5597, rfl, rfl⟩ | ⟨c5598, c5599, c5600, c5601, c5602, c5603, c5604, c5605, c5606, c5607, c5608, c5609, c5610, c5611, c5612, rfl, rfl⟩ | ⟨c5613, c5614, c5615, c5616, c5617, c5618, c5619, c5620, c5621, c5622, c5623, c5624, c5625, c5626, c5627, rfl, rfl⟩
    · show GW κ 4 82 21282 (wX q d iX0 aX0 ++ wM r g iM1 aM1 lM1) 1460 [(3, .int 0), (2, .ref (r 0)), (1, .ref (q 0)), (0, .ref b)] [.int 0, .int 0]
      exfalso; omega
    · show GW κ 4 82 21282 (wX q d iX0 aX0 ++ wM r g iM1 aM1 lM1) 1460 [(3, .int 0), (2, .ref (r 0)), (1, .ref (q 0)), (0, .ref b)] [.int 0, .int 0]
      exfalso; omega
    · show GW κ 4 82 21282 (wX q d iX0 aX0 ++ wM r g iM1 aM1 lM1) 1460 [(3, .int 0), (2, .ref (r 0)), (1, .ref (q 0)), (0, .ref b)] [.int 0, .int 0]
      exfalso; omega
    · show GW κ 4 82 21282 (wX q d iX0 aX0 ++ wM r g iM1 aM1 lM1) 1460 [(3, .int 0), (2, .ref (r 0)), (1, .ref (q 0)), (0, .ref b)] [.int 2, .int 0]
      exfalso; omega
    · show GW κ 4 82 21282 (wX q d iX0 aX0 ++ wM r g iM1 aM1 lM1) 1460 [(3, .int 0), (2, .ref (r 0)), (1, .ref (q 0)), (0, .ref b)] [.int 0, .int 0]
      exfalso; omega
    · show GW κ 4 82 21282 (wX q d iX0 aX0 ++ wM r g iM1 aM1 lM1) 1460 [(3, .int 0), (2, .ref (r 0)), (1, .ref (q 0)), (0, .ref b)] [.int 0, .int 0]
      exfalso; omega
    · show GW κ 4 82 21282 (wX q d iX0 aX0 ++ wM r g iM1 aM1 lM1) 1460 [(3, .int 0), (2, .ref (r 0)), (1, .ref (q 0)), (0, .ref b)] [.int 8, .int 0]
      exfalso; omega
    · show GW κ 4 82 21282 (wX q d iX0 aX0 ++ wM r g iM1 aM1 lM1) 1460 [(3, .int 0), (2, .ref (r 0)), (1, .ref (q 0)), (0, .ref b)] [.int 0, .int 0]
      exfalso; omega
    · show GW κ 4 82 21282 (wX q d iX0 aX0 ++ wM r g iM1 aM1 lM1) 1460 [(3, .int 0), (2, .ref (r 0)), (1, .ref (q 0)), (0, .ref b)] [.int 0, .int 0]
      exfalso; omega
    · show GW κ 4 82 21282 (wX q d iX0 aX0 ++ wM r g iM1 aM1 lM1) 1460 [(3, .int 0), (2, .ref (r 0)), (1, .ref (q 0)), (0, .ref b)] [.int 0, .int 0]
      exfalso; omega
    · show GW κ 4 82 21282 (wX q d iX0 aX0 ++ wM r g iM1 aM1 lM1) 1460 [(3, .int 0), (2, .ref (r 0)), (1, .ref (q 0)), (0, .ref b)] [.int 0, .int 0]
      exfalso; omega
    · show GW κ 4 82 21282 (wX q d iX0 aX0 ++ wM r g iM1 aM1 lM1) 1460 [(3, .int 0), (2, .ref (r 0)), (1, .ref (q 0)), (0, .ref b)] [.int 0, .int 0]
      refine g_icmp_eq (tgt := 1465) (a := 0) (b := 0) hk dL_law_1460 (by decide) rfl rfl (fun _ => ?_) (fun z9 => absurd (show (0 : Int) = (0 : Int) from by decide) z9)
      exact tail _
    · show GW κ 4 82 21282 (wX q d iX0 aX0 ++ wM r g iM1 aM1 lM1) 1460 [(3, .int 0), (2, .ref (r 0)), (1, .ref (q 0)), (0, .ref b)] [.int (-1000), .int 0]
      exfalso; omega
    · show GW κ 4 82 21282 (wX q d iX0 aX0 ++ wM r g iM1 aM1 lM1) 1460 [(3, .int 0), (2, .ref (r 0)), (1, .ref (q 0)), (0, .ref b)] [.int (-1000), .int 0]
      exfalso; omega
    · show GW κ 4 82 21282 (wX q d iX0 aX0 ++ wM r g iM1 aM1 lM1) 1460 [(3, .int 0), (2, .ref (r 0)), (1, .ref (q 0)), (0, .ref b)] [.int 0, .int 0]
      exfalso; omega
    · show GW κ 4 82 21282 (wX q d iX0 aX0 ++ wM r g iM1 aM1 lM1) 1460 [(3, .int 0), (2, .ref (r 0)), (1, .ref (q 0)), (0, .ref b)] [.int (-1), .int 0]
      exfalso; omega
  · show GW κ 4 82 21282 (wM r g iM1 aM1 lM1 ++ wX q d iX0 aX0) 1451 [(3, .int 0), (2, .ref (r 0)), (1, .ref (q 0)), (0, .ref b)] [.int (-1000)]
    refine g_aload_n hk dL_law_1451 rfl ?_
    refine g_aload_n hk dL_law_1452 rfl ?_
    refine g_iload_n hk dL_law_1453 rfl ?_
    refine g_iconst (v := 1) hk dL_law_1454 (by decide) ?_
    refine g_iadd hk dL_law_1455 ?_
    refine g_norm (v := 1) (by decide) ?_
    refine g_sld (v := xs 1) hk hX (vp_in_iff.mpr ⟨by decide, by show (1 : Int) < (L : Int); omega⟩) rfl dL_law_1456 ?_
    refine g_callV (n := 1) hk (m196_X12_count l D zt g r (xs 1)) (SP.pre _ _) (fun q h => List.mem_append_right _ h) (gi_V zw_1943 zw_1944 zw_1945 zw_115 (gi_sub zi_m196_X12_count zg_m196_X12_count)) rfl rfl rfl (by decide +kernel) ⟨Nat.le_of_ble_eq_true rfl, Nat.le_of_ble_eq_true rfl⟩ 0 rfl rfl rfl rfl (Nat.le_of_ble_eq_true rfl) ⟨Nat.le_of_ble_eq_true rfl, Nat.le_of_ble_eq_true rfl⟩ dL_law_1457 (fun v ty' w' hp hk' => ?_)
    rcases hp with ⟨c5628, rfl, rfl⟩ | ⟨c5629, c5630, rfl, rfl⟩ | ⟨c5631, c5632, c5633, rfl, rfl⟩ | ⟨c5634, c5635, c5636, c5637, rfl, rfl⟩ | ⟨c5638, c5639, c5640, c5641, c5642, rfl, rfl⟩ | ⟨c5643, c5644, c5645, c5646, c5647, c5648, rfl, rfl⟩ | ⟨c5649, c5650, c5651, c5652, c5653, c5654, c5655, rfl, rfl⟩ | ⟨c5656, c5657, c5658, c5659, c5660, c5661, c5662, c5663, rfl, rfl⟩ | ⟨c5664, c5665, c5666, c5667, c5668, c5669, c5670, c5671, c5672, rfl, rfl⟩ | ⟨c5673, c5674, c5675, c5676, c5677, c5678, c5679, c5680, c5681, c5682, rfl, rfl⟩ | ⟨c5683, c5684, c5685, c5686, c5687, c5688, c5689, c5690, c5691, c5692, c5693, rfl, rfl⟩ | ⟨c5694, c5695, c5696, c5697, c5698, c5699, c5700, c5701, c5702, c5703, c5704, c5705, rfl, rfl⟩ | ⟨c5706, c5707, c5708, c5709, c5710, c5711, c5712, c5713, c5714, c5715, c5716, c5717, c5718, rfl, rfl⟩ | ⟨c5719, c5720, c5721, c5722, c5723, c5724, c5725, c5726, c5727, c5728, c5729, c5730, c5731, c5732, rfl, rfl⟩ | ⟨c5733, c5734, c5735, c5736, c5737, c5738, c5739, c5740, c5741, c5742, c5743, c5744, c5745, c5746, c5747, rfl, rfl⟩ | ⟨c5748, c5749, c5750, c5751, c5752, c5753, c5754, c5755, c5756, c5757, c5758, c5759, c5760, c5761, c5762, rfl, rfl⟩
    · show GW κ 4 82 21282 (wX q d iX0 aX0 ++ wM r g iM1 aM1 lM1) 1460 [(3, .int 0), (2, .ref (r 0)), (1, .ref (q 0)), (0, .ref b)] [.int 0, .int (-1000)]
      exfalso; omega
    · show GW κ 4 82 21282 (wX q d iX0 aX0 ++ wM r g iM1 aM1 lM1) 1460 [(3, .int 0), (2, .ref (r 0)), (1, .ref (q 0)), (0, .ref b)] [.int 0, .int (-1000)]
      exfalso; omega
    · show GW κ 4 82 21282 (wX q d iX0 aX0 ++ wM r g iM1 aM1 lM1) 1460 [(3, .int 0), (2, .ref (r 0)), (1, .ref (q 0)), (0, .ref b)] [.int 0, .int (-1000)]
      exfalso; omega
    · show GW κ 4 82 21282 (wX q d iX0 aX0 ++ wM r g iM1 aM1 lM1) 1460 [(3, .int 0), (2, .ref (r 0)), (1, .ref (q 0)), (0, .ref b)] [.int 2, .int (-1000)]
      exfalso; omega
    · show GW κ 4 82 21282 (wX q d iX0 aX0 ++ wM r g iM1 aM1 lM1) 1460 [(3, .int 0), (2, .ref (r 0)), (1, .ref (q 0)), (0, .ref b)] [.int 0, .int (-1000)]
      exfalso; omega
    · show GW κ 4 82 21282 (wX q d iX0 aX0 ++ wM r g iM1 aM1 lM1) 1460 [(3, .int 0), (2, .ref (r 0)), (1, .ref (q 0)), (0, .ref b)] [.int 0, .int (-1000)]
      exfalso; omega
    · show GW κ 4 82 21282 (wX q d iX0 aX0 ++ wM r g iM1 aM1 lM1) 1460 [(3, .int 0), (2, .ref (r 0)), (1, .ref (q 0)), (0, .ref b)] [.int 8, .int (-1000)]
      exfalso; omega
    · show GW κ 4 82 21282 (wX q d iX0 aX0 ++ wM r g iM1 aM1 lM1) 1460 [(3, .int 0), (2, .ref (r 0)), (1, .ref (q 0)), (0, .ref b)] [.int 0, .int (-1000)]
      exfalso; omega
    · show GW κ 4 82 21282 (wX q d iX0 aX0 ++ wM r g iM1 aM1 lM1) 1460 [(3, .int 0), (2, .ref (r 0)), (1, .ref (q 0)), (0, .ref b)] [.int 0, .int (-1000)]
      exfalso; omega
    · show GW κ 4 82 21282 (wX q d iX0 aX0 ++ wM r g iM1 aM1 lM1) 1460 [(3, .int 0), (2, .ref (r 0)), (1, .ref (q 0)), (0, .ref b)] [.int 0, .int (-1000)]
      exfalso; omega
    · show GW κ 4 82 21282 (wX q d iX0 aX0 ++ wM r g iM1 aM1 lM1) 1460 [(3, .int 0), (2, .ref (r 0)), (1, .ref (q 0)), (0, .ref b)] [.int 0, .int (-1000)]
      exfalso; omega
    · show GW κ 4 82 21282 (wX q d iX0 aX0 ++ wM r g iM1 aM1 lM1) 1460 [(3, .int 0), (2, .ref (r 0)), (1, .ref (q 0)), (0, .ref b)] [.int 0, .int (-1000)]
      exfalso; omega
    · show GW κ 4 82 21282 (wX q d iX0 aX0 ++ wM r g iM1 aM1 lM1) 1460 [(3, .int 0), (2, .ref (r 0)), (1, .ref (q 0)), (0, .ref b)] [.int (-1000), .int (-1000)]
      refine g_icmp_eq (tgt := 1465) (a := (-1000)) (b := (-1000)) hk dL_law_1460 (by decide) rfl rfl (fun _ => ?_) (fun z9 => absurd (show ((-1000) : Int) = ((-1000) : Int) from by decide) z9)
      exact tail _
    · show GW κ 4 82 21282 (wX q d iX0 aX0 ++ wM r g iM1 aM1 lM1) 1460 [(3, .int 0), (2, .ref (r 0)), (1, .ref (q 0)), (0, .ref b)] [.int (-1000), .int (-1000)]
      exfalso; omega
    · show GW κ 4 82 21282 (wX q d iX0 aX0 ++ wM r g iM1 aM1 lM1) 1460 [(3, .int 0), (2, .ref (r 0)), (1, .ref (q 0)), (0, .ref b)] [.int 0, .int (-1000)]
      exfalso; omega
    · show GW κ 4 82 21282 (wX q d iX0 aX0 ++ wM r g iM1 aM1 lM1) 1460 [(3, .int 0), (2, .ref (r 0)), (1, .ref (q 0)), (0, .ref b)] [.int (-1), .int (-1000)]
      exfalso; omega
  · show GW κ 4 82 21282 (wM r g iM1 aM1 lM1 ++ wX q d iX0 aX0) 1451 [(3, .int 0), (2, .ref (r 0)), (1, .ref (q 0)), (0, .ref b)] [.int (-1000)]
    refine g_aload_n hk dL_law_1451 rfl ?_
    refine g_aload_n hk dL_law_1452 rfl ?_
    refine g_iload_n hk dL_law_1453 rfl ?_
    refine g_iconst (v := 1) hk dL_law_1454 (by decide) ?_
    refine g_iadd hk dL_law_1455 ?_
    refine g_norm (v := 1) (by decide) ?_
    refine g_sld (v := xs 1) hk hX (vp_in_iff.mpr ⟨by decide, by show (1 : Int) < (L : Int); omega⟩) rfl dL_law_1456 ?_
    refine g_callV (n := 1) hk (m196_X12_count l D zt g r (xs 1)) (SP.pre _ _) (fun q h => List.mem_append_right _ h) (gi_V zw_1943 zw_1944 zw_1945 zw_115 (gi_sub zi_m196_X12_count zg_m196_X12_count)) rfl rfl rfl (by decide +kernel) ⟨Nat.le_of_ble_eq_true rfl, Nat.le_of_ble_eq_true rfl⟩ 0 rfl rfl rfl rfl (Nat.le_of_ble_eq_true rfl) ⟨Nat.le_of_ble_eq_true rfl, Nat.le_of_ble_eq_true rfl⟩ dL_law_1457 (fun v ty' w' hp hk' => ?_)
    rcases hp with ⟨c5763, rfl, rfl⟩ | ⟨c5764, c5765, rfl, rfl⟩ | ⟨c5766, c5767, c5768, rfl, rfl⟩ | ⟨c5769, c5770, c5771, c5772, rfl, rfl⟩ | ⟨c5773, c5774, c5775, c5776, c5777, rfl, rfl⟩ | ⟨c5778, c5779, c5780, c5781, c5782, c5783, rfl, rfl⟩ | ⟨c5784, c5785, c5786, c5787, c5788, c5789, c5790, rfl, rfl⟩ | ⟨c5791, c5792, c5793, c5794, c5795, c5796, c5797, c5798, rfl, rfl⟩ | ⟨c5799, c5800, c5801, c5802, c5803, c5804, c5805, c5806, c5807, rfl, rfl⟩ | ⟨c5808, c5809, c5810, c5811, c5812, c5813, c5814, c5815, c5816, c5817, rfl, rfl⟩ | ⟨c5818, c5819, c5820, c5821, c5822, c5823, c5824, c5825, c5826, c5827, c5828, rfl, rfl⟩ | ⟨c5829, c5830, c5831, c5832, c5833, c5834, c5835, c5836, c5837, c5838, c5839, c5840, rfl, rfl⟩ | ⟨c5841, c5842, c5843, c5844, c5845, c5846, c5847, c5848, c5849, c5850, c5851, c5852, c5853, rfl, rfl⟩ | ⟨c5854, c5855, c5856, c5857, c5858, c5859, c5860, c5861, c5862, c5863, c5864, c5865, c5866, c5867, rfl, rfl⟩ | ⟨c5868, c5869, c5870, c5871, c5872, c5873, c5874, c5875, c5876, c5877, c5878, c5879, c5880, c5881, c5882, rfl, rfl⟩ | ⟨c5883, c5884, c5885, c5886, c5887, c5888, c5889, c5890, c5891, c5892, c5893, c5894, c5895, c5896, c5897, rfl, rfl⟩
    · show GW κ 4 82 21282 (wX q d iX0 aX0 ++ wM r g iM1 aM1 lM1) 1460 [(3, .int 0), (2, .ref (r 0)), (1, .ref (q 0)), (0, .ref b)] [.int 0, .int (-1000)]
      exfalso; omega
    · show GW κ 4 82 21282 (wX q d iX0 aX0 ++ wM r g iM1 aM1 lM1) 1460 [(3, .int 0), (2, .ref (r 0)), (1, .ref (q 0)), (0, .ref b)] [.int 0, .int (-1000)]
      exfalso; omega
    · show GW κ 4 82 21282 (wX q d iX0 aX0 ++ wM r g iM1 aM1 lM1) 1460 [(3, .int 0), (2, .ref (r 0)), (1, .ref (q 0)), (0, .ref b)] [.int 0, .int (-1000)]
      exfalso; omega
    · show GW κ 4 82 21282 (wX q d iX0 aX0 ++ wM r g iM1 aM1 lM1) 1460 [(3, .int 0), (2, .ref (r 0)), (1, .ref (q 0)), (0, .ref b)] [.int 2, .int (-1000)]
      exfalso; omega
    · show GW κ 4 82 21282 (wX q d iX0 aX0 ++ wM r g iM1 aM1 lM1) 1460 [(3, .int 0), (2, .ref (r 0)), (1, .ref (q 0)), (0, .ref b)] [.int 0, .int (-1000)]
      exfalso; omega
    · show GW κ 4 82 21282 (wX q d iX0 aX0 ++ wM r g iM1 aM1 lM1) 1460 [(3, .int 0), (2, .ref (r 0)), (1, .ref (q 0)), (0, .ref b)] [.int 0, .int (-1000)]
      exfalso; omega
    · show GW κ 4 82 21282 (wX q d iX0 aX0 ++ wM r g iM1 aM1 lM1) 1460 [(3, .int 0), (2, .ref (r 0)), (1, .ref (q 0)), (0, .ref b)] [.int 8, .int (-1000)]
      exfalso; omega
    · show GW κ 4 82 21282 (wX q d iX0 aX0 ++ wM r g iM1 aM1 lM1) 1460 [(3, .int 0), (2, .ref (r 0)), (1, .ref (q 0)), (0, .ref b)] [.int 0, .int (-1000)]
      exfalso; omega
    · show GW κ 4 82 21282 (wX q d iX0 aX0 ++ wM r g iM1 aM1 lM1) 1460 [(3, .int 0), (2, .ref (r 0)), (1, .ref (q 0)), (0, .ref b)] [.int 0, .int (-1000)]
      exfalso; omega
    · show GW κ 4 82 21282 (wX q d iX0 aX0 ++ wM r g iM1 aM1 lM1) 1460 [(3, .int 0), (2, .ref (r 0)), (1, .ref (q 0)), (0, .ref b)] [.int 0, .int (-1000)]
      exfalso; omega
    · show GW κ 4 82 21282 (wX q d iX0 aX0 ++ wM r g iM1 aM1 lM1) 1460 [(3, .int 0), (2, .ref (r 0)), (1, .ref (q 0)), (0, .ref b)] [.int 0, .int (-1000)]
      exfalso; omega
    · show GW κ 4 82 21282 (wX q d iX0 aX0 ++ wM r g iM1 aM1 lM1) 1460 [(3, .int 0), (2, .ref (r 0)), (1, .ref (q 0)), (0, .ref b)] [.int 0, .int (-1000)]
      exfalso; omega
    · show GW κ 4 82 21282 (wX q d iX0 aX0 ++ wM r g iM1 aM1 lM1) 1460 [(3, .int 0), (2, .ref (r 0)), (1, .ref (q 0)), (0, .ref b)] [.int (-1000), .int (-1000)]
      exfalso; omega
    · show GW κ 4 82 21282 (wX q d iX0 aX0 ++ wM r g iM1 aM1 lM1) 1460 [(3, .int 0), (2, .ref (r 0)), (1, .ref (q 0)), (0, .ref b)] [.int (-1000), .int (-1000)]
      refine g_icmp_eq (tgt := 1465) (a := (-1000)) (b := (-1000)) hk dL_law_1460 (by decide) rfl rfl (fun _ => ?_) (fun z9 => absurd (show ((-1000) : Int) = ((-1000) : Int) from by decide) z9)
      exact tail _
    · show GW κ 4 82 21282 (wX q d iX0 aX0 ++ wM r g iM1 aM1 lM1) 1460 [(3, .int 0), (2, .ref (r 0)), (1, .ref (q 0)), (0, .ref b)] [.int 0, .int (-1000)]
      exfalso; omega
    · show GW κ 4 82 21282 (wX q d iX0 aX0 ++ wM r g iM1 aM1 lM1) 1460 [(3, .int 0), (2, .ref (r 0)), (1, .ref (q 0)), (0, .ref b)] [.int (-1), .int (-1000)]
      exfalso; omega
  · show GW κ 4 82 21282 (wM r g iM1 aM1 lM1 ++ wX q d iX0 aX0) 1451 [(3, .int 0), (2, .ref (r 0)), (1, .ref (q 0)), (0, .ref b)] [.int 0]
    refine g_aload_n hk dL_law_1451 rfl ?_
    refine g_aload_n hk dL_law_1452 rfl ?_
    refine g_iload_n hk dL_law_1453 rfl ?_
    refine g_iconst (v := 1) hk dL_law_1454 (by decide) ?_
    refine g_iadd hk dL_law_1455 ?_
    refine g_norm (v := 1) (by decide) ?_
    refine g_sld (v := xs 1) hk hX (vp_in_iff.mpr ⟨by decide, by show (1 : Int) < (L : Int); omega⟩) rfl dL_law_1456 ?_
    refine g_callV (n := 1) hk (m196_X12_count l D zt g r (xs 1)) (SP.pre _ _) (fun q h => List.mem_append_right _ h) (gi_V zw_1943 zw_1944 zw_1945 zw_115 (gi_sub zi_m196_X12_count zg_m196_X12_count)) rfl rfl rfl (by decide +kernel) ⟨Nat.le_of_ble_eq_true rfl, Nat.le_of_ble_eq_true rfl⟩ 0 rfl rfl rfl rfl (Nat.le_of_ble_eq_true rfl) ⟨Nat.le_of_ble_eq_true rfl, Nat.le_of_ble_eq_true rfl⟩ dL_law_1457 (fun v ty' w' hp hk' => ?_)
    rcases hp with ⟨c5898, rfl, rfl⟩ | ⟨c5899, c5900, rfl, rfl⟩ | ⟨c5901, c5902, c5903, rfl, rfl⟩ | ⟨c5904, c5905, c5906, c5907, rfl, rfl⟩ | ⟨c5908, c5909, c5910, c5911, c5912, rfl, rfl⟩ | ⟨c5913, c5914, c5915, c5916, c5917, c5918, rfl, rfl⟩ | ⟨c5919, c5920, c5921, c5922, c5923, c5924, c5925, rfl, rfl⟩ | ⟨c5926, c5927, c5928, c5929, c5930, c5931, c5932, c5933, rfl, rfl⟩ | ⟨c5934, c5935, c5936, c5937, c5938, c5939, c5940, c5941, c5942, rfl, rfl⟩ | ⟨c5943, c5944, c5945, c5946, c5947, c5948, c5949, c5950, c5951, c5952, rfl, rfl⟩ | ⟨c5953, c5954, c5955, c5956, c5957, c5958, c5959, c5960, c5961, c5962, c5963, rfl, rfl⟩ | ⟨c5964, c5965, c5966, c5967, c5968, c5969, c5970, c5971, c5972, c5973, c5974, c5975, rfl, rfl⟩ | ⟨c5976, c5977, c5978, c5979, c5980, c5981, c5982, c5983, c5984, c5985, c5986, c5987, c5988, rfl, rfl⟩ | ⟨c5989, c5990, c5991, c5992, c5993, c5994, c5995, c5996, c5997, c5998, c5999, c6000, c6001, c6002, rfl, rfl⟩ | ⟨c6003, c6004, c6005, c6006, c6007, c6008, c6009, c6010, c6011, c6012, c6013, c6014, c6015, c6016, c6017, rfl, rfl⟩ | ⟨c6018, c6019, c6020, c6021, c6022, c6023, c6024, c6025, c6026, c6027, c6028, c6029, c6030, c6031, c6032, rfl, rfl⟩
    · show GW κ 4 82 21282 (wX q d iX0 aX0 ++ wM r g iM1 aM1 lM1) 1460 [(3, .int 0), (2, .ref (r 0)), (1, .ref (q 0)), (0, .ref b)] [.int 0, .int 0]
      exfalso; omega
    · show GW κ 4 82 21282 (wX q d iX0 aX0 ++ wM r g iM1 aM1 lM1) 1460 [(3, .int 0), (2, .ref (r 0)), (1, .ref (q 0)), (0, .ref b)] [.int 0, .int 0]
      exfalso; omega
    · show GW κ 4 82 21282 (wX q d iX0 aX0 ++ wM r g iM1 aM1 lM1) 1460 [(3, .int 0), (2, .ref (r 0)), (1, .ref (q 0)), (0, .ref b)] [.int 0, .int 0]
      exfalso; omega
    · show GW κ 4 82 21282 (wX q d iX0 aX0 ++ wM r g iM1 aM1 lM1) 1460 [(3, .int 0), (2, .ref (r 0)), (1, .ref (q 0)), (0, .ref b)] [.int 2, .int 0]
      exfalso; omega
    · show GW κ 4 82 21282 (wX q d iX0 aX0 ++ wM r g iM1 aM1 lM1) 1460 [(3, .int 0), (2, .ref (r 0)), (1, .ref (q 0)), (0, .ref b)] [.int 0, .int 0]
      exfalso; omega
    · show GW κ 4 82 21282 (wX q d iX0 aX0 ++ wM r g iM1 aM1 lM1) 1460 [(3, .int 0), (2, .ref (r 0)), (1, .ref (q 0)), (0, .ref b)] [.int 0, .int 0]
      exfalso; omega
    · show GW κ 4 82 21282 (wX q d iX0 aX0 ++ wM r g iM1 aM1 lM1) 1460 [(3, .int 0), (2, .ref (r 0)), (1, .ref (q 0)), (0, .ref b)] [.int 8, .int 0]
      exfalso; omega
    · show GW κ 4 82 21282 (wX q d iX0 aX0 ++ wM r g iM1 aM1 lM1) 1460 [(3, .int 0), (2, .ref (r 0)), (1, .ref (q 0)), (0, .ref b)] [.int 0, .int 0]
      exfalso; omega
    · show GW κ 4 82 21282 (wX q d iX0 aX0 ++ wM r g iM1 aM1 lM1) 1460 [(3, .int 0), (2, .ref (r 0)), (1, .ref (q 0)), (0, .ref b)] [.int 0, .int 0]
      exfalso; omega
    · show GW κ 4 82 21282 (wX q d iX0 aX0 ++ wM r g iM1 aM1 lM1) 1460 [(3, .int 0), (2, .ref (r 0)), (1, .ref (q 0)), (0, .ref b)] [.int 0, .int 0]
      exfalso; omega
    · show GW κ 4 82 21282 (wX q d iX0 aX0 ++ wM r g iM1 aM1 lM1) 1460 [(3, .int 0), (2, .ref (r 0)), (1, .ref (q 0)), (0, .ref b)] [.int 0, .int 0]
      exfalso; omega
    · show GW κ 4 82 21282 (wX q d iX0 aX0 ++ wM r g iM1 aM1 lM1) 1460 [(3, .int 0), (2, .ref (r 0)), (1, .ref (q 0)), (0, .ref b)] [.int 0, .int 0]
      exfalso; omega
    · show GW κ 4 82 21282 (wX q d iX0 aX0 ++ wM r g iM1 aM1 lM1) 1460 [(3, .int 0), (2, .ref (r 0)), (1, .ref (q 0)), (0, .ref b)] [.int (-1000), .int 0]
      exfalso; omega
    · show GW κ 4 82 21282 (wX q d iX0 aX0 ++ wM r g iM1 aM1 lM1) 1460 [(3, .int 0), (2, .ref (r 0)), (1, .ref (q 0)), (0, .ref b)] [.int (-1000), .int 0]
      exfalso; omega
    · show GW κ 4 82 21282 (wX q d iX0 aX0 ++ wM r g iM1 aM1 lM1) 1460 [(3, .int 0), (2, .ref (r 0)), (1, .ref (q 0)), (0, .ref b)] [.int 0, .int 0]
      refine g_icmp_eq (tgt := 1465) (a := 0) (b := 0) hk dL_law_1460 (by decide) rfl rfl (fun _ => ?_) (fun z9 => absurd (show (0 : Int) = (0 : Int) from by decide) z9)
      exact tail _
    · show GW κ 4 82 21282 (wX q d iX0 aX0 ++ wM r g iM1 aM1 lM1) 1460 [(3, .int 0), (2, .ref (r 0)), (1, .ref (q 0)), (0, .ref b)] [.int (-1), .int 0]
      exfalso; omega
  · show GW κ 4 82 21282 (wM r g iM1 aM1 lM1 ++ wX q d iX0 aX0) 1451 [(3, .int 0), (2, .ref (r 0)), (1, .ref (q 0)), (0, .ref b)] [.int (-1)]
    refine g_aload_n hk dL_law_1451 rfl ?_
    refine g_aload_n hk dL_law_1452 rfl ?_
    refine g_iload_n hk dL_law_1453 rfl ?_
    refine g_iconst (v := 1) hk dL_law_1454 (by decide) ?_
    refine g_iadd hk dL_law_1455 ?_
    refine g_norm (v := 1) (by decide) ?_
    refine g_sld (v := xs 1) hk hX (vp_in_iff.mpr ⟨by decide, by show (1 : Int) < (L : Int); omega⟩) rfl dL_law_1456 ?_
    refine g_callV (n := 1) hk (m196_X12_count l D zt g r (xs 1)) (SP.pre _ _) (fun q h => List.mem_append_right _ h) (gi_V zw_1943 zw_1944 zw_1945 zw_115 (gi_sub zi_m196_X12_count zg_m196_X12_count)) rfl rfl rfl (by decide +kernel) ⟨Nat.le_of_ble_eq_true rfl, Nat.le_of_ble_eq_true rfl⟩ 0 rfl rfl rfl rfl (Nat.le_of_ble_eq_true rfl) ⟨Nat.le_of_ble_eq_true rfl, Nat.le_of_ble_eq_true rfl⟩ dL_law_1457 (fun v ty' w' hp hk' => ?_)
    rcases hp with ⟨c6033, rfl, rfl⟩ | ⟨c6034, c6035, rfl, rfl⟩ | ⟨c6036, c6037, c6038, rfl, rfl⟩ | ⟨c6039, c6040, c6041, c6042, rfl, rfl⟩ | ⟨c6043, c6044, c6045, c6046, c6047, rfl, rfl⟩ | ⟨c6048, c6049, c6050, c6051, c6052, c6053, rfl, rfl⟩ | ⟨c6054, c6055, c6056, c6057, c6058, c6059, c6060, rfl, rfl⟩ | ⟨c6061, c6062, c6063, c6064, c6065, c6066, c6067, c6068, rfl, rfl⟩ | ⟨c6069, c6070, c6071, c6072, c6073, c6074, c6075, c6076, c6077, rfl, rfl⟩ | ⟨c6078, c6079, c6080, c6081, c6082, c6083, c6084, c6085, c6086, c6087, rfl, rfl⟩ | ⟨c6088, c6089, c6090, c6091, c6092, c6093, c6094, c6095, c6096, c6097, c6098, rfl, rfl⟩ | ⟨c6099, c6100, c6101, c6102, c6103, c6104, c6105, c6106, c6107, c6108, c6109, c6110, rfl, rfl⟩ | ⟨c6111, c6112, c6113, c6114, c6115, c6116, c6117, c6118, c6119, c6120, c6121, c6122, c6123, rfl, rfl⟩ | ⟨c6124, c6125, c6126, c6127, c6128, c6129, c6130, c6131, c6132, c6133, c6134, c6135, c6136, c6137, rfl, rfl⟩ | ⟨c6138, c6139, c6140, c6141, c6142, c6143, c6144, c6145, c6146, c6147, c6148, c6149, c6150, c6151, c6152, rfl, rfl⟩ | ⟨c6153, c6154, c6155, c6156, c6157, c6158, c6159, c6160, c6161, c6162, c6163, c6164, c6165, c6166, c6167, rfl, rfl⟩
    · show GW κ 4 82 21282 (wX q d iX0 aX0 ++ wM r g iM1 aM1 lM1) 1460 [(3, .int 0), (2, .ref (r 0)), (1, .ref (q 0)), (0, .ref b)] [.int 0, .int (-1)]
      exfalso; omega
    · show GW κ 4 82 21282 (wX q d iX0 aX0 ++ wM r g iM1 aM1 lM1) 1460 [(3, .int 0), (2, .ref (r 0)), (1, .ref (q 0)), (0, .ref b)] [.int 0, .int (-1)]
      exfalso; omega
    · show GW κ 4 82 21282 (wX q d iX0 aX0 ++ wM r g iM1 aM1 lM1) 1460 [(3, .int 0), (2, .ref (r 0)), (1, .ref (q 0)), (0, .ref b)] [.int 0, .int (-1)]
      exfalso; omega
    · show GW κ 4 82 21282 (wX q d iX0 aX0 ++ wM r g iM1 aM1 lM1) 1460 [(3, .int 0), (2, .ref (r 0)), (1, .ref (q 0)), (0, .ref b)] [.int 2, .int (-1)]
      exfalso; omega
    · show GW κ 4 82 21282 (wX q d iX0 aX0 ++ wM r g iM1 aM1 lM1) 1460 [(3, .int 0), (2, .ref (r 0)), (1, .ref (q 0)), (0, .ref b)] [.int 0, .int (-1)]
      exfalso; omega
    · show GW κ 4 82 21282 (wX q d iX0 aX0 ++ wM r g iM1 aM1 lM1) 1460 [(3, .int 0), (2, .ref (r 0)), (1, .ref (q 0)), (0, .ref b)] [.int 0, .int (-1)]
      exfalso; omega
    · show GW κ 4 82 21282 (wX q d iX0 aX0 ++ wM r g iM1 aM1 lM1) 1460 [(3, .int 0), (2, .ref (r 0)), (1, .ref (q 0)), (0, .ref b)] [.int 8, .int (-1)]
      exfalso; omega
    · show GW κ 4 82 21282 (wX q d iX0 aX0 ++ wM r g iM1 aM1 lM1) 1460 [(3, .int 0), (2, .ref (r 0)), (1, .ref (q 0)), (0, .ref b)] [.int 0, .int (-1)]
      exfalso; omega
    · show GW κ 4 82 21282 (wX q d iX0 aX0 ++ wM r g iM1 aM1 lM1) 1460 [(3, .int 0), (2, .ref (r 0)), (1, .ref (q 0)), (0, .ref b)] [.int 0, .int (-1)]
      exfalso; omega
    · show GW κ 4 82 21282 (wX q d iX0 aX0 ++ wM r g iM1 aM1 lM1) 1460 [(3, .int 0), (2, .ref (r 0)), (1, .ref (q 0)), (0, .ref b)] [.int 0, .int (-1)]
      exfalso; omega
    · show GW κ 4 82 21282 (wX q d iX0 aX0 ++ wM r g iM1 aM1 lM1) 1460 [(3, .int 0), (2, .ref (r 0)), (1, .ref (q 0)), (0, .ref b)] [.int 0, .int (-1)]
      exfalso; omega
    · show GW κ 4 82 21282 (wX q d iX0 aX0 ++ wM r g iM1 aM1 lM1) 1460 [(3, .int 0), (2, .ref (r 0)), (1, .ref (q 0)), (0, .ref b)] [.int 0, .int (-1)]
      exfalso; omega
    · show GW κ 4 82 21282 (wX q d iX0 aX0 ++ wM r g iM1 aM1 lM1) 1460 [(3, .int 0), (2, .ref (r 0)), (1, .ref (q 0)), (0, .ref b)] [.int (-1000), .int (-1)]
      exfalso; omega
    · show GW κ 4 82 21282 (wX q d iX0 aX0 ++ wM r g iM1 aM1 lM1) 1460 [(3, .int 0), (2, .ref (r 0)), (1, .ref (q 0)), (0, .ref b)] [.int (-1000), .int (-1)]
      exfalso; omega
    · show GW κ 4 82 21282 (wX q d iX0 aX0 ++ wM r g iM1 aM1 lM1) 1460 [(3, .int 0), (2, .ref (r 0)), (1, .ref (q 0)), (0, .ref b)] [.int 0, .int (-1)]
      exfalso; omega
    · show GW κ 4 82 21282 (wX q d iX0 aX0 ++ wM r g iM1 aM1 lM1) 1460 [(3, .int 0), (2, .ref (r 0)), (1, .ref (q 0)), (0, .ref b)] [.int (-1), .int (-1)]
      refine g_icmp_eq (tgt := 1465) (a := (-1)) (b := (-1)) hk dL_law_1460 (by decide) rfl rfl (fun _ => ?_) (fun z9 => absurd (show ((-1) : Int) = ((-1) : Int) from by decide) z9)
      exact tail _
