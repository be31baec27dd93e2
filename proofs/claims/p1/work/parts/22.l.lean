set_option maxHeartbeats 4000000 in
set_option maxRecDepth 100000 in
theorem law_40 {κ : Cx} {l : Launch} {D : va_G} {zt : Nat × Nat × Nat} {q r : Nat → Nat} {d g : Nat → ClassId} {b L : Nat} {xs : Nat → Int32} (hk : GC κ l D zt code 4 RL wsL_law (tyX d ++ tyM g) room_1) (hX : GX κ b L xs) (hL6 : L = 6) (tail : ∀ ws, GW κ 4 82 21282 ws 1465 [(3, .int 0), (2, .ref (r 0)), (1, .ref (q 0)), (0, .ref b)] []) : GW κ 4 82 21282 (wX q d iX0 aX0 ++ wM r g iM1 aM1 lM1) 1442 [(3, .int 0), (2, .ref (r 0)), (1, .ref (q 0)), (0, .ref b)] [] := by
  refine g_aload_n hk dL_law_1442 rfl ?_
  refine g_aload_n hk dL_law_1443 rfl ?_
  refine g_iload_n hk dL_law_1444 rfl ?_
  refine g_iconst (v := 1) hk dL_law_1445 (by decide) ?_
  refine g_iadd hk dL_law_1446 ?_
  refine g_norm (v := 1) (by decide) ?_
  refine g_sld (v := xs 1) hk hX (vp_in_iff.mpr ⟨by decide, by show (1 : Int) < (L : Int); omega⟩) rfl dL_law_1447 ?_
  refine g_callV hk (m327_X11_count l D zt d q (xs 1)) (SP.pre _ _) (fun q h => List.mem_append_left _ h) gL_law_X11_count rfl rfl rfl (by decide +kernel) ⟨Nat.le_of_ble_eq_true rfl, Nat.le_of_ble_eq_true rfl⟩ 0 rfl rfl rfl rfl (Nat.le_of_ble_eq_true rfl) ⟨Nat.le_of_ble_eq_true rfl, Nat.le_of_ble_eq_true rfl⟩ dL_law_1448 (fun v ty' w' hp hk' => ?_)
  rcases hp with ⟨c3612, rfl, rfl⟩ | ⟨c3613, c3614, rfl, rfl⟩ | ⟨c3615, c3616, c3617, rfl, rfl⟩ | ⟨c3618, c3619, c3620, c3621, rfl, rfl⟩ | ⟨c3622, c3623, c3624, c3625, c3626, rfl, rfl⟩ | ⟨c3627, c3628, c3629, c3630, c3631, c3632, rfl, rfl⟩ | ⟨c3633, c3634, c3635, c3636, c3637, c3638, c3639, rfl, rfl⟩ | ⟨c3640, c3641, c3642, c3643, c3644, c3645, c3646, c3647, rfl, rfl⟩ | ⟨c3648, c3649, c3650, c3651, c3652, c3653, c3654, c3655, c3656, rfl, rfl⟩ | ⟨c3657, c3658, c3659, c3660, c3661, c3662, c3663, c3664, c3665, c3666, rfl, rfl⟩ | ⟨c3667, c3668, c3669, c3670, c3671, c3672, c3673, c3674, c3675, c3676, c3677, rfl, rfl⟩ | ⟨c3678, c3679, c3680, c3681, c3682, c3683, c3684, c3685, c3686, c3687, c3688, c3689, rfl, rfl⟩ | ⟨c3690, c3691, c3692, c3693, c3694, c3695, c3696, c3697, c3698, c3699, c3700, c3701, c3702, rfl, rfl⟩ | ⟨c3703, c3704, c3705, c3706, c3707, c3708, c3709, c3710, c3711, c3712, c3713, c3714, c3715, c3716, rfl, rfl⟩ | ⟨c3717, c3718, c3719, c3720, c3721, c3722, c3723, c3724, c3725, c3726, c3727, c3728, c3729, c3730, c3731, rfl, rfl⟩ | ⟨c3732, c3733, c3734, c3735, c3736, c3737, c3738, c3739, c3740, c3741, c3742, c3743, c3744, c3745, c3746, rfl, rfl⟩
  · show GW κ 4 82 21282 (wM r g iM1 aM1 lM1 ++ wX q d iX0 aX0) 1451 [(3, .int 0), (2, .ref (r 0)), (1, .ref (q 0)), (0, .ref b)] [.int 0]
    refine g_aload_n hk dL_law_1451 rfl ?_
    refine g_aload_n hk dL_law_1452 rfl ?_
    refine g_iload_n hk dL_law_1453 rfl ?_
    refine g_iconst (v := 1) hk dL_law_1454 (by decide) ?_
    refine g_iadd hk dL_law_1455 ?_
    refine g_norm (v := 1) (by decide) ?_
    refine g_sld (v := xs 1) hk hX (vp_in_iff.mpr ⟨by decide, by show (1 : Int) < (L : Int); omega⟩) rfl dL_law_1456 ?_
    refine g_callV hk (m203_X12_count l D zt g r (xs 1)) (SP.pre _ _) (fun q h => List.mem_append_right _ h) gL_law_X12_count rfl rfl rfl (by decide +kernel) ⟨Nat.le_of_ble_eq_true rfl, Nat.le_of_ble_eq_true rfl⟩ 0 rfl rfl rfl rfl (Nat.le_of_ble_eq_true rfl) ⟨Nat.le_of_ble_eq_true rfl, Nat.le_of_ble_eq_true rfl⟩ dL_law_1457 (fun v ty' w' hp hk' => ?_)
    rcases hp with ⟨c3747, rfl, rfl⟩ | ⟨c3748, c3749, rfl, rfl⟩ | ⟨c3750, c3751, c3752, rfl, rfl⟩ | ⟨c3753, c3754, c3755, c3756, rfl, rfl⟩ | ⟨c3757, c3758, c3759, c3760, c3761, rfl, rfl⟩ | ⟨c3762, c3763, c3764, c3765, c3766, c3767, rfl, rfl⟩ | ⟨c3768, c3769, c3770, c3771, c3772, c3773, c3774, rfl, rfl⟩ | ⟨c3775, c3776, c3777, c3778, c3779, c3780, c3781, c3782, rfl, rfl⟩ | ⟨c3783, c3784, c3785, c3786, c3787, c3788, c3789, c3790, c3791, rfl, rfl⟩ | ⟨c3792, c3793, c3794, c3795, c3796, c3797, c3798, c3799, c3800, c3801, rfl, rfl⟩ | ⟨c3802, c3803, c3804, c3805, c3806, c3807, c3808, c3809, c3810, c3811, c3812, rfl, rfl⟩ | ⟨c3813, c3814, c3815, c3816, c3817, c3818, c3819, c3820, c3821, c3822, c3823, c3824, rfl, rfl⟩ | ⟨c3825, c3826, c3827, c3828, c3829, c3830, c3831, c3832, c3833, c3834, c3835, c3836, c3837, rfl, rfl⟩ | ⟨c3838, c3839, c3840, c3841, c3842, c3843, c3844, c3845, c3846, c3847, c3848, c3849, c3850, c3851, rfl, rfl⟩ | ⟨c3852, c3853, c3854, c3855, c3856, c3857, c3858, c3859, c3860, c3861, c3862, c3863, c3864, c3865, c3866, rfl, rfl⟩ | ⟨c3867, c3868, c3869, c3870, c3871, c3872, c3873, c3874, c3875, c3876, c3877, c3878, c3879, c3880, c3881, rfl, rfl⟩
    · show GW κ 4 82 21282 (wX q d iX0 aX0 ++ wM r g iM1 aM1 lM1) 1460 [(3, .int 0), (2, .ref (r 0)), (1, .ref (q 0)), (0, .ref b)] [.int 0, .int 0]
      refine g_icmp_eq (tgt := 1465) (a := 0) (b := 0) hk dL_law_1460 (by decide) rfl rfl (fun _ => ?_) (fun z9 => absurd (show 0 = 0 from by decide) z9)
      exact tail _
    · show GW κ 4 82 21282 (wX q d iX0 aX0 ++ wM r g iM1 aM1 lM1) 1460 [(3, .int 0), (2, .ref (r 0)), (1, .ref (q 0)), (0, .ref b)] [.int 0, .int 0]
      exfalso; omega
    · show GW κ 4 82 21282 (wX q d iX0 aX0 ++ wM r g iM1 aM1 lM1) 1460 [(3, .int 0), (2, .ref (r 0)), (1, .ref (q 0)), (0, .ref b)] [.int 0, .int 0]
      exfalso; omega
    · show GW κ 4 82 21282 (wX q d iX0 aX0 ++ wM r g iM1 aM1 lM1) 1460 [(3, .int 0), (2, .ref (r 0)), (1, .ref (q 0)), (0, .ref b)] [.int 2, .int 0]
      exfalso; omega
    · show GW κ 4 82 21282 (wX q d iX0 aX0 ++ wM r g iM1 aM1 lM1) 1460 [(3, .int 0), (2, .ref (r 0)), (1, .ref (q 0)), (0, .ref b)] [.int 0, .int 0]
      exfalso; omega
    · show GW κ 4 82 21282 (wX q d iX0 aX0 ++ wM r g iM1 aM1 lM1) 1460 [(3, .int 0), (2, .ref (r 0)), (1, .ref (q 0)), (0, .ref b)] [.int 0, .int 0]
      exfalso; omega
    · show GW κ 4 82 21282 (wX q d iX0 aX0 ++ wM r g iM1 aM1 lM1) 1460 [(3, .int 0), (2, .ref (r 0)), (1, .ref (q 0)), (0, .ref b)] [.int 8, .int 0]
      exfalso; omega
    · show GW κ 4 82 21282 (wX q d iX0 aX0 ++ wM r g iM1 aM1 lM1) 1460 [(3, .int 0), (2, .ref (r 0)), (1, .ref (q 0)), (0, .ref b)] [.int 0, .int 0]
      exfalso; omega
    · show GW κ 4 82 21282 (wX q d iX0 aX0 ++ wM r g iM1 aM1 lM1) 1460 [(3, .int 0), (2, .ref (r 0)), (1, .ref (q 0)), (0, .ref b)] [.int 0, .int 0]
      exfalso; omega
    · show GW κ 4 82 21282 (wX q d iX0 aX0 ++ wM r g iM1 aM1 lM1) 1460 [(3, .int 0), (2, .ref (r 0)), (1, .ref (q 0)), (0, .ref b)] [.int 0, .int 0]
      exfalso; omega
    · show GW κ 4 82 21282 (wX q d iX0 aX0 ++ wM r g iM1 aM1 lM1) 1460 [(3, .int 0), (2, .ref (r 0)), (1, .ref (q 0)), (0, .ref b)] [.int 0, .int 0]
      exfalso; omega
    · show GW κ 4 82 21282 (wX q d iX0 aX0 ++ wM r g iM1 aM1 lM1) 1460 [(3, .int 0), (2, .ref (r 0)), (1, .ref (q 0)), (0, .ref b)] [.int 0, .int 0]
      exfalso; omega
    · show GW κ 4 82 21282 (wX q d iX0 aX0 ++ wM r g iM1 aM1 lM1) 1460 [(3, .int 0), (2, .ref (r 0)), (1, .ref (q 0)), (0, .ref b)] [.int (-1000), .int 0]
      exfalso; omega
    · show GW κ 4 82 21282 (wX q d iX0 aX0 ++ wM r g iM1 aM1 lM1) 1460 [(3, .int 0), (2, .ref (r 0)), (1, .ref (q 0)), (0, .ref b)] [.int (-1000), .int 0]
      exfalso; omega
    · show GW κ 4 82 21282 (wX q d iX0 aX0 ++ wM r g iM1 aM1 lM1) 1460 [(3, .int 0), (2, .ref (r 0)), (1, .ref (q 0)), (0, .ref b)] [.int 0, .int 0]
      exfalso; omega
    · show GW κ 4 82 21282 (wX q d iX0 aX0 ++ wM r g iM1 aM1 lM1) 1460 [(3, .int 0), (2, .ref (r 0)), (1, .ref (q 0)), (0, .ref b)] [.int (-1), .int 0]
      exfalso; omega
  · show GW κ 4 82 21282 (wM r g iM1 aM1 lM1 ++ wX q d iX0 aX0) 1451 [(3, .int 0), (2, .ref (r 0)), (1, .ref (q 0)), (0, .ref b)] [.int 0]
    refine g_aload_n hk dL_law_1451 rfl ?_
    refine g_aload_n hk dL_law_1452 rfl ?_
    refine g_iload_n hk dL_law_1453 rfl ?_
    refine g_iconst (v := 1) hk dL_law_1454 (by decide) ?_
    refine g_iadd hk dL_law_1455 ?_
    refine g_norm (v := 1) (by decide) ?_
    refine g_sld (v := xs 1) hk hX (vp_in_iff.mpr ⟨by decide, by show (1 : Int) < (L : Int); omega⟩) rfl dL_law_1456 ?_
    refine g_callV hk (m203_X12_count l D zt g r (xs 1)) (SP.pre _ _) (fun q h => List.mem_append_right _ h) gL_law_X12_count rfl rfl rfl (by decide +kernel) ⟨Nat.le_of_ble_eq_true rfl, Nat.le_of_ble_eq_true rfl⟩ 0 rfl rfl rfl rfl (Nat.le_of_ble_eq_true rfl) ⟨Nat.le_of_ble_eq_true rfl, Nat.le_of_ble_eq_true rfl⟩ dL_law_1457 (fun v ty' w' hp hk' => ?_)
    rcases hp with ⟨c3882, rfl, rfl⟩ | ⟨c3883, c3884, rfl, rfl⟩ | ⟨c3885, c3886, c3887, rfl, rfl⟩ | ⟨c3888, c3889, c3890, c3891, rfl, rfl⟩ | ⟨c3892, c3893, c3894, c3895, c3896, rfl, rfl⟩ | ⟨c3897, c3898, c3899, c3900, c3901, c3902, rfl, rfl⟩ | ⟨c3903, c3904, c3905, c3906, c3907, c3908, c3909, rfl, rfl⟩ | ⟨c3910, c3911, c3912, c3913, c3914, c3915, c3916, c3917, rfl, rfl⟩ | ⟨c3918, c3919, c3920, c3921, c3922, c3923, c3924, c3925, c3926, rfl, rfl⟩ | ⟨c3927, c3928, c3929, c3930, c3931, c3932, c3933, c3934, c3935, c3936, rfl, rfl⟩ | ⟨c3937, c3938, c3939, c3940, c3941, c3942, c3943, c3944, c3945, c3946, c3947, rfl, rfl⟩ | ⟨c3948, c3949, c3950, c3951, c3952, c3953, c3954, c3955, c3956, c3957, c3958, c3959, rfl, rfl⟩ | ⟨c3960, c3961, c3962, c3963, c3964, c3965, c3966, c3967, c3968, c3969, c3970, c3971, c3972, rfl, rfl⟩ | ⟨c3973, c3974, c3975, c3976, c3977, c3978, c3979, c3980, c3981, c3982, c3983, c3984, c3985, c3986, rfl, rfl⟩ | ⟨c3987, c3988, c3989, c3990, c3991, c3992, c3993, c3994, c3995, c3996, c3997, c3998, c3999, c4000, c4001, rfl, rfl⟩ | ⟨c4002, c4003, c4004, c4005, c4006, c4007, c4008, c4009, c4010, c4011, c4012, c4013, c4014, c4015, c4016, rfl, rfl⟩
    · show GW κ 4 82 21282 (wX q d iX0 aX0 ++ wM r g iM1 aM1 lM1) 1460 [(3, .int 0), (2, .ref (r 0)), (1, .ref (q 0)), (0, .ref b)] [.int 0, .int 0]
      exfalso; omega
    · show GW κ 4 82 21282 (wX q d iX0 aX0 ++ wM r g iM1 aM1 lM1) 1460 [(3, .int 0), (2, .ref (r 0)), (1, .ref (q 0)), (0, .ref b)] [.int 0, .int 0]
      refine g_icmp_eq (tgt := 1465) (a := 0) (b := 0) hk dL_law_1460 (by decide) rfl rfl (fun _ => ?_) (fun z9 => absurd (show 0 = 0 from by decide) z9)
      exact tail _
    · show GW κ 4 82 21282 (wX q d iX0 aX0 ++ wM r g iM1 aM1 lM1) 1460 [(3, .int 0), (2, .ref (r 0)), (1, .ref (q 0)), (0, .ref b)] [.int 0, .int 0]
      exfalso; omega
    · show GW κ 4 82 21282 (wX q d iX0 aX0 ++ wM r g iM1 aM1 lM1) 1460 [(3, .int 0), (2, .ref (r 0)), (1, .ref (q 0)), (0, .ref b)] [.int 2, .int 0]
      exfalso; omega
    · show GW κ 4 82 21282 (wX q d iX0 aX0 ++ wM r g iM1 aM1 lM1) 1460 [(3, .int 0), (2, .ref (r 0)), (1, .ref (q 0)), (0, .ref b)] [.int 0, .int 0]
      exfalso; omega
    · show GW κ 4 82 21282 (wX q d iX0 aX0 ++ wM r g iM1 aM1 lM1) 1460 [(3, .int 0), (2, .ref (r 0)), (1, .ref (q 0)), (0, .ref b)] [.int 0, .int 0]
      exfalso; omega
    · show GW κ 4 82 21282 (wX q d iX0 aX0 ++ wM r g iM1 aM1 lM1) 1460 [(3, .int 0), (2, .ref (r 0)), (1, .ref (q 0)), (0, .ref b)] [.int 8, .int 0]
      exfalso; omega
    · show GW κ 4 82 21282 (wX q d iX0 aX0 ++ wM r g iM1 aM1 lM1) 1460 [(3, .int 0), (2, .ref (r 0)), (1, .ref (q 0)), (0, .ref b)] [.int 0, .int 0]
      exfalso; omega
    · show GW κ 4 82 21282 (wX q d iX0 aX0 ++ wM r g iM1 aM1 lM1) 1460 [(3, .int 0), (2, .ref (r 0)), (1, .ref (q 0)), (0, .ref b)] [.int 0, .int 0]
      exfalso; omega
    · show GW κ 4 82 21282 (wX q d iX0 aX0 ++ wM r g iM1 aM1 lM1) 1460 [(3, .int 0), (2, .ref (r 0)), (1, .ref (q 0)), (0, .ref b)] [.int 0, .int 0]
      exfalso; omega
    · show GW κ 4 82 21282 (wX q d iX0 aX0 ++ wM r g iM1 aM1 lM1) 1460 [(3, .int 0), (2, .ref (r 0)), (1, .ref (q 0)), (0, .ref b)] [.int 0, .int 0]
      exfalso; omega
    · show GW κ 4 82 21282 (wX q d iX0 aX0 ++ wM r g iM1 aM1 lM1) 1460 [(3, .int 0), (2, .ref (r 0)), (1, .ref (q 0)), (0, .ref b)] [.int 0, .int 0]
      exfalso; omega
    · show GW κ 4 82 21282 (wX q d iX0 aX0 ++ wM r g iM1 aM1 lM1) 1460 [(3, .int 0), (2, .ref (r 0)), (1, .ref (q 0)), (0, .ref b)] [.int (-1000), .int 0]
      exfalso; omega
    · show GW κ 4 82 21282 (wX q d iX0 aX0 ++ wM r g iM1 aM1 lM1) 1460 [(3, .int 0), (2, .ref (r 0)), (1, .ref (q 0)), (0, .ref b)] [.int (-1000), .int 0]
      exfalso; omega
    · show GW κ 4 82 21282 (wX q d iX0 aX0 ++ wM r g iM1 aM1 lM1) 1460 [(3, .int 0), (2, .ref (r 0)), (1, .ref (q 0)), (0, .ref b)] [.int 0, .int 0]
      exfalso; omega
    · show GW κ 4 82 21282 (wX q d iX0 aX0 ++ wM r g iM1 aM1 lM1) 1460 [(3, .int 0), (2, .ref (r 0)), (1, .ref (q 0)), (0, .ref b)] [.int (-1), .int 0]
      exfalso; omega
  · show GW κ 4 82 21282 (wM r g iM1 aM1 lM1 ++ wX q d iX0 aX0) 1451 [(3, .int 0), (2, .ref (r 0)), (1, .ref (q 0)), (0, .ref b)] [.int 0]
    refine g_aload_n hk dL_law_1451 rfl ?_
    refine g_aload_n hk dL_law_1452 rfl ?_
    refine g_iload_n hk dL_law_1453 rfl ?_
    refine g_iconst (v := 1) hk dL_law_1454 (by decide) ?_
    refine g_iadd hk dL_law_1455 ?_
    refine g_norm (v := 1) (by decide) ?_
    refine g_sld (v := xs 1) hk hX (vp_in_iff.mpr ⟨by decide, by show (1 : Int) < (L : Int); omega⟩) rfl dL_law_1456 ?_
    refine g_callV hk (m203_X12_count l D zt g r (xs 1)) (SP.pre _ _) (fun q h => List.mem_append_right _ h) gL_law_X12_count rfl rfl rfl (by decide +kernel) ⟨Nat.le_of_ble_eq_true rfl, Nat.le_of_ble_eq_true rfl⟩ 0 rfl rfl rfl rfl (Nat.le_of_ble_eq_true rfl) ⟨Nat.le_of_ble_eq_true rfl, Nat.le_of_ble_eq_true rfl⟩ dL_law_1457 (fun v ty' w' hp hk' => ?_)
    rcases hp with ⟨c4017, rfl, rfl⟩ | ⟨c4018, c4019, rfl, rfl⟩ | ⟨c4020, c4021, c4022, rfl, rfl⟩ | ⟨c4023, c4024, c4025, c4026, rfl, rfl⟩ | ⟨c4027, c4028, c4029, c4030, c4031, rfl, rfl⟩ | ⟨c4032, c4033, c4034, c4035, c4036, c4037, rfl, rfl⟩ | ⟨c4038, c4039, c4040, c4041, c4042, c4043, c4044, rfl, rfl⟩ | ⟨c4045, c4046, c4047, c4048, c4049, c4050, c4051, c4052, rfl, rfl⟩ | ⟨c4053, c4054, c4055, c4056, c4057, c4058, c4059, c4060, c4061, rfl, rfl⟩ | ⟨c4062, c4063, c4064, c4065, c4066, c4067, c4068, c4069, c4070, c4071, rfl, rfl⟩ | ⟨c4072, c4073, c4074, c4075, c4076, c4077, c4078, c4079, c4080, c4081, c4082, rfl, rfl⟩ | ⟨c4083, c4084, c4085, c4086, c4087, c4088, c4089, c4090, c4091, c4092, c4093, c4094, rfl, rfl⟩ | ⟨c4095, c4096, c4097, c4098, c4099, c4100, c4101, c4102, c4103, c4104, c4105, c4106, c4107, rfl, rfl⟩ | ⟨c4108, c4109, c4110, c4111, c4112, c4113, c4114, c4115, c4116, c4117, c4118, c4119, c4120, c4121, rfl, rfl⟩ | ⟨c4122, c4123, c4124, c4125, c4126, c4127, c4128, c4129, c4130, c4131, c4132, c4133, c4134, c4135, c4136, rfl, rfl⟩ | ⟨c4137, c4138, c4139, c4140, c4141, c4142, c4143, c4144, c4145, c4146, c4147, c4148, c4149, c4150, c4151, rfl, rfl⟩
    · show GW κ 4 82 21282 (wX q d iX0 aX0 ++ wM r g iM1 aM1 lM1) 1460 [(3, .int 0), (2, .ref (r 0)), (1, .ref (q 0)), (0, .ref b)] [.int 0, .int 0]
      exfalso; omega
    · show GW κ 4 82 21282 (wX q d iX0 aX0 ++ wM r g iM1 aM1 lM1) 1460 [(3, .int 0), (2, .ref (r 0)), (1, .ref (q 0)), (0, .ref b)] [.int 0, .int 0]
      exfalso; omega
    · show GW κ 4 82 21282 (wX q d iX0 aX0 ++ wM r g iM1 aM1 lM1) 1460 [(3, .int 0), (2, .ref (r 0)), (1, .ref (q 0)), (0, .ref b)] [.int 0, .int 0]
      refine g_icmp_eq (tgt := 1465) (a := 0) (b := 0) hk dL_law_1460 (by decide) rfl rfl (fun _ => ?_) (fun z9 => absurd (show 0 = 0 from by decide) z9)
      exact tail _
    · show GW κ 4 82 21282 (wX q d iX0 aX0 ++ wM r g iM1 aM1 lM1) 1460 [(3, .int 0), (2, .ref (r 0)), (1, .ref (q 0)), (0, .ref b)] [.int 2, .int 0]
      exfalso; omega
    · show GW κ 4 82 21282 (wX q d iX0 aX0 ++ wM r g iM1 aM1 lM1) 1460 [(3, .int 0), (2, .ref (r 0)), (1, .ref (q 0)), (0, .ref b)] [.int 0, .int 0]
      exfalso; omega
    · show GW κ 4 82 21282 (wX q d iX0 aX0 ++ wM r g iM1 aM1 lM1) 1460 [(3, .int 0), (2, .ref (r 0)), (1, .ref (q 0)), (0, .ref b)] [.int 0, .int 0]
      exfalso; omega
    · show GW κ 4 82 21282 (wX q d iX0 aX0 ++ wM r g iM1 aM1 lM1) 1460 [(3, .int 0), (2, .ref (r 0)), (1, .ref (q 0)), (0, .ref b)] [.int 8, .int 0]
      exfalso; omega
    · show GW κ 4 82 21282 (wX q d iX0 aX0 ++ wM r g iM1 aM1 lM1) 1460 [(3, .int 0), (2, .ref (r 0)), (1, .ref (q 0)), (0, .ref b)] [.int 0, .int 0]
      exfalso; omega
    · show GW κ 4 82 21282 (wX q d iX0 aX0 ++ wM r g iM1 aM1 lM1) 1460 [(3, .int 0), (2, .ref (r 0)), (1, .ref (q 0)), (0, .ref b)] [.int 0, .int 0]
      exfalso; omega
    · show GW κ 4 82 21282 (wX q d iX0 aX0 ++ wM r g iM1 aM1 lM1) 1460 [(3, .int 0), (2, .ref (r 0)), (1, .ref (q 0)), (0, .ref b)] [.int 0, .int 0]
      exfalso; omega
    · show GW κ 4 82 21282 (wX q d iX0 aX0 ++ wM r g iM1 aM1 lM1) 1460 [(3, .int 0), (2, .ref (r 0)), (1, .ref (q 0)), (0, .ref b)] [.int 0, .int 0]
      exfalso; omega
    · show GW κ 4 82 21282 (wX q d iX0 aX0 ++ wM r g iM1 aM1 lM1) 1460 [(3, .int 0), (2, .ref (r 0)), (1, .ref (q 0)), (0, .ref b)] [.int 0, .int 0]
      exfalso; omega
    · show GW κ 4 82 21282 (wX q d iX0 aX0 ++ wM r g iM1 aM1 lM1) 1460 [(3, .int 0), (2, .ref (r 0)), (1, .ref (q 0)), (0, .ref b)] [.int (-1000), .int 0]
      exfalso; omega
    · show GW κ 4 82 21282 (wX q d iX0 aX0 ++ wM r g iM1 aM1 lM1) 1460 [(3, .int 0), (2, .ref (r 0)), (1, .ref (q 0)), (0, .ref b)] [.int (-1000), .int 0]
      exfalso; omega
    · show GW κ 4 82 21282 (wX q d iX0 aX0 ++ wM r g iM1 aM1 lM1) 1460 [(3, .int 0), (2, .ref (r 0)), (1, .ref (q 0)), (0, .ref b)] [.int 0, .int 0]
      exfalso; omega
    · show GW κ 4 82 21282 (wX q d iX0 aX0 ++ wM r g iM1 aM1 lM1) 1460 [(3, .int 0), (2, .ref (r 0)), (1, .ref (q 0)), (0, .ref b)] [.int (-1), .int 0]
      exfalso; omega
  · show GW κ 4 82 21282 (wM r g iM1 aM1 lM1 ++ wX q d iX0 aX0) 1451 [(3, .int 0), (2, .ref (r 0)), (1, .ref (q 0)), (0, .ref b)] [.int 2]
    refine g_aload_n hk dL_law_1451 rfl ?_
    refine g_aload_n hk dL_law_1452 rfl ?_
    refine g_iload_n hk dL_law_1453 rfl ?_
    refine g_iconst (v := 1) hk dL_law_1454 (by decide) ?_
    refine g_iadd hk dL_law_1455 ?_
    refine g_norm (v := 1) (by decide) ?_
    refine g_sld (v := xs 1) hk hX (vp_in_iff.mpr ⟨by decide, by show (1 : Int) < (L : Int); omega⟩) rfl dL_law_1456 ?_
    refine g_callV hk (m203_X12_count l D zt g r (xs 1)) (SP.pre _ _) (fun q h => List.mem_append_right _ h) gL_law_X12_count rfl rfl rfl (by decide +kernel) ⟨Nat.le_of_ble_eq_true rfl, Nat.le_of_ble_eq_true rfl⟩ 0 rfl rfl rfl rfl (Nat.le_of_ble_eq_true rfl) ⟨Nat.le_of_ble_eq_true rfl, Nat.le_of_ble_eq_true rfl⟩ dL_law_1457 (fun v ty' w' hp hk' => ?_)
    rcases hp with ⟨c4152, rfl, rfl⟩ | ⟨c4153, c4154, rfl, rfl⟩ | ⟨c4155, c4156, c4157, rfl, rfl⟩ | ⟨c4158, c4159, c4160, c4161, rfl, rfl⟩ | ⟨c4162, c4163, c4164, c4165, c4166, rfl, rfl⟩ | ⟨c4167, c4168, c4169, c4170, c4171, c4172, rfl, rfl⟩ | ⟨c4173, c4174, c4175, c4176, c4177, c4178, c4179, rfl, rfl⟩ | ⟨c4180, c4181, c4182, c4183, c4184, c4185, c4186, c4187, rfl, rfl⟩ | ⟨c4188, c4189, c4190, c4191, c4192, c4193, c4194, c4195, c4196, rfl, rfl⟩ | ⟨c4197, c4198, c4199, c4200, c4201, c4202, c4203, c4204, c4205, c4206, rfl, rfl⟩ | ⟨c4207, c4208, c4209, c4210, c4211, c4212, c4213, c4214, c4215, c4216, c4217, rfl, rfl⟩ | ⟨c4218, c4219, c4220, c4221, c4222, c4223, c4224, c4225, c4226, c4227, c4228, c4229, rfl, rfl⟩ | ⟨c4230, c4231, c4232, c4233, c4234, c4235, c4236, c4237, c4238, c4239, c4240, c4241, c4242, rfl, rfl⟩ | ⟨c4243, c4244, c4245, c4246, c4247, c4248, c4249, c4250, c4251, c4252, c4253, c4254, c4255, c4256, rfl, rfl⟩ | ⟨c4257, c4258, c4259, c4260, c4261, c4262, c4263, c4264, c4265, c4266, c4267, c4268, c4269, c4270, c4271, rfl, rfl⟩ | ⟨c4272, c4273, c4274, c4275, c4276, c4277, c4278, c4279, c4280, c4281, c4282, c4283, c4284, c4285, c4286, rfl, rfl⟩
    · show GW κ 4 82 21282 (wX q d iX0 aX0 ++ wM r g iM1 aM1 lM1) 1460 [(3, .int 0), (2, .ref (r 0)), (1, .ref (q 0)), (0, .ref b)] [.int 0, .int 2]
      exfalso; omega
    · show GW κ 4 82 21282 (wX q d iX0 aX0 ++ wM r g iM1 aM1 lM1) 1460 [(3, .int 0), (2, .ref (r 0)), (1, .ref (q 0)), (0, .ref b)] [.int 0, .int 2]
      exfalso; omega
    · show GW κ 4 82 21282 (wX q d iX0 aX0 ++ wM r g iM1 aM1 lM1) 1460 [(3, .int 0), (2, .ref (r 0)), (1, .ref (q 0)), (0, .ref b)] [.int 0, .int 2]
      exfalso; omega
    · show GW κ 4 82 21282 (wX q d iX0 aX0 ++ wM r g iM1 aM1 lM1) 1460 [(3, .int 0), (2, .ref (r 0)), (1, .ref (q 0)), (0, .ref b)] [.int 2, .int 2]
      refine g_icmp_eq (tgt := 1465) (a := 2) (b := 2) hk dL_law_1460 (by decide) rfl rfl (fun _ => ?_) (fun z9 => absurd (show 2 = 2 from by decide) z9)
      exact tail _
    · show GW κ 4 82 21282 (wX q d iX0 aX0 ++ wM r g iM1 aM1 lM1) 1460 [(3, .int 0), (2, .ref (r 0)), (1, .ref (q 0)), (0, .ref b)] [.int 0, .int 2]
      exfalso; omega
    · show GW κ 4 82 21282 (wX q d iX0 aX0 ++ wM r g iM1 aM1 lM1) 1460 [(3, .int 0), (2, .ref (r 0)), (1, .ref (q 0)), (0, .ref b)] [.int 0, .int 2]
      exfalso; omega
    · show GW κ 4 82 21282 (wX q d iX0 aX0 ++ wM r g iM1 aM1 lM1) 1460 [(3, .int 0), (2, .ref (r 0)), (1, .ref (q 0)), (0, .ref b)] [.int 8, .int 2]
      exfalso; omega
    · show GW κ 4 82 21282 (wX q d iX0 aX0 ++ wM r g iM1 aM1 lM1) 1460 [(3, .int 0), (2, .ref (r 0)), (1, .ref (q 0)), (0, .ref b)] [.int 0, .int 2]
      exfalso; omega
    · show GW κ 4 82 21282 (wX q d iX0 aX0 ++ wM r g iM1 aM1 lM1) 1460 [(3, .int 0), (2, .ref (r 0)), (1, .ref (q 0)), (0, .ref b)] [.int 0, .int 2]
      exfalso; omega
    · show GW κ 4 82 21282 (wX q d iX0 aX0 ++ wM r g iM1 aM1 lM1) 1460 [(3, .int 0), (2, .ref (r 0)), (1, .ref (q 0)), (0, .ref b)] [.int 0, .int 2]
      exfalso; omega
    · show GW κ 4 82 21282 (wX q d iX0 aX0 ++ wM r g iM1 aM1 lM1) 1460 [(3, .int 0), (2, .ref (r 0)), (1, .ref (q 0)), (0, .ref b)] [.int 0, .int 2]
      exfalso; omega
    · show GW κ 4 82 21282 (wX q d iX0 aX0 ++ wM r g iM1 aM1 lM1) 1460 [(3, .int 0), (2, .ref (r 0)), (1, .ref (q 0)), (0, .ref b)] [.int 0, .int 2]
      exfalso; omega
    · show GW κ 4 82 21282 (wX q d iX0 aX0 ++ wM r g iM1 aM1 lM1) 1460 [(3, .int 0), (2, .ref (r 0)), (1, .ref (q 0)), (0, .ref b)] [.int (-1000), .int 2]
      exfalso; omega
    · show GW κ 4 82 21282 (wX q d iX0 aX0 ++ wM r g iM1 aM1 lM1) 1460 [(3, .int 0), (2, .ref (r 0)), (1, .ref (q 0)), (0, .ref b)] [.int (-1000), .int 2]
      exfalso; omega
    · show GW κ 4 82 21282 (wX q d iX0 aX0 ++ wM r g iM1 aM1 lM1) 1460 [(3, .int 0), (2, .ref (r 0)), (1, .ref (q 0)), (0, .ref b)] [.int 0, .int 2]
      exfalso; omega
    · show GW κ 4 82 21282 (wX q d iX0 aX0 ++ wM r g iM1 aM1 lM1) 1460 [(3, .int 0), (2, .ref (r 0)), (1, .ref (q 0)), (0, .ref b)] [.int (-1), .int 2]
      exfalso; omega
  · show GW κ 4 82 21282 (wM r g iM1 aM1 lM1 ++ wX q d iX0 aX0) 1451 [(3, .int 0), (2, .ref (r 0)), (1, .ref (q 0)), (0, .ref b)] [.int 0]
    refine g_aload_n hk dL_law_1451 rfl ?_
    refine g_aload_n hk dL_law_1452 rfl ?_
    refine g_iload_n hk dL_law_1453 rfl ?_
    refine g_iconst (v := 1) hk dL_law_1454 (by decide) ?_
    refine g_iadd hk dL_law_1455 ?_
    refine g_norm (v := 1) (by decide) ?_
    refine g_sld (v := xs 1) hk hX (vp_in_iff.mpr ⟨by decide, by show (1 : Int) < (L : Int); omega⟩) rfl dL_law_1456 ?_
    refine g_callV hk (m203_X12_count l D zt g r (xs 1)) (SP.pre _ _) (fun q h => List.mem_append_right _ h) gL_law_X12_count rfl rfl rfl (by decide +kernel) ⟨Nat.le_of_ble_eq_true rfl, Nat.le_of_ble_eq_true rfl⟩ 0 rfl rfl rfl rfl (Nat.le_of_ble_eq_true rfl) ⟨Nat.le_of_ble_eq_true rfl, Nat.le_of_ble_eq_true rfl⟩ dL_law_1457 (fun v ty' w' hp hk' => ?_)
    rcases hp with ⟨c4287, rfl, rfl⟩ | ⟨c4288, c4289, rfl, rfl⟩ | ⟨c4290, c4291, c4292, rfl, rfl⟩ | ⟨c4293, c4294, c4295, c4296, rfl, rfl⟩ | ⟨c4297, c4298, c4299, c4300, c4301, rfl, rfl⟩ | ⟨c4302, c4303, c4304, c4305, c4306, c4307, rfl, rfl⟩ | ⟨c4308, c4309, c4310, c4311, c4312, c4313, c4314, rfl, rfl⟩ | ⟨c4315, c4316, c4317, c4318, c4319, c4320, c4321, c4322, rfl, rfl⟩ | ⟨c4323, c4324, c4325, c4326, c4327, c4328, c4329, c4330, c4331, rfl, rfl⟩ | ⟨c4332, c4333, c4334, c4335, c4336, c4337, c4338, c4339, c4340, c4341, rfl, rfl⟩ | ⟨c4342, c4343, c4344, c4345, c4346, c4347, c4348, c4349, c4350, c4351, c4352, rfl, rfl⟩ | ⟨c4353, c4354, c4355, c4356, c4357, c4358, c4359, c4360, c4361, c4362, c4363, c4364, rfl, rfl⟩ | ⟨c4365, c4366, c4367, c4368, c4369, c4370, c4371, c4372, c4373, c4374, c4375, c4376, c4377, rfl, rfl⟩ | ⟨c4378, c4379, c4380, c4381, c4382, c4383, c4384, c4385, c4386, c4387, c4388, c4389, c4390, c4391, rfl, rfl⟩ | ⟨c4392, c4393, c4394, c4395, c4396, c4397, c4398, c4399, c4400, c4401, c4402, c4403, c4404, c4405, c4406, rfl, rfl⟩ | ⟨c4407, c4408, c4409, c4410, c4411, c4412, c4413, c4414, c4415, c4416, c4417, c4418, c4419, c4420, c4421, rfl, rfl⟩
    · show GW κ 4 82 21282 (wX q d iX0 aX0 ++ wM r g iM1 aM1 lM1) 1460 [(3, .int 0), (2, .ref (r 0)), (1, .ref (q 0)), (0, .ref b)] [.int 0, .int 0]
      exfalso; omega
    · show GW κ 4 82 21282 (wX q d iX0 aX0 ++ wM r g iM1 aM1 lM1) 1460 [(3, .int 0), (2, .ref (r 0)), (1, .ref (q 0)), (0, .ref b)] [.int 0, .int 0]
      exfalso; omega
    · show GW κ 4 82 21282 (wX q d iX0 aX0 ++ wM r g iM1 aM1 lM1) 1460 [(3, .int 0), (2, .ref (r 0)), (1, .ref (q 0)), (0, .ref b)] [.int 0, .int 0]
      exfalso; omega
    · show GW κ 4 82 21282 (wX q d iX0 aX0 ++ wM r g iM1 aM1 lM1) 1460 [(3, .int 0), (2, .ref (r 0)), (1, .ref (q 0)), (0, .ref b)] [.int 2, .int 0]
      exfalso; omega
    · show GW κ 4 82 21282 (wX q d iX0 aX0 ++ wM r g iM1 aM1 lM1) 1460 [(3, .int 0), (2, .ref (r 0)), (1, .ref (q 0)), (0, .ref b)] [.int 0, .int 0]
      refine g_icmp_eq (tgt := 1465) (a := 0) (b := 0) hk dL_law_1460 (by decide) rfl rfl (fun _ => ?_) (fun z9 => absurd (show 0 = 0 from by decide) z9)
      exact tail _
    · show GW κ 4 82 21282 (wX q d iX0 aX0 ++ wM r g iM1 aM1 lM1) 1460 [(3, .int 0), (2, .ref (r 0)), (1, .ref (q 0)), (0, .ref b)] [.int 0, .int 0]
      exfalso; omega
    · show GW κ 4 82 21282 (wX q d iX0 aX0 ++ wM r g iM1 aM1 lM1) 1460 [(3, .int 0), (2, .ref (r 0)), (1, .ref (q 0)), (0, .ref b)] [.int 8, .int 0]
      exfalso; omega
    · show GW κ 4 82 21282 (wX q d iX0 aX0 ++ wM r g iM1 aM1 lM1) 1460 [(3, .int 0), (2, .ref (r 0)), (1, .ref (q 0)), (0, .ref b)] [.int 0, .int 0]
      exfalso; omega
    · show GW κ 4 82 21282 (wX q d iX0 aX0 ++ wM r g iM1 aM1 lM1) 1460 [(3, .int 0), (2, .ref (r 0)), (1, .ref (q 0)), (0, .ref b)] [.int 0, .int 0]
      exfalso; omega
    · show GW κ 4 82 21282 (wX q d iX0 aX0 ++ wM r g iM1 aM1 lM1) 1460 [(3, .int 0), (2, .ref (r 0)), (1, .ref (q 0)), (0, .ref b)] [.int 0, .int 0]
      exfalso; omega
    · show GW κ 4 82 21282 (wX q d iX0 aX0 ++ wM r g iM1 aM1 lM1) 1460 [(3, .int 0), (2, .ref (r 0)), (1, .ref (q 0)), (0, .ref b)] [.int 0, .int 0]
      exfalso; omega
    · show GW κ 4 82 21282 (wX q d iX0 aX0 ++ wM r g iM1 aM1 lM1) 1460 [(3, .int 0), (2, .ref (r 0)), (1, .ref (q 0)), (0, .ref b)] [.int 0, .int 0]
      exfalso; omega
    · show GW κ 4 82 21282 (wX q d iX0 aX0 ++ wM r g iM1 aM1 lM1) 1460 [(3, .int 0), (2, .ref (r 0)), (1, .ref (q 0)), (0, .ref b)] [.int (-1000), .int 0]
      exfalso; omega
    · show GW κ 4 82 21282 (wX q d iX0 aX0 ++ wM r g iM1 aM1 lM1) 1460 [(3, .int 0), (2, .ref (r 0)), (1, .ref (q 0)), (0, .ref b)] [.int (-1000), .int 0]
      exfalso; omega
    · show GW κ 4 82 21282 (wX q d iX0 aX0 ++ wM r g iM1 aM1 lM1) 1460 [(3, .int 0), (2, .ref (r 0)), (1, .ref (q 0)), (0, .ref b)] [.int 0, .int 0]
      exfalso; omega
    · show GW κ 4 82 21282 (wX q d iX0 aX0 ++ wM r g iM1 aM1 lM1) 1460 [(3, .int 0), (2, .ref (r 0)), (1, .ref (q 0)), (0, .ref b)] [.int (-1), .int 0]
      exfalso; omega
  · show GW κ 4 82 21282 (wM r g iM1 aM1 lM1 ++ wX q d iX0 aX0) 1451 [(3, .int 0), (2, .ref (r 0)), (1, .ref (q 0)), (0, .ref b)] [.int 0]
    refine g_aload_n hk dL_law_1451 rfl ?_
    refine g_aload_n hk dL_law_1452 rfl ?_
    refine g_iload_n hk dL_law_1453 rfl ?_
    refine g_iconst (v := 1) hk dL_law_1454 (by decide) ?_
    refine g_iadd hk dL_law_1455 ?_
    refine g_norm (v := 1) (by decide) ?_
    refine g_sld (v := xs 1) hk hX (vp_in_iff.mpr ⟨by decide, by show (1 : Int) < (L : Int); omega⟩) rfl dL_law_1456 ?_
    refine g_callV hk (m203_X12_count l D zt g r (xs 1)) (SP.pre _ _) (fun q h => List.mem_append_right _ h) gL_law_X12_count rfl rfl rfl (by decide +kernel) ⟨Nat.le_of_ble_eq_true rfl, Nat.le_of_ble_eq_true rfl⟩ 0 rfl rfl rfl rfl (Nat.le_of_ble_eq_true rfl) ⟨Nat.le_of_ble_eq_true rfl, Nat.le_of_ble_eq_true rfl⟩ dL_law_1457 (fun v ty' w' hp hk' => ?_)
    rcases hp with ⟨c4422, rfl, rfl⟩ | ⟨c4423, c4424, rfl, rfl⟩ | ⟨c4425, c4426, c4427, rfl, rfl⟩ | ⟨c4428, c4429, c4430, c4431, rfl, rfl⟩ | ⟨c4432, c4433, c4434, c4435, c4436, rfl, rfl⟩ | ⟨c4437, c4438, c4439, c4440, c4441, c4442, rfl, rfl⟩ | ⟨c4443, c4444, c4445, c4446, c4447, c4448, c4449, rfl, rfl⟩ | ⟨c4450, c4451, c4452, c4453, c4454, c4455, c4456, c4457, rfl, rfl⟩ | ⟨c4458, c4459, c4460, c4461, c4462, c4463, c4464, c4465, c4466, rfl, rfl⟩ | ⟨c4467, c4468, c4469, c4470, c4471, c4472, c4473, c4474, c4475, c4476, rfl, rfl⟩ | ⟨c4477, c4478, c4479, c4480, c4481, c4482, c4483, c4484, c4485, c4486, c4487, rfl, rfl⟩ | ⟨c4488, c4489, c4490, c4491, c4492, c4493, c4494, c4495, c4496, c4497, c4498, c4499, rfl, rfl⟩ | ⟨c4500, c4501, c4502, c4503, c4504, c4505, c4506, c4507, c4508, c4509, c4510, c4511, c4512, rfl, rfl⟩ | ⟨c4513, c4514, c4515, c4516, c4517, c4518, c4519, c4520, c4521, c4522, c4523, c4524, c4525, c4526, rfl, rfl⟩ | ⟨c4527, c4528, c4529, c4530, c4531, c4532, c4533, c4534, c4535, c4536, c4537, c4538, c4539, c4540, c4541, rfl, rfl⟩ | ⟨c4542, c4543, c4544, c4545, c4546, c4547, c4548, c4549, c4550, c4551, c4552, c4553, c4554, c4555, c4556, rfl, rfl⟩
    · show GW κ 4 82 21282 (wX q d iX0 aX0 ++ wM r g iM1 aM1 lM1) 1460 [(3, .int 0), (2, .ref (r 0)), (1, .ref (q 0)), (0, .ref b)] [.int 0, .int 0]
      exfalso; omega
    · show GW κ 4 82 21282 (wX q d iX0 aX0 ++ wM r g iM1 aM1 lM1) 1460 [(3, .int 0), (2, .ref (r 0)), (1, .ref (q 0)), (0, .ref b)] [.int 0, .int 0]
      exfalso; omega
    · show GW κ 4 82 21282 (wX q d iX0 aX0 ++ wM r g iM1 aM1 lM1) 1460 [(3, .int 0), (2, .ref (r 0)), (1, .ref (q 0)), (0, .ref b)] [.int 0, .int 0]
      exfalso; omega
    · show GW κ 4 82 21282 (wX q d iX0 aX0 ++ wM r g iM1 aM1 lM1) 1460 [(3, .int 0), (2, .ref (r 0)), (1, .ref (q 0)), (0, .ref b)] [.int 2, .int 0]
      exfalso; omega
    · show GW κ 4 82 21282 (wX q d iX0 aX0 ++ wM r g iM1 aM1 lM1) 1460 [(3, .int 0), (2, .ref (r 0)), (1, .ref (q 0)), (0, .ref b)] [.int 0, .int 0]
      exfalso; omega
    · show GW κ 4 82 21282 (wX q d iX0 aX0 ++ wM r g iM1 aM1 lM1) 1460 [(3, .int 0), (2, .ref (r 0)), (1, .ref (q 0)), (0, .ref b)] [.int 0, .int 0]
      refine g_icmp_eq (tgt := 1465) (a := 0) (b := 0) hk dL_law_1460 (by decide) rfl rfl (fun _ => ?_) (fun z9 => absurd (show 0 = 0 from by decide) z9)
      exact tail _
    · show GW κ 4 82 21282 (wX q d iX0 aX0 ++ wM r g iM1 aM1 lM1) 1460 [(3, .int 0), (2, .ref (r 0)), (1, .ref (q 0)), (0, .ref b)] [.int 8, .int 0]
      exfalso; omega
    · show GW κ 4 82 21282 (wX q d iX0 aX0 ++ wM r g iM1 aM1 lM1) 1460 [(3, .int 0), (2, .ref (r 0)), (1, .ref (q 0)), (0, .ref b)] [.int 0, .int 0]
      exfalso; omega
    · show GW κ 4 82 21282 (wX q d iX0 aX0 ++ wM r g iM1 aM1 lM1) 1460 [(3, .int 0), (2, .ref (r 0)), (1, .ref (q 0)), (0, .ref b)] [.int 0, .int 0]
      exfalso; omega
    · show GW κ 4 82 21282 (wX q d iX0 aX0 ++ wM r g iM1 aM1 lM1) 1460 [(3, .int 0), (2, .ref (r 0)), (1, .ref (q 0)), (0, .ref b)] [.int 0, .int 0]
      exfalso; omega
    · show GW κ 4 82 21282 (wX q d iX0 aX0 ++ wM r g iM1 aM1 lM1) 1460 [(3, .int 0), (2, .ref (r 0)), (1, .ref (q 0)), (0, .ref b)] [.int 0, .int 0]
      exfalso; omega
    · show GW κ 4 82 21282 (wX q d iX0 aX0 ++ wM r g iM1 aM1 lM1) 1460 [(3, .int 0), (2, .ref (r 0)), (1, .ref (q 0)), (0, .ref b)] [.int 0, .int 0]
      exfalso; omega
    · show GW κ 4 82 21282 (wX q d iX0 aX0 ++ wM r g iM1 aM1 lM1) 1460 [(3, .int 0), (2, .ref (r 0)), (1, .ref (q 0)), (0, .ref b)] [.int (-1000), .int 0]
      exfalso; omega
    · show GW κ 4 82 21282 (wX q d iX0 aX0 ++ wM r g iM1 aM1 lM1) 1460 [(3, .int 0), (2, .ref (r 0)), (1, .ref (q 0)), (0, .ref b)] [.int (-1000), .int 0]
      exfalso; omega
    · show GW κ 4 82 21282 (wX q d iX0 aX0 ++ wM r g iM1 aM1 lM1) 1460 [(3, .int 0), (2, .ref (r 0)), (1, .ref (q 0)), (0, .ref b)] [.int 0, .int 0]
      exfalso; omega
    · show GW κ 4 82 21282 (wX q d iX0 aX0 ++ wM r g iM1 aM1 lM1) 1460 [(3, .int 0), (2, .ref (r 0)), (1, .ref (q 0)), (0, .ref b)] [.int (-1), .int 0]
      exfalso; omega
  · show GW κ 4 82 21282 (wM r g iM1 aM1 lM1 ++ wX q d iX0 aX0) 1451 [(3, .int 0), (2, .ref (r 0)), (1, .ref (q 0)), (0, .ref b)] [.int 8]
    refine g_aload_n hk dL_law_1451 rfl ?_
    refine g_aload_n hk dL_law_1452 rfl ?_
    refine g_iload_n hk dL_law_1453 rfl ?_
    refine g_iconst (v := 1) hk dL_law_1454 (by decide) ?_
    refine g_iadd hk dL_law_1455 ?_
    refine g_norm (v := 1) (by decide) ?_
    refine g_sld (v := xs 1) hk hX (vp_in_iff.mpr ⟨by decide, by show (1 : Int) < (L : Int); omega⟩) rfl dL_law_1456 ?_
    refine g_callV hk (m203_X12_count l D zt g r (xs 1)) (SP.pre _ _) (fun q h => List.mem_append_right _ h) gL_law_X12_count rfl rfl rfl (by decide +kernel) ⟨Nat.le_of_ble_eq_true rfl, Nat.le_of_ble_eq_true rfl⟩ 0 rfl rfl rfl rfl (Nat.le_of_ble_eq_true rfl) ⟨Nat.le_of_ble_eq_true rfl, Nat.le_of_ble_eq_true rfl⟩ dL_law_1457 (fun v ty' w' hp hk' => ?_)
    rcases hp with ⟨c4557, rfl, rfl⟩ | ⟨c4558, c4559, rfl, rfl⟩ | ⟨c4560, c4561, c4562, rfl, rfl⟩ | ⟨c4563, c4564, c4565, c4566, rfl, rfl⟩ | ⟨c4567, c4568, c4569, c4570, c4571, rfl, rfl⟩ | ⟨c4572, c4573, c4574, c4575, c4576, c4577, rfl, rfl⟩ | ⟨c4578, c4579, c4580, c4581, c4582, c4583, c4584, rfl, rfl⟩ | ⟨c4585, c4586, c4587, c4588, c4589, c4590, c4591, c4592, rfl, rfl⟩ | ⟨c4593, c4594, c4595, c4596, c4597, c4598, c4599, c4600, c4601, rfl, rfl⟩ | ⟨c4602, c4603, c4604, c4605, c4606, c4607, c4608, c4609, c4610, c4611, rfl, rfl⟩ | ⟨c4612, c4613, c4614, c4615, c4616, c4617, c4618, c4619, c4620, c4621, c4622, rfl, rfl⟩ | ⟨c4623, c4624, c4625, c4626, c4627, c4628, c4629, c4630, c4631, c4632, c4633, c4634, rfl, rfl⟩ | ⟨c4635, c4636, c4637, c4638, c4639, c4640, c4641, c4642, c4643, c4644, c4645, c4646, c4647, rfl, rfl⟩ | ⟨c4648, c4649, c4650, c4651, c4652, c4653, c4654, c4655, c4656, c4657, c4658, c4659, c4660, c4661, rfl, rfl⟩ | ⟨c4662, c4663, c4664, c4665, c4666, c4667, c4668, c4669, c4670, c4671, c4672, c4673, c4674, c4675, c4676, rfl, rfl⟩ | ⟨c4677, c4678, c4679, c4680, c4681, c4682, c4683, c4684, c4685, c4686, c4687, c4688, c4689, c4690, c4691, rfl, rfl⟩
    · show GW κ 4 82 21282 (wX q d iX0 aX0 ++ wM r g iM1 aM1 lM1) 1460 [(3, .int 0), (2, .ref (r 0)), (1, .ref (q 0)), (0, .ref b)] [.int 0, .int 8]
      exfalso; omega
    · show GW κ 4 82 21282 (wX q d iX0 aX0 ++ wM r g iM1 aM1 lM1) 1460 [(3, .int 0), (2, .ref (r 0)), (1, .ref (q 0)), (0, .ref b)] [.int 0, .int 8]
      exfalso; omega
    · show GW κ 4 82 21282 (wX q d iX0 aX0 ++ wM r g iM1 aM1 lM1) 1460 [(3, .int 0), (2, .ref (r 0)), (1, .ref (q 0)), (0, .ref b)] [.int 0, .int 8]
      exfalso; omega
    · show GW κ 4 82 21282 (wX q d iX0 aX0 ++ wM r g iM1 aM1 lM1) 1460 [(3, .int 0), (2, .ref (r 0)), (1, .ref (q 0)), (0, .ref b)] [.int 2, .int 8]
      exfalso; omega
    · show GW κ 4 82 21282 (wX q d iX0 aX0 ++ wM r g iM1 aM1 lM1) 1460 [(3, .int 0), (2, .ref (r 0)), (1, .ref (q 0)), (0, .ref b)] [.int 0, .int 8]
      exfalso; omega
    · show GW κ 4 82 21282 (wX q d iX0 aX0 ++ wM r g iM1 aM1 lM1) 1460 [(3, .int 0), (2, .ref (r 0)), (1, .ref (q 0)), (0, .ref b)] [.int 0, .int 8]
      exfalso; omega
    · show GW κ 4 82 21282 (wX q d iX0 aX0 ++ wM r g iM1 aM1 lM1) 1460 [(3, .int 0), (2, .ref (r 0)), (1, .ref (q 0)), (0, .ref b)] [.int 8, .int 8]
      refine g_icmp_eq (tgt := 1465) (a := 8) (b := 8) hk dL_law_1460 (by decide) rfl rfl (fun _ => ?_) (fun z9 => absurd (show 8 = 8 from by decide) z9)
      exact tail _
    · show GW κ 4 82 21282 (wX q d iX0 aX0 ++ wM r g iM1 aM1 lM1) 1460 [(3, .int 0), (2, .ref (r 0)), (1, .ref (q 0)), (0, .ref b)] [.int 0, .int 8]
      exfalso; omega
    · show GW κ 4 82 21282 (wX q d iX0 aX0 ++ wM r g iM1 aM1 lM1) 1460 [(3, .int 0), (2, .ref (r 0)), (1, .ref (q 0)), (0, .ref b)] [.int 0, .int 8]
      exfalso; omega
    · show GW κ 4 82 21282 (wX q d iX0 aX0 ++ wM r g iM1 aM1 lM1) 1460 [(3, .int 0), (2, .ref (r 0)), (1, .ref (q 0)), (0, .ref b)] [.int 0, .int 8]
      exfalso; omega
    · show GW κ 4 82 21282 (wX q d iX0 aX0 ++ wM r g iM1 aM1 lM1) 1460 [(3, .int 0), (2, .ref (r 0)), (1, .ref (q 0)), (0, .ref b)] [.int 0, .int 8]
      exfalso; omega
    · show GW κ 4 82 21282 (wX q d iX0 aX0 ++ wM r g iM1 aM1 lM1) 1460 [(3, .int 0), (2, .ref (r 0)), (1, .ref (q 0)), (0, .ref b)] [.int 0, .int 8]
      exfalso; omega
    · show GW κ 4 82 21282 (wX q d iX0 aX0 ++ wM r g iM1 aM1 lM1) 1460 [(3, .int 0), (2, .ref (r 0)), (1, .ref (q 0)), (0, .ref b)] [.int (-1000), .int 8]
      exfalso; omega
    · show GW κ 4 82 21282 (wX q d iX0 aX0 ++ wM r g iM1 aM1 lM1) 1460 [(3, .int 0), (2, .ref (r 0)), (1, .ref (q 0)), (0, .ref b)] [.int (-1000), .int 8]
      exfalso; omega
    · show GW κ 4 82 21282 (wX q d iX0 aX0 ++ wM r g iM1 aM1 lM1) 1460 [(3, .int 0), (2, .ref (r 0)), (1, .ref (q 0)), (0, .ref b)] [.int 0, .int 8]
      exfalso; omega
    · show GW κ 4 82 21282 (wX q d iX0 aX0 ++ wM r g iM1 aM1 lM1) 1460 [(3, .int 0), (2, .ref (r 0)), (1, .ref (q 0)), (0, .ref b)] [.int (-1), .int 8]
      exfalso; omega
  · show GW κ 4 82 21282 (wM r g iM1 aM1 lM1 ++ wX q d iX0 aX0) 1451 [(3, .int 0), (2, .ref (r 0)), (1, .ref (q 0)), (0, .ref b)] [.int 0]
    refine g_aload_n hk dL_law_1451 rfl ?_
    refine g_aload_n hk dL_law_1452 rfl ?_
    refine g_iload_n hk dL_law_1453 rfl ?_
    refine g_iconst (v := 1) hk dL_law_1454 (by decide) ?_
    refine g_iadd hk dL_law_1455 ?_
    refine g_norm (v := 1) (by decide) ?_
    refine g_sld (v := xs 1) hk hX (vp_in_iff.mpr ⟨by decide, by show (1 : Int) < (L : Int); omega⟩) rfl dL_law_1456 ?_
    refine g_callV hk (m203_X12_count l D zt g r (xs 1)) (SP.pre _ _) (fun q h => List.mem_append_right _ h) gL_law_X12_count rfl rfl rfl (by decide +kernel) ⟨Nat.le_of_ble_eq_true rfl, Nat.le_of_ble_eq_true rfl⟩ 0 rfl rfl rfl rfl (Nat.le_of_ble_eq_true rfl) ⟨Nat.le_of_ble_eq_true rfl, Nat.le_of_ble_eq_true rfl⟩ dL_law_1457 (fun v ty' w' hp hk' => ?_)
    rcases hp with ⟨c4692, rfl, rfl⟩ | ⟨c4693, c4694, rfl, rfl⟩ | ⟨c4695, c4696, c4697, rfl, rfl⟩ | ⟨c4698, c4699, c4700, c4701, rfl, rfl⟩ | ⟨c4702, c4703, c4704, c4705, c4706, rfl, rfl⟩ | ⟨c4707, c4708, c4709, c4710, c4711, c4712, rfl, rfl⟩ | ⟨c4713, c4714, c4715, c4716, c4717, c4718, c4719, rfl, rfl⟩ | ⟨c4720, c4721, c4722, c4723, c4724, c4725, c4726, c4727, rfl, rfl⟩ | ⟨c4728, c4729, c4730, c4731, c4732, c4733, c4734, c4735, c4736, rfl, rfl⟩ | ⟨c4737, c4738, c4739, c4740, c4741, c4742, c4743, c4744, c4745, c4746, rfl, rfl⟩ | ⟨c4747, c4748, c4749, c4750, c4751, c4752, c4753, c4754, c4755, c4756, c4757, rfl, rfl⟩ | ⟨c4758, c4759, c4760, c4761, c4762, c4763, c4764, c4765, c4766, c4767, c4768, c4769, rfl, rfl⟩ | ⟨c4770, c4771, c4772, c4773, c4774, c4775, c4776, c4777, c4778, c4779, c4780, c4781, c4782, rfl, rfl⟩ | ⟨c4783, c4784, c4785, c4786, c4787, c4788, c4789, c4790, c4791, c4792, c4793, c4794, c4795, c4796, rfl, rfl⟩ | ⟨c4797, c4798, c4799, c4800, c4801, c4802, c4803, c4804, c4805, c4806, c4807, c4808, c4809, c4810, c4811, rfl, rfl⟩ | ⟨c4812, c4813, c4814, c4815, c4816, c4817, c4818, c4819, c4820, c4821, c4822, c4823, c4824, c4825, c4826, rfl, rfl⟩
    · show GW κ 4 82 21282 (wX q d iX0 aX0 ++ wM r g iM1 aM1 lM1) 1460 [(3, .int 0), (2, .ref (r 0)), (1, .ref (q 0)), (0, .ref b)] [.int 0, .int 0]
      exfalso; omega
    · show GW κ 4 82 21282 (wX q d iX0 aX0 ++ wM r g iM1 aM1 lM1) 1460 [(3, .int 0), (2, .ref (r 0)), (1, .ref (q 0)), (0, .ref b)] [.int 0, .int 0]
      exfalso; omega
    · show GW κ 4 82 21282 (wX q d iX0 aX0 ++ wM r g iM1 aM1 lM1) 1460 [(3, .int 0), (2, .ref (r 0)), (1, .ref (q 0)), (0, .ref b)] [.int 0, .int 0]
      exfalso; omega
    · show GW κ 4 82 21282 (wX q d iX0 aX0 ++ wM r g iM1 aM1 lM1) 1460 [(3, .int 0), (2, .ref (r 0)), (1, .ref (q 0)), (0, .ref b)] [.int 2, .int 0]
      exfalso; omega
    · show GW κ 4 82 21282 (wX q d iX0 aX0 ++ wM r g iM1 aM1 lM1) 1460 [(3, .int 0), (2, .ref (r 0)), (1, .ref (q 0)), (0, .ref b)] [.int 0, .int 0]
      exfalso; omega
    · show GW κ 4 82 21282 (wX q d iX0 aX0 ++ wM r g iM1 aM1 lM1) 1460 [(3, .int 0), (2, .ref (r 0)), (1, .ref (q 0)), (0, .ref b)] [.int 0, .int 0]
      exfalso; omega
    · show GW κ 4 82 21282 (wX q d iX0 aX0 ++ wM r g iM1 aM1 lM1) 1460 [(3, .int 0), (2, .ref (r 0)), (1, .ref (q 0)), (0, .ref b)] [.int 8, .int 0]
      exfalso; omega
    · show GW κ 4 82 21282 (wX q d iX0 aX0 ++ wM r g iM1 aM1 lM1) 1460 [(3, .int 0), (2, .ref (r 0)), (1, .ref (q 0)), (0, .ref b)] [.int 0, .int 0]
      refine g_icmp_eq (tgt := 1465) (a := 0) (b := 0) hk dL_law_1460 (by decide) rfl rfl (fun _ => ?_) (fun z9 => absurd (show 0 = 0 from by decide) z9)
      exact tail _
    · show GW κ 4 82 21282 (wX q d iX0 aX0 ++ wM r g iM1 aM1 lM1) 1460 [(3, .int 0), (2, .ref (r 0)), (1, .ref (q 0)), (0, .ref b)] [.int 0, .int 0]
      exfalso; omega
    · show GW κ 4 82 21282 (wX q d iX0 aX0 ++ wM r g iM1 aM1 lM1) 1460 [(3, .int 0), (2, .ref (r 0)), (1, .ref (q 0)), (0, .ref b)] [.int 0, .int 0]
      exfalso; omega
    · show GW κ 4 82 21282 (wX q d iX0 aX0 ++ wM r g iM1 aM1 lM1) 1460 [(3, .int 0), (2, .ref (r 0)), (1, .ref (q 0)), (0, .ref b)] [.int 0, .int 0]
      exfalso; omega
    · show GW κ 4 82 21282 (wX q d iX0 aX0 ++ wM r g iM1 aM1 lM1) 1460 [(3, .int 0), (2, .ref (r 0)), (1, .ref (q 0)), (0, .ref b)] [.int 0, .int 0]
      exfalso; omega
    · show GW κ 4 82 21282 (wX q d iX0 aX0 ++ wM r g iM1 aM1 lM1) 1460 [(3, .int 0), (2, .ref (r 0)), (1, .ref (q 0)), (0, .ref b)] [.int (-1000), .int 0]
      exfalso; omega
    · show GW κ 4 82 21282 (wX q d iX0 aX0 ++ wM r g iM1 aM1 lM1) 1460 [(3, .int 0), (2, .ref (r 0)), (1, .ref (q 0)), (0, .ref b)] [.int (-1000), .int 0]
      exfalso; omega
    · show GW κ 4 82 21282 (wX q d iX0 aX0 ++ wM r g iM1 aM1 lM1) 1460 [(3, .int 0), (2, .ref (r 0)), (1, .ref (q 0)), (0, .ref b)] [.int 0, .int 0]
      exfalso; omega
    · show GW κ 4 82 21282 (wX q d iX0 aX0 ++ wM r g iM1 aM1 lM1) 1460 [(3, .int 0), (2, .ref (r 0)), (1, .ref (q 0)), (0, .ref b)] [.int (-1), .int 0]
      exfalso; omega
  · show GW κ 4 82 21282 (wM r g iM1 aM1 lM1 ++ wX q d iX0 aX0) 1451 [(3, .int 0), (2, .ref (r 0)), (1, .ref (q 0)), (0, .ref b)] [.int 0]
    refine g_aload_n hk dL_law_1451 rfl ?_
    refine g_aload_n hk dL_law_1452 rfl ?_
    refine g_iload_n hk dL_law_1453 rfl ?_
    refine g_iconst (v := 1) hk dL_law_1454 (by decide) ?_
    refine g_iadd hk dL_law_1455 ?_
    refine g_norm (v := 1) (by decide) ?_
    refine g_sld (v := xs 1) hk hX (vp_in_iff.mpr ⟨by decide, by show (1 : Int) < (L : Int); omega⟩) rfl dL_law_1456 ?_
    refine g_callV hk (m203_X12_count l D zt g r (xs 1)) (SP.pre _ _) (fun q h => List.mem_append_right _ h) gL_law_X12_count rfl rfl rfl (by decide +kernel) ⟨Nat.le_of_ble_eq_true rfl, Nat.le_of_ble_eq_true rfl⟩ 0 rfl rfl rfl rfl (Nat.le_of_ble_eq_true rfl) ⟨Nat.le_of_ble_eq_true rfl, Nat.le_of_ble_eq_true rfl⟩ dL_law_1457 (fun v ty' w' hp hk' => ?_)
    rcases hp with ⟨c4827, rfl, rfl⟩ | ⟨c4828, c4829, rfl, rfl⟩ | ⟨c4830, c4831, c4832, rfl, rfl⟩ | ⟨c4833, c4834, c4835, c4836, rfl, rfl⟩ | ⟨c4837, c4838, c4839, c4840, c4841, rfl, rfl⟩ | ⟨c4842, c4843, c4844, c4845, c4846, c4847, rfl, rfl⟩ | ⟨c4848, c4849, c4850, c4851, c4852, c4853, c4854, rfl, rfl⟩ | ⟨c4855, c4856, c4857, c4858, c4859, c4860, c4861, c4862, rfl, rfl⟩ | ⟨c4863, c4864, c4865, c4866, c4867, c4868, c4869, c4870, c4871, rfl, rfl⟩ | ⟨c4872, c4873, c4874, c4875, c4876, c4877, c4878, c4879, c4880, c4881, rfl, rfl⟩ | ⟨c4882, c4883, c4884, c4885, c4886, c4887, c4888, c4889, c4890, c4891, c4892, rfl, rfl⟩ | ⟨c4893, c4894, c4895, c4896, c4897, c4898, c4899, c4900, c4901, c4902, c4903, c4904, rfl, rfl⟩ | ⟨c4905, c4906, c4907, c4908, c4909, c4910, c4911, c4912, c4913, c4914, c4915, c4916, c4917, rfl, rfl⟩ | ⟨c4918, c4919, c4920, c4921, c4922, c4923, c4924, c4925, c4926, c4927, c4928, c4929, c4930, c4931, rfl, rfl⟩ | ⟨c4932, c4933, c4934, c4935, c4936, c4937, c4938, c4939, c4940, c4941, c4942, c4943, c4944, c4945, c4946, rfl, rfl⟩ | ⟨c4947, c4948, c4949, c4950, c4951, c4952, c4953, c4954, c4955, c4956, c4957, c4958, c4959, c4960, c4961, rfl, rfl⟩
    · show GW κ 4 82 21282 (wX q d iX0 aX0 ++ wM r g iM1 aM1 lM1) 1460 [(3, .int 0), (2, .ref (r 0)), (1, .ref (q 0)), (0, .ref b)] [.int 0, .int 0]
      exfalso; omega
    · show GW κ 4 82 21282 (wX q d iX0 aX0 ++ wM r g iM1 aM1 lM1) 1460 [(3, .int 0), (2, .ref (r 0)), (1, .ref (q 0)), (0, .ref b)] [.int 0, .int 0]
      exfalso; omega
    · show GW κ 4 82 21282 (wX q d iX0 aX0 ++ wM r g iM1 aM1 lM1) 1460 [(3, .int 0), (2, .ref (r 0)), (1, .ref (q 0)), (0, .ref b)] [.int 0, .int 0]
      exfalso; omega
    · show GW κ 4 82 21282 (wX q d iX0 aX0 ++ wM r g iM1 aM1 lM1) 1460 [(3, .int 0), (2, .ref (r 0)), (1, .ref (q 0)), (0, .ref b)] [.int 2, .int 0]
      exfalso; omega
    · show GW κ 4 82 21282 (wX q d iX0 aX0 ++ wM r g iM1 aM1 lM1) 1460 [(3, .int 0), (2, .ref (r 0)), (1, .ref (q 0)), (0, .ref b)] [.int 0, .int 0]
      exfalso; omega
    · show GW κ 4 82 21282 (wX q d iX0 aX0 ++ wM r g iM1 aM1 lM1) 1460 [(3, .int 0), (2, .ref (r 0)), (1, .ref (q 0)), (0, .ref b)] [.int 0, .int 0]
      exfalso; omega
    · show GW κ 4 82 21282 (wX q d iX0 aX0 ++ wM r g iM1 aM1 lM1) 1460 [(3, .int 0), (2, .ref (r 0)), (1, .ref (q 0)), (0, .ref b)] [.int 8, .int 0]
      exfalso; omega
    · show GW κ 4 82 21282 (wX q d iX0 aX0 ++ wM r g iM1 aM1 lM1) 1460 [(3, .int 0), (2, .ref (r 0)), (1, .ref (q 0)), (0, .ref b)] [.int 0, .int 0]
      exfalso; omega
    · show GW κ 4 82 21282 (wX q d iX0 aX0 ++ wM r g iM1 aM1 lM1) 1460 [(3, .int 0), (2, .ref (r 0)), (1, .ref (q 0)), (0, .ref b)] [.int 0, .int 0]
      refine g_icmp_eq (tgt := 1465) (a := 0) (b := 0) hk dL_law_1460 (by decide) rfl rfl (fun _ => ?_) (fun z9 => absurd (show 0 = 0 from by decide) z9)
      exact tail _
    · show GW κ 4 82 21282 (wX q d iX0 aX0 ++ wM r g iM1 aM1 lM1) 1460 [(3, .int 0), (2, .ref (r 0)), (1, .ref (q 0)), (0, .ref b)] [.int 0, .int 0]
      exfalso; omega
    · show GW κ 4 82 21282 (wX q d iX0 aX0 ++ wM r g iM1 aM1 lM1) 1460 [(3, .int 0), (2, .ref (r 0)), (1, .ref (q 0)), (0, .ref b)] [.int 0, .int 0]
      exfalso; omega
    · show GW κ 4 82 21282 (wX q d iX0 aX0 ++ wM r g iM1 aM1 lM1) 1460 [(3, .int 0), (2, .ref (r 0)), (1, .ref (q 0)), (0, .ref b)] [.int 0, .int 0]
      exfalso; omega
    · show GW κ 4 82 21282 (wX q d iX0 aX0 ++ wM r g iM1 aM1 lM1) 1460 [(3, .int 0), (2, .ref (r 0)), (1, .ref (q 0)), (0, .ref b)] [.int (-1000), .int 0]
      exfalso; omega
    · show GW κ 4 82 21282 (wX q d iX0 aX0 ++ wM r g iM1 aM1 lM1) 1460 [(3, .int 0), (2, .ref (r 0)), (1, .ref (q 0)), (0, .ref b)] [.int (-1000), .int 0]
      exfalso; omega
    · show GW κ 4 82 21282 (wX q d iX0 aX0 ++ wM r g iM1 aM1 lM1) 1460 [(3, .int 0), (2, .ref (r 0)), (1, .ref (q 0)), (0, .ref b)] [.int 0, .int 0]
      exfalso; omega
    · show GW κ 4 82 21282 (wX q d iX0 aX0 ++ wM r g iM1 aM1 lM1) 1460 [(3, .int 0), (2, .ref (r 0)), (1, .ref (q 0)), (0, .ref b)] [.int (-1), .int 0]
      exfalso; omega
  · show GW κ 4 82 21282 (wM r g iM1 aM1 lM1 ++ wX q d iX0 aX0) 1451 [(3, .int 0), (2, .ref (r 0)), (1, .ref (q 0)), (0, .ref b)] [.int 0]
    refine g_aload_n hk dL_law_1451 rfl ?_
    refine g_aload_n hk dL_law_1452 rfl ?_
    refine g_iload_n hk dL_law_1453 rfl ?_
    refine g_iconst (v := 1) hk dL_law_1454 (by decide) ?_
    refine g_iadd hk dL_law_1455 ?_
    refine g_norm (v := 1) (by decide) ?_
    refine g_sld (v := xs 1) hk hX (vp_in_iff.mpr ⟨by decide, by show (1 : Int) < (L : Int); omega⟩) rfl dL_law_1456 ?_
    refine g_callV hk (m203_X12_count l D zt g r (xs 1)) (SP.pre _ _) (fun q h => List.mem_append_right _ h) gL_law_X12_count rfl rfl rfl (by decide +kernel) ⟨Nat.le_of_ble_eq_true rfl, Nat.le_of_ble_eq_true rfl⟩ 0 rfl rfl rfl rfl (Nat.le_of_ble_eq_true rfl) ⟨Nat.le_of_ble_eq_true rfl, Nat.le_of_ble_eq_true rfl⟩ dL_law_1457 (fun v ty' w' hp hk' => ?_)
    rcases hp with ⟨c4962, rfl, rfl⟩ | ⟨c4963, c4964, rfl, rfl⟩ | ⟨c4965, c4966, c4967, rfl, rfl⟩ | ⟨c4968, c4969, c4970, c4971, rfl, rfl⟩ | ⟨c4972, c4973, c4974, c4975, c4976, rfl, rfl⟩ | ⟨c4977, c4978, c4979, c4980, c4981, c4982, rfl, rfl⟩ | ⟨c4983, c4984, c4985, c4986, c4987, c4988, c4989, rfl, rfl⟩ | ⟨c4990, c4991, c4992, c4993, c4994, c4995, c4996, c4997, rfl, rfl⟩ | ⟨c4998, c4999, c5000, c5001, c5002, c5003, c5004, c5005, c5006, rfl, rfl⟩ | ⟨c5007, c5008, c5009, c5010, c5011, c5012, c5013, c5014, c5015, c5016, rfl, rfl⟩ | ⟨c5017, c5018, c5019, c5020, c5021, c5022, c5023, c5024, c5025, c5026, c5027, rfl, rfl⟩ | ⟨c5028, c5029, c5030, c5031, c5032, c5033, c5034, c5035, c5036, c5037, c5038, c5039, rfl, rfl⟩ | ⟨c5040, c5041, c5042, c5043, c5044, c5045, c5046, c5047, c5048, c5049, c5050, c5051, c5052, rfl, rfl⟩ | ⟨c5053, c5054, c5055, c5056, c5057, c5058, c5059, c5060, c5061, c5062, c5063, c5064, c5065, c5066, rfl, rfl⟩ | ⟨c5067, c5068, c5069, c5070, c5071, c5072, c5073, c5074, c5075, c5076, c5077, c5078, c5079, c5080, c5081, rfl, rfl⟩ | ⟨c5082, c5083, c5084, c5085, c5086, c5087, c5088, c5089, c5090, c5091, c5092, c5093, c5094, c5095, c5096, rfl, rfl⟩
    · show GW κ 4 82 21282 (wX q d iX0 aX0 ++ wM r g iM1 aM1 lM1) 1460 [(3, .int 0), (2, .ref (r 0)), (1, .ref (q 0)), (0, .ref b)] [.int 0, .int 0]
      exfalso; omega
    · show GW κ 4 82 21282 (wX q d iX0 aX0 ++ wM r g iM1 aM1 lM1) 1460 [(3, .int 0), (2, .ref (r 0)), (1, .ref (q 0)), (0, .ref b)] [.int 0, .int 0]
      exfalso; omega
    · show GW κ 4 82 21282 (wX q d iX0 aX0 ++ wM r g iM1 aM1 lM1) 1460 [(3, .int 0), (2, .ref (r 0)), (1, .ref (q 0)), (0, .ref b)] [.int 0, .int 0]
      exfalso; omega
    · show GW κ 4 82 21282 (wX q d iX0 aX0 ++ wM r g iM1 aM1 lM1) 1460 [(3, .int 0), (2, .ref (r 0)), (1, .ref (q 0)), (0, .ref b)] [.int 2, .int 0]
      exfalso; omega
    · show GW κ 4 82 21282 (wX q d iX0 aX0 ++ wM r g iM1 aM1 lM1) 1460 [(3, .int 0), (2, .ref (r 0)), (1, .ref (q 0)), (0, .ref b)] [.int 0, .int 0]
      exfalso; omega
    · show GW κ 4 82 21282 (wX q d iX0 aX0 ++ wM r g iM1 aM1 lM1) 1460 [(3, .int 0), (2, .ref (r 0)), (1, .ref (q 0)), (0, .ref b)] [.int 0, .int 0]
      exfalso; omega
    · show GW κ 4 82 21282 (wX q d iX0 aX0 ++ wM r g iM1 aM1 lM1) 1460 [(3, .int 0), (2, .ref (r 0)), (1, .ref (q 0)), (0, .ref b)] [.int 8, .int 0]
      exfalso; omega
    · show GW κ 4 82 21282 (wX q d iX0 aX0 ++ wM r g iM1 aM1 lM1) 1460 [(3, .int 0), (2, .ref (r 0)), (1, .ref (q 0)), (0, .ref b)] [.int 0, .int 0]
      exfalso; omega
    · show GW κ 4 82 21282 (wX q d iX0 aX0 ++ wM r g iM1 aM1 lM1) 1460 [(3, .int 0), (2, .ref (r 0)), (1, .ref (q 0)), (0, .ref b)] [.int 0, .int 0]
      exfalso; omega
    · show GW κ 4 82 21282 (wX q d iX0 aX0 ++ wM r g iM1 aM1 lM1) 1460 [(3, .int 0), (2, .ref (r 0)), (1, .ref (q 0)), (0, .ref b)] [.int 0, .int 0]
      refine g_icmp_eq (tgt := 1465) (a := 0) (b := 0) hk dL_law_1460 (by decide) rfl rfl (fun _ => ?_) (fun z9 => absurd (show 0 = 0 from by decide) z9)
      exact tail _
    · show GW κ 4 82 21282 (wX q d iX0 aX0 ++ wM r g iM1 aM1 lM1) 1460 [(3, .int 0), (2, .ref (r 0)), (1, .ref (q 0)), (0, .ref b)] [.int 0, .int 0]
      exfalso; omega
    · show GW κ 4 82 21282 (wX q d iX0 aX0 ++ wM r g iM1 aM1 lM1) 1460 [(3, .int 0), (2, .ref (r 0)), (1, .ref (q 0)), (0, .ref b)] [.int 0, .int 0]
      exfalso; omega
    · show GW κ 4 82 21282 (wX q d iX0 aX0 ++ wM r g iM1 aM1 lM1) 1460 [(3, .int 0), (2, .ref (r 0)), (1, .ref (q 0)), (0, .ref b)] [.int (-1000), .int 0]
      exfalso; omega
    · show GW κ 4 82 21282 (wX q d iX0 aX0 ++ wM r g iM1 aM1 lM1) 1460 [(3, .int 0), (2, .ref (r 0)), (1, .ref (q 0)), (0, .ref b)] [.int (-1000), .int 0]
      exfalso; omega
    · show GW κ 4 82 21282 (wX q d iX0 aX0 ++ wM r g iM1 aM1 lM1) 1460 [(3, .int 0), (2, .ref (r 0)), (1, .ref (q 0)), (0, .ref b)] [.int 0, .int 0]
      exfalso; omega
    · show GW κ 4 82 21282 (wX q d iX0 aX0 ++ wM r g iM1 aM1 lM1) 1460 [(3, .int 0), (2, .ref (r 0)), (1, .ref (q 0)), (0, .ref b)] [.int (-1), .int 0]
      exfalso; omega
  · show GW κ 4 82 21282 (wM r g iM1 aM1 lM1 ++ wX q d iX0 aX0) 1451 [(3, .int 0), (2, .ref (r 0)), (1, .ref (q 0)), (0, .ref b)] [.int 0]
    refine g_aload_n hk dL_law_1451 rfl ?_
    refine g_aload_n hk dL_law_1452 rfl ?_
    refine g_iload_n hk dL_law_1453 rfl ?_
    refine g_iconst (v := 1) hk dL_law_1454 (by decide) ?_
    refine g_iadd hk dL_law_1455 ?_
    refine g_norm (v := 1) (by decide) ?_
    refine g_sld (v := xs 1) hk hX (vp_in_iff.mpr ⟨by decide, by show (1 : Int) < (L : Int); omega⟩) rfl dL_law_1456 ?_
    refine g_callV hk (m203_X12_count l D zt g r (xs 1)) (SP.pre _ _) (fun q h => List.mem_append_right _ h) gL_law_X12_count rfl rfl rfl (by decide +kernel) ⟨Nat.le_of_ble_eq_true rfl, Nat.le_of_ble_eq_true rfl⟩ 0 rfl rfl rfl rfl (Nat.le_of_ble_eq_true rfl) ⟨Nat.le_of_ble_eq_true rfl, Nat.le_of_ble_eq_true rfl⟩ dL_law_1457 (fun v ty' w' hp hk' => ?_)
    rcases hp with ⟨c5097, rfl, rfl⟩ | ⟨c5098, c5099, rfl, rfl⟩ | ⟨c5100, c5101, c5102, rfl, rfl⟩ | ⟨c5103, c5104, c5105, c5106, rfl, rfl⟩ | ⟨c5107, c5108, c5109, c5110, c5111, rfl, rfl⟩ | ⟨c5112, c5113, c5114, c5115, c5116, c5117, rfl, rfl⟩ | ⟨c5118, c5119, c5120, c5121, c5122, c5123, c5124, rfl, rfl⟩ | ⟨c5125, c5126, c5127, c5128, c5129, c5130, c5131, c5132, rfl, rfl⟩ | ⟨c5133, c5134, c5135, c5136, c5137, c5138, c5139, c5140, c5141, rfl, rfl⟩ | ⟨c5142, c5143, c5144, c5145, c5146, c5147, c5148, c5149, c5150, c5151, rfl, rfl⟩ | ⟨c5152, c5153, c5154, c5155, c5156, c5157, c5158, c5159, c5160, c5161, c5162, rfl, rfl⟩ | ⟨c5163, c5164, c5165, c5166, c5167, c5168, c5169, c5170, c5171, c5172, c5173, c5174, rfl, rfl⟩ | ⟨c5175, c5176, c5177, c5178, c5179, c5180, c5181, c5182, c5183, c5184, c5185, c5186, c5187, rfl, rfl⟩ | ⟨c5188, c5189, c5190, c5191, c5192, c5193, c5194, c5195, c5196, c5197, c5198, c5199, c5200, c5201, rfl, rfl⟩ | ⟨c5202, c5203, c5204, c5205, c5206, c5207, c5208, c5209, c5210, c5211, c5212, c5213, c5214, c5215, c5216, rfl, rfl⟩ | ⟨c5217, c5218, c5219, c5220, c5221, c5222, c5223, c5224, c5225, c5226, c5227, c5228, c5229, c5230, c5231, rfl, rfl⟩
    · show GW κ 4 82 21282 (wX q d iX0 aX0 ++ wM r g iM1 aM1 lM1) 1460 [(3, .int 0), (2, .ref (r 0)), (1, .ref (q 0)), (0, .ref b)] [.int 0, .int 0]
      exfalso; omega
    · show GW κ 4 82 21282 (wX q d iX0 aX0 ++ wM r g iM1 aM1 lM1) 1460 [(3, .int 0), (2, .ref (r 0)), (1, .ref (q 0)), (0, .ref b)] [.int 0, .int 0]
      exfalso; omega
    · show GW κ 4 82 21282 (wX q d iX0 aX0 ++ wM r g iM1 aM1 lM1) 1460 [(3, .int 0), (2, .ref (r 0)), (1, .ref (q 0)), (0, .ref b)] [.int 0, .int 0]
      exfalso; omega
    · show GW κ 4 82 21282 (wX q d iX0 aX0 ++ wM r g iM1 aM1 lM1) 1460 [(3, .int 0), (2, .ref (r 0)), (1, .ref (q 0)), (0, .ref b)] [.int 2, .int 0]
      exfalso; omega
    · show GW κ 4 82 21282 (wX q d iX0 aX0 ++ wM r g iM1 aM1 lM1) 1460 [(3, .int 0), (2, .ref (r 0)), (1, .ref (q 0)), (0, .ref b)] [.int 0, .int 0]
      exfalso; omega
    · show GW κ 4 82 21282 (wX q d iX0 aX0 ++ wM r g iM1 aM1 lM1) 1460 [(3, .int 0), (2, .ref (r 0)), (1, .ref (q 0)), (0, .ref b)] [.int 0, .int 0]
      exfalso; omega
    · show GW κ 4 82 21282 (wX q d iX0 aX0 ++ wM r g iM1 aM1 lM1) 1460 [(3, .int 0), (2, .ref (r 0)), (1, .ref (q 0)), (0, .ref b)] [.int 8, .int 0]
      exfalso; omega
    · show GW κ 4 82 21282 (wX q d iX0 aX0 ++ wM r g iM1 aM1 lM1) 1460 [(3, .int 0), (2, .ref (r 0)), (1, .ref (q 0)), (0, .ref b)] [.int 0, .int 0]
      exfalso; omega
    · show GW κ 4 82 21282 (wX q d iX0 aX0 ++ wM r g iM1 aM1 lM1) 1460 [(3, .int 0), (2, .ref (r 0)), (1, .ref (q 0)), (0, .ref b)] [.int 0, .int 0]
      exfalso; omega
    · show GW κ 4 82 21282 (wX q d iX0 aX0 ++ wM r g iM1 aM1 lM1) 1460 [(3, .int 0), (2, .ref (r 0)), (1, .ref (q 0)), (0, .ref b)] [.int 0, .int 0]
      exfalso; omega
    · show GW κ 4 82 21282 (wX q d iX0 aX0 ++ wM r g iM1 aM1 lM1) 1460 [(3, .int 0), (2, .ref (r 0)), (1, .ref (q 0)), (0, .ref b)] [.int 0, .int 0]
      refine g_icmp_eq (tgt := 1465) (a := 0) (b := 0) hk dL_law_1460 (by decide) rfl rfl (fun _ => ?_) (fun z9 => absurd (show 0 = 0 from by decide) z9)
      exact tail _
    · show GW κ 4 82 21282 (wX q d iX0 aX0 ++ wM r g iM1 aM1 lM1) 1460 [(3, .int 0), (2, .ref (r 0)), (1, .ref (q 0)), (0, .ref b)] [.int 0, .int 0]
      exfalso; omega
    · show GW κ 4 82 21282 (wX q d iX0 aX0 ++ wM r g iM1 aM1 lM1) 1460 [(3, .int 0), (2, .ref (r 0)), (1, .ref (q 0)), (0, .ref b)] [.int (-1000), .int 0]
      exfalso; omega
    · show GW κ 4 82 21282 (wX q d iX0 aX0 ++ wM r g iM1 aM1 lM1) 1460 [(3, .int 0), (2, .ref (r 0)), (1, .ref (q 0)), (0, .ref b)] [.int (-1000), .int 0]
      exfalso; omega
    · show GW κ 4 82 21282 (wX q d iX0 aX0 ++ wM r g iM1 aM1 lM1) 1460 [(3, .int 0), (2, .ref (r 0)), (1, .ref (q 0)), (0, .ref b)] [.int 0, .int 0]
      exfalso; omega
    · show GW κ 4 82 21282 (wX q d iX0 aX0 ++ wM r g iM1 aM1 lM1) 1460 [(3, .int 0), (2, .ref (r 0)), (1, .ref (q 0)), (0, .ref b)] [.int (-1), .int 0]
      exfalso; omega
  · show GW κ 4 82 21282 (wM r g iM1 aM1 lM1 ++ wX q d iX0 aX0) 1451 [(3, .int 0), (2, .ref (r 0)), (1, .ref (q 0)), (0, .ref b)] [.int 0]
    refine g_aload_n hk dL_law_1451 rfl ?_
    refine g_aload_n hk dL_law_1452 rfl ?_
    refine g_iload_n hk dL_law_1453 rfl ?_
    refine g_iconst (v := 1) hk dL_law_1454 (by decide) ?_
    refine g_iadd hk dL_law_1455 ?_
    refine g_norm (v := 1) (by decide) ?_
    refine g_sld (v := xs 1) hk hX (vp_in_iff.mpr ⟨by decide, by show (1 : Int) < (L : Int); omega⟩) rfl dL_law_1456 ?_
    refine g_callV hk (m203_X12_count l D zt g r (xs 1)) (SP.pre _ _) (fun q h => List.mem_append_right _ h) gL_law_X12_count rfl rfl rfl (by decide +kernel) ⟨Nat.le_of_ble_eq_true rfl, Nat.le_of_ble_eq_true rfl⟩ 0 rfl rfl rfl rfl (Nat.le_of_ble_eq_true rfl) ⟨Nat.le_of_ble_eq_true rfl, Nat.le_of_ble_eq_true rfl⟩ dL_law_1457 (fun v ty' w' hp hk' => ?_)
    rcases hp with ⟨c5232, rfl, rfl⟩ | ⟨c5233, c5234, rfl, rfl⟩ | ⟨c5235, c5236, c5237, rfl, rfl⟩ | ⟨c5238, c5239, c5240, c5241, rfl, rfl⟩ | ⟨c5242, c5243, c5244, c5245, c5246, rfl, rfl⟩ | ⟨c5247, c5248, c5249, c5250, c5251, c5252, rfl, rfl⟩ | ⟨c5253, c5254, c5255, c5256, c5257, c5258, c5259, rfl, rfl⟩ | ⟨c5260, c5261, c5262, c5263, c5264, c5265, c5266, c5267, rfl, rfl⟩ | ⟨c5268, c5269, c5270, c5271, c5272, c5273, c5274, c5275, c5276, rfl, rfl⟩ | ⟨c5277, c5278, c5279, c5280, c5281, c5282, c5283, c5284, c5285, c5286, rfl, rfl⟩ | ⟨c5287, c5288, c5289, c5290, c5291, c5292, c5293, c5294, c5295, c5296, c5297, rfl, rfl⟩ | ⟨c5298, c5299, c5300, c5301, c5302, c5303, c5304, c5305, c5306, c5307, c5308, c5309, rfl, rfl⟩ | ⟨c5310, c5311, c5312, c5313, c5314, c5315, c5316, c5317, c5318, c5319, c5320, c5321, c5322, rfl, rfl⟩ | ⟨c5323, c5324, c5325, c5326, c5327, c5328, c5329, c5330, c5331, c5332, c5333, c5334, c5335, c5336, rfl, rfl⟩ | ⟨c5337, c5338, c5339, c5340, c5341, c5342, c5343, c5344, c5345, c5346, c5347, c5348, c5349, c5350, c5351, rfl, rfl⟩ | ⟨c5352, c5353, c5354, c5355, c5356, c5357, c5358, c5359, c5360, c5361, c5362, c5363, c5364, c5365, c5366, rfl, rfl⟩
    · show GW κ 4 82 21282 (wX q d iX0 aX0 ++ wM r g iM1 aM1 lM1) 1460 [(3, .int 0), (2, .ref (r 0)), (1, .ref (q 0)), (0, .ref b)] [.int 0, .int 0]
      exfalso; omega
    · show GW κ 4 82 21282 (wX q d iX0 aX0 ++ wM r g iM1 aM1 lM1) 1460 [(3, .int 0), (2, .ref (r 0)), (1, .ref (q 0)), (0, .ref b)] [.int 0, .int 0]
      exfalso; omega
    · show GW κ 4 82 21282 (wX q d iX0 aX0 ++ wM r g iM1 aM1 lM1) 1460 [(3, .int 0), (2, .ref (r 0)), (1, .ref (q 0)), (0, .ref b)] [.int 0, .int 0]
      exfalso; omega
    · show GW κ 4 82 21282 (wX q d iX0 aX0 ++ wM r g iM1 aM1 lM1) 1460 [(3, .int 0), (2, .ref (r 0)), (1, .ref (q 0)), (0, .ref b)] [.int 2, .int 0]
      exfalso; omega
    · show GW κ 4 82 21282 (wX q d iX0 aX0 ++ wM r g iM1 aM1 lM1) 1460 [(3, .int 0), (2, .ref (r 0)), (1, .ref (q 0)), (0, .ref b)] [.int 0, .int 0]
      exfalso; omega
    · show GW κ 4 82 21282 (wX q d iX0 aX0 ++ wM r g iM1 aM1 lM1) 1460 [(3, .int 0), (2, .ref (r 0)), (1, .ref (q 0)), (0, .ref b)] [.int 0, .int 0]
      exfalso; omega
    · show GW κ 4 82 21282 (wX q d iX0 aX0 ++ wM r g iM1 aM1 lM1) 1460 [(3, .int 0), (2, .ref (r 0)), (1, .ref (q 0)), (0, .ref b)] [.int 8, .int 0]
      exfalso; omega
    · show GW κ 4 82 21282 (wX q d iX0 aX0 ++ wM r g iM1 aM1 lM1) 1460 [(3, .int 0), (2, .ref (r 0)), (1, .ref (q 0)), (0, .ref b)] [.int 0, .int 0]
      exfalso; omega
    · show GW κ 4 82 21282 (wX q d iX0 aX0 ++ wM r g iM1 aM1 lM1) 1460 [(3, .int 0), (2, .ref (r 0)), (1, .ref (q 0)), (0, .ref b)] [.int 0, .int 0]
      exfalso; omega
    · show GW κ 4 82 21282 (wX q d iX0 aX0 ++ wM r g iM1 aM1 lM1) 1460 [(3, .int 0), (2, .ref (r 0)), (1, .ref (q 0)), (0, .ref b)] [.int 0, .int 0]
      exfalso; omega
    · show GW κ 4 82 21282 (wX q d iX0 aX0 ++ wM r g iM1 aM1 lM1) 1460 [(3, .int 0), (2, .ref (r 0)), (1, .ref (q 0)), (0, .ref b)] [.int 0, .int 0]
      exfalso; omega
    · show GW κ 4 82 21282 (wX q d iX0 aX0 ++ wM r g iM1 aM1 lM1) 1460 [(3, .int 0), (2, .ref (r 0)), (1, .ref (q 0)), (0, .ref b)] [.int 0, .int 0]
      refine g_icmp_eq (tgt := 1465) (a := 0) (b := 0) hk dL_law_1460 (by decide) rfl rfl (fun _ => ?_) (fun z9 => absurd (show 0 = 0 from by decide) z9)
      exact tail _
    · show GW κ 4 82 21282 (wX q d iX0 aX0 ++ wM r g iM1 aM1 lM1) 1460 [(3, .int 0), (2, .ref (r 0)), (1, .ref (q 0)), (0, .ref b)] [.int (-1000), .int 0]
      exfalso; omega
    · show GW κ 4 82 21282 (wX q d iX0 aX0 ++ wM r g iM1 aM1 lM1) 1460 [(3, .int 0), (2, .ref (r 0)), (1, .ref (q 0)), (0, .ref b)] [.int (-1000), .int 0]
      exfalso; omega
    · show GW κ 4 82 21282 (wX q d iX0 aX0 ++ wM r g iM1 aM1 lM1) 1460 [(3, .int 0), (2, .ref (r 0)), (1, .ref (q 0)), (0, .ref b)] [.int 0, .int 0]
      exfalso; omega
    · show GW κ 4 82 21282 (wX q d iX0 aX0 ++ wM r g iM1 aM1 lM1) 1460 [(3, .int 0), (2, .ref (r 0)), (1, .ref (q 0)), (0, .ref b)] [.int (-1), .int 0]
      exfalso; omega
  · show GW κ 4 82 21282 (wM r g iM1 aM1 lM1 ++ wX q d iX0 aX0) 1451 [(3, .int 0), (2, .ref (r 0)), (1, .ref (q 0)), (0, .ref b)] [.int (-1000)]
    refine g_aload_n hk dL_law_1451 rfl ?_
    refine g_aload_n hk dL_law_1452 rfl ?_
    refine g_iload_n hk dL_law_1453 rfl ?_
    refine g_iconst (v := 1) hk dL_law_1454 (by decide) ?_
    refine g_iadd hk dL_law_1455 ?_
    refine g_norm (v := 1) (by decide) ?_
    refine g_sld (v := xs 1) hk hX (vp_in_iff.mpr ⟨by decide, by show (1 : Int) < (L : Int); omega⟩) rfl dL_law_1456 ?_
    refine g_callV hk (m203_X12_count l D zt g r (xs 1)) (SP.pre _ _) (fun q h => List.mem_append_right _ h) gL_law_X12_count rfl rfl rfl (by decide +kernel) ⟨Nat.le_of_ble_eq_true rfl, Nat.le_of_ble_eq_true rfl⟩ 0 rfl rfl rfl rfl (Nat.le_of_ble_eq_true rfl) ⟨Nat.le_of_ble_eq_true rfl, Nat.le_of_ble_eq_true rfl⟩ dL_law_1457 (fun v ty' w' hp hk' => ?_)
    rcases hp with ⟨c5367, rfl, rfl⟩ | ⟨c5368, c5369, rfl, rfl⟩ | ⟨c5370, c5371, c5372, rfl, rfl⟩ | ⟨c5373, c5374, c5375, c5376, rfl, rfl⟩ | ⟨c5377, c5378, c5379, c5380, c5381, rfl, rfl⟩ | ⟨c5382, c5383, c5384, c5385, c5386, c5387, rfl, rfl⟩ | ⟨c5388, c5389, c5390, c5391, c5392, c5393, c5394, rfl, rfl⟩ | ⟨c5395, c5396, c5397, c5398, c5399, c5400, c5401, c5402, rfl, rfl⟩ | ⟨c5403, c5404, c5405, c5406, c5407, c5408, c5409, c5410, c5411, rfl, rfl⟩ | ⟨c5412, c5413, c5414, c5415, c5416, c5417, c5418, c5419, c5420, c5421, rfl, rfl⟩ | ⟨c5422, c5423, c5424, c5425, c5426, c5427, c5428, c5429, c5430, c5431, c5432, rfl, rfl⟩ | ⟨c5433, c5434, c5435, c5436, c5437, c5438, c5439, c5440, c5441, c5442, c5443, c5444, rfl, rfl⟩ | ⟨c5445, c5446, c5447, c5448, c5449, c5450, c5451, c5452, c5453, c5454, c5455, c5456, c5457, rfl, rfl⟩ | ⟨c5458, c5459, c5460, c5461, c5462, c5463, c5464, c5465, c5466, c5467, c5468, c5469, c5470, c5471, rfl, rfl⟩ | ⟨c5472, c5473, c5474, c5475, c5476, c5477, c5478, c5479, c5480, c5481, c5482, c5483, c5484, c5485, c5486, rfl, rfl⟩ | ⟨c5487, c5488, c5489, c5490, c5491, c5492, c5493, c5494, c5495, c5496, c5497, c5498, c5499, c5500, c5501, rfl, rfl⟩
    · show GW κ 4 82 21282 (wX q d iX0 aX0 ++ wM r g iM1 aM1 lM1) 1460 [(3, .int 0), (2, .ref (r 0)), (1, .ref (q 0)), (0, .ref b)] [.int 0, .int (-1000)]
      exfalso; omega
    · show GW κ 4 82 21282 (wX q d iX0 aX0 ++ wM r g iM1 aM1 lM1) 1460 [(3, .int 0), (2, .ref (r 0)), (1, .ref (q 0)), (0, .ref b)] [.int 0, .int (-1000)]
      exfalso; omega
    · show GW κ 4 82 21282 (wX q d iX0 aX0 ++ wM r g iM1 aM1 lM1) 1460 [(3, .int 0), (2, .ref (r 0)), (1, .ref (q 0)), (0, .ref b)] [.int 0, .int (-1000)]
      exfalso; omega
    · show GW κ 4 82 21282 (wX q d iX0 aX0 ++ wM r g iM1 aM1 lM1) 1460 [(3, .int 0), (2, .ref (r 0)), (1, .ref (q 0)), (0, .ref b)] [.int 2, .int (-1000)]
      exfalso; omega
    · show GW κ 4 82 21282 (wX q d iX0 aX0 ++ wM r g iM1 aM1 lM1) 1460 [(3, .int 0), (2, .ref (r 0)), (1, .ref (q 0)), (0, .ref b)] [.int 0, .int (-1000)]
      exfalso; omega
    · show GW κ 4 82 21282 (wX q d iX0 aX0 ++ wM r g iM1 aM1 lM1) 1460 [(3, .int 0), (2, .ref (r 0)), (1, .ref (q 0)), (0, .ref b)] [.int 0, .int (-1000)]
      exfalso; omega
    · show GW κ 4 82 21282 (wX q d iX0 aX0 ++ wM r g iM1 aM1 lM1) 1460 [(3, .int 0), (2, .ref (r 0)), (1, .ref (q 0)), (0, .ref b)] [.int 8, .int (-1000)]
      exfalso; omega
    · show GW κ 4 82 21282 (wX q d iX0 aX0 ++ wM r g iM1 aM1 lM1) 1460 [(3, .int 0), (2, .ref (r 0)), (1, .ref (q 0)), (0, .ref b)] [.int 0, .int (-1000)]
      exfalso; omega
    · show GW κ 4 82 21282 (wX q d iX0 aX0 ++ wM r g iM1 aM1 lM1) 1460 [(3, .int 0), (2, .ref (r 0)), (1, .ref (q 0)), (0, .ref b)] [.int 0, .int (-1000)]
      exfalso; omega
    · show GW κ 4 82 21282 (wX q d iX0 aX0 ++ wM r g iM1 aM1 lM1) 1460 [(3, .int 0), (2, .ref (r 0)), (1, .ref (q 0)), (0, .ref b)] [.int 0, .int (-1000)]
      exfalso; omega
    · show GW κ 4 82 21282 (wX q d iX0 aX0 ++ wM r g iM1 aM1 lM1) 1460 [(3, .int 0), (2, .ref (r 0)), (1, .ref (q 0)), (0, .ref b)] [.int 0, .int (-1000)]
      exfalso; omega
    · show GW κ 4 82 21282 (wX q d iX0 aX0 ++ wM r g iM1 aM1 lM1) 1460 [(3, .int 0), (2, .ref (r 0)), (1, .ref (q 0)), (0, .ref b)] [.int 0, .int (-1000)]
      exfalso; omega
    · show GW κ 4 82 21282 (wX q d iX0 aX0 ++ wM r g iM1 aM1 lM1) 1460 [(3, .int 0), (2, .ref (r 0)), (1, .ref (q 0)), (0, .ref b)] [.int (-1000), .int (-1000)]
      refine g_icmp_eq (tgt := 1465) (a := (-1000)) (b := (-1000)) hk dL_law_1460 (by decide) rfl rfl (fun _ => ?_) (fun z9 => absurd (show (-1000) = (-1000) from by decide) z9)
      exact tail _
    · show GW κ 4 82 21282 (wX q d iX0 aX0 ++ wM r g iM1 aM1 lM1) 1460 [(3, .int 0), (2, .ref (r 0)), (1, .ref (q 0)), (0, .ref b)] [.int (-1000), .int (-1000)]
      exfalso; omega
    · show GW κ 4 82 21282 (wX q d iX0 aX0 ++ wM r g iM1 aM1 lM1) 1460 [(3, .int 0), (2, .ref (r 0)), (1, .ref (q 0)), (0, .ref b)] [.int 0, .int (-1000)]
      exfalso; omega
    · show GW κ 4 82 21282 (wX q d iX0 aX0 ++ wM r g iM1 aM1 lM1) 1460 [(3, .int 0), (2, .ref (r 0)), (1, .ref (q 0)), (0, .ref b)] [.int (-1), .int (-1000)]
      exfalso; omega
  · show GW κ 4 82 21282 (wM r g iM1 aM1 lM1 ++ wX q d iX0 aX0) 1451 [(3, .int 0), (2, .ref (r 0)), (1, .ref (q 0)), (0, .ref b)] [.int (-1000)]
    refine g_aload_n hk dL_law_1451 rfl ?_
    refine g_aload_n hk dL_law_1452 rfl ?_
    refine g_iload_n hk dL_law_1453 rfl ?_
    refine g_iconst (v := 1) hk dL_law_1454 (by decide) ?_
    refine g_iadd hk dL_law_1455 ?_
    refine g_norm (v := 1) (by decide) ?_
    refine g_sld (v := xs 1) hk hX (vp_in_iff.mpr ⟨by decide, by show (1 : Int) < (L : Int); omega⟩) rfl dL_law_1456 ?_
    refine g_callV hk (m203_X12_count l D zt g r (xs 1)) (SP.pre _ _) (fun q h => List.mem_append_right _ h) gL_law_X12_count rfl rfl rfl (by decide +kernel) ⟨Nat.le_of_ble_eq_true rfl, Nat.le_of_ble_eq_true rfl⟩ 0 rfl rfl rfl rfl (Nat.le_of_ble_eq_true rfl) ⟨Nat.le_of_ble_eq_true rfl, Nat.le_of_ble_eq_true rfl⟩ dL_law_1457 (fun v ty' w' hp hk' => ?_)
    rcases hp with ⟨c5502, rfl, rfl⟩ | ⟨c5503, c5504, rfl, rfl⟩ | ⟨c5505, c5506, c5507, rfl, rfl⟩ | ⟨c5508, c5509, c5510, c5511, rfl, rfl⟩ | ⟨c5512, c5513, c5514, c5515, c5516, rfl, rfl⟩ | ⟨c5517, c5518, c5519, c5520, c5521, c5522, rfl, rfl⟩ | ⟨c5523, c5524, c5525, c5526, c5527, c5528, c5529, rfl, rfl⟩ | ⟨c5530, c5531, c5532, c5533, c5534, c5535, c5536, c5537, rfl, rfl⟩ | ⟨c5538, c5539, c5540, c5541, c5542, c5543, c5544, c5545, c5546, rfl, rfl⟩ | ⟨c5547, c5548, c5549, c5550, c5551, c5552, c5553, c5554, c5555, c5556, rfl, rfl⟩ | ⟨c5557, c5558, c5559, c5560, c5561, c5562, c5563, c5564, c5565, c5566, c5567, rfl, rfl⟩ | ⟨c5568, c5569, c5570, c5571, c5572, c5573, c5574, c5575, c5576, c5577, c5578, c5579, rfl, rfl⟩ | ⟨c5580, c5581, c5582, c5583, c5584, c5585, c5586, c5587, c5588, c5589, c5590, c5591, c5592, rfl, rfl⟩ | ⟨c5593, c5594, c5595, c5596, c5597, c5598, c5599, c5600, c5601, c5602, c5603, c5604, c5605, c5606, rfl, rfl⟩ | ⟨c5607, c5608, c5609, c5610, c5611, c5612, c5613, c5614, c5615, c5616, c5617, c5618, c5619, c5620, c5621, rfl, rfl⟩ | ⟨c5622, c5623, c5624, c5625, c5626, c5627, c5628, c5629, c5630, c5631, c5632, c5633, c5634, c5635, c5636, rfl, rfl⟩
    · show GW κ 4 82 21282 (wX q d iX0 aX0 ++ wM r g iM1 aM1 lM1) 1460 [(3, .int 0), (2, .ref (r 0)), (1, .ref (q 0)), (0, .ref b)] [.int 0, .int (-1000)]
      exfalso; omega
    · show GW κ 4 82 21282 (wX q d iX0 aX0 ++ wM r g iM1 aM1 lM1) 1460 [(3, .int 0), (2, .ref (r 0)), (1, .ref (q 0)), (0, .ref b)] [.int 0, .int (-1000)]
      exfalso; omega
    · show GW κ 4 82 21282 (wX q d iX0 aX0 ++ wM r g iM1 aM1 lM1) 1460 [(3, .int 0), (2, .ref (r 0)), (1, .ref (q 0)), (0, .ref b)] [.int 0, .int (-1000)]
      exfalso; omega
    · show GW κ 4 82 21282 (wX q d iX0 aX0 ++ wM r g iM1 aM1 lM1) 1460 [(3, .int 0), (2, .ref (r 0)), (1, .ref (q 0)), (0, .ref b)] [.int 2, .int (-1000)]
      exfalso; omega
    · show GW κ 4 82 21282 (wX q d iX0 aX0 ++ wM r g iM1 aM1 lM1) 1460 [(3, .int 0), (2, .ref (r 0)), (1, .ref (q 0)), (0, .ref b)] [.int 0, .int (-1000)]
      exfalso; omega
    · show GW κ 4 82 21282 (wX q d iX0 aX0 ++ wM r g iM1 aM1 lM1) 1460 [(3, .int 0), (2, .ref (r 0)), (1, .ref (q 0)), (0, .ref b)] [.int 0, .int (-1000)]
      exfalso; omega
    · show GW κ 4 82 21282 (wX q d iX0 aX0 ++ wM r g iM1 aM1 lM1) 1460 [(3, .int 0), (2, .ref (r 0)), (1, .ref (q 0)), (0, .ref b)] [.int 8, .int (-1000)]
      exfalso; omega
    · show GW κ 4 82 21282 (wX q d iX0 aX0 ++ wM r g iM1 aM1 lM1) 1460 [(3, .int 0), (2, .ref (r 0)), (1, .ref (q 0)), (0, .ref b)] [.int 0, .int (-1000)]
      exfalso; omega
    · show GW κ 4 82 21282 (wX q d iX0 aX0 ++ wM r g iM1 aM1 lM1) 1460 [(3, .int 0), (2, .ref (r 0)), (1, .ref (q 0)), (0, .ref b)] [.int 0, .int (-1000)]
      exfalso; omega
    · show GW κ 4 82 21282 (wX q d iX0 aX0 ++ wM r g iM1 aM1 lM1) 1460 [(3, .int 0), (2, .ref (r 0)), (1, .ref (q 0)), (0, .ref b)] [.int 0, .int (-1000)]
      exfalso; omega
    · show GW κ 4 82 21282 (wX q d iX0 aX0 ++ wM r g iM1 aM1 lM1) 1460 [(3, .int 0), (2, .ref (r 0)), (1, .ref (q 0)), (0, .ref b)] [.int 0, .int (-1000)]
      exfalso; omega
    · show GW κ 4 82 21282 (wX q d iX0 aX0 ++ wM r g iM1 aM1 lM1) 1460 [(3, .int 0), (2, .ref (r 0)), (1, .ref (q 0)), (0, .ref b)] [.int 0, .int (-1000)]
      exfalso; omega
    · show GW κ 4 82 21282 (wX q d iX0 aX0 ++ wM r g iM1 aM1 lM1) 1460 [(3, .int 0), (2, .ref (r 0)), (1, .ref (q 0)), (0, .ref b)] [.int (-1000), .int (-1000)]
      exfalso; omega
    · show GW κ 4 82 21282 (wX q d iX0 aX0 ++ wM r g iM1 aM1 lM1) 1460 [(3, .int 0), (2, .ref (r 0)), (1, .ref (q 0)), (0, .ref b)] [.int (-1000), .int (-1000)]
      refine g_icmp_eq (tgt := 1465) (a := (-1000)) (b := (-1000)) hk dL_law_1460 (by decide) rfl rfl (fun _ => ?_) (fun z9 => absurd (show (-1000) = (-1000) from by decide) z9)
      exact tail _
    · show GW κ 4 82 21282 (wX q d iX0 aX0 ++ wM r g iM1 aM1 lM1) 1460 [(3, .int 0), (2, .ref (r 0)), (1, .ref (q 0)), (0, .ref b)] [.int 0, .int (-1000)]
      exfalso; omega
    · show GW κ 4 82 21282 (wX q d iX0 aX0 ++ wM r g iM1 aM1 lM1) 1460 [(3, .int 0), (2, .ref (r 0)), (1, .ref (q 0)), (0, .ref b)] [.int (-1), .int (-1000)]
      exfalso; omega
  · show GW κ 4 82 21282 (wM r g iM1 aM1 lM1 ++ wX q d iX0 aX0) 1451 [(3, .int 0), (2, .ref (r 0)), (1, .ref (q 0)), (0, .ref b)] [.int 0]
    refine g_aload_n hk dL_law_1451 rfl ?_
    refine g_aload_n hk dL_law_1452 rfl ?_
    refine g_iload_n hk dL_law_1453 rfl ?_
    refine g_iconst (v := 1) hk dL_law_1454 (by decide) ?_
    refine g_iadd hk dL_law_1455 ?_
    refine g_norm (v := 1) (by decide) ?_
    refine g_sld (v := xs 1) hk hX (vp_in_iff.mpr ⟨by decide, by show (1 : Int) < (L : Int); omega⟩) rfl dL_law_1456 ?_
    refine g_callV hk (m203_X12_count l D zt g r (xs 1)) (SP.pre _ _) (fun q h => List.mem_append_right _ h) gL_law_X12_count rfl rfl rfl (by decide +kernel) ⟨Nat.le_of_ble_eq_true rfl, Nat.le_of_ble_eq_true rfl⟩ 0 rfl rfl rfl rfl (Nat.le_of_ble_eq_true rfl) ⟨Nat.le_of_ble_eq_true rfl, Nat.le_of_ble_eq_true rfl⟩ dL_law_1457 (fun v ty' w' hp hk' => ?_)
    rcases hp with ⟨c5637, rfl, rfl⟩ | ⟨c5638, c5639, rfl, rfl⟩ | ⟨c5640, c5641, c5642, rfl, rfl⟩ | ⟨c5643, c5644, c5645, c5646, rfl, rfl⟩ | ⟨c5647, c5648, c5649, c5650, c5651, rfl, rfl⟩ | ⟨c5652, c5653, c5654, c5655, c5656, c5657, rfl, rfl⟩ | ⟨c5658, c5659, c5660, c5661, c5662, c5663, c5664, rfl, rfl⟩ | ⟨c5665, c5666, c5667, c5668, c5669, c5670, c5671, c5672, rfl, rfl⟩ | ⟨c5673, c5674, c5675, c5676, c5677, c5678, c5679, c5680, c5681, rfl, rfl⟩ | ⟨c5682, c5683, c5684, c5685, c5686, c5687, c5688, c5689, c5690, c5691, rfl, rfl⟩ | ⟨c5692, c5693, c5694, c5695, c5696, c5697, c5698, c5699, c5700, c5701, c5702, rfl, rfl⟩ | ⟨c5703, c5704, c5705, c5706, c5707, c5708, c5709, c5710, c5711, c5712, c5713, c5714, rfl, rfl⟩ | ⟨c5715, c5716, c5717, c5718, c5719, c5720, c5721, c5722, c5723, c5724, c5725, c5726, c5727, rfl, rfl⟩ | ⟨c5728, c5729, c5730, c5731, c5732, c5733, c5734, c5735, c5736, c5737, c5738, c5739, c5740, c5741, rfl, rfl⟩ | ⟨c5742, c5743, c5744, c5745, c5746, c5747, c5748, c5749, c5750, c5751, c5752, c5753, c5754, c5755, c5756, rfl, rfl⟩ | ⟨c5757, c5758, c5759, c5760, c5761, c5762, c5763, c5764, c5765, c5766, c5767, c5768, c5769, c5770, c5771, rfl, rfl⟩
    · show GW κ 4 82 21282 (wX q d iX0 aX0 ++ wM r g iM1 aM1 lM1) 1460 [(3, .int 0), (2, .ref (r 0)), (1, .ref (q 0)), (0, .ref b)] [.int 0, .int 0]
      exfalso; omega
    · show GW κ 4 82 21282 (wX q d iX0 aX0 ++ wM r g iM1 aM1 lM1) 1460 [(3, .int 0), (2, .ref (r 0)), (1, .ref (q 0)), (0, .ref b)] [.int 0, .int 0]
      exfalso; omega
    · show GW κ 4 82 21282 (wX q d iX0 aX0 ++ wM r g iM1 aM1 lM1) 1460 [(3, .int 0), (2, .ref (r 0)), (1, .ref (q 0)), (0, .ref b)] [.int 0, .int 0]
      exfalso; omega
    · show GW κ 4 82 21282 (wX q d iX0 aX0 ++ wM r g iM1 aM1 lM1) 1460 [(3, .int 0), (2, .ref (r 0)), (1, .ref (q 0)), (0, .ref b)] [.int 2, .int 0]
      exfalso; omega
    · show GW κ 4 82 21282 (wX q d iX0 aX0 ++ wM r g iM1 aM1 lM1) 1460 [(3, .int 0), (2, .ref (r 0)), (1, .ref (q 0)), (0, .ref b)] [.int 0, .int 0]
      exfalso; omega
    · show GW κ 4 82 21282 (wX q d iX0 aX0 ++ wM r g iM1 aM1 lM1) 1460 [(3, .int 0), (2, .ref (r 0)), (1, .ref (q 0)), (0, .ref b)] [.int 0, .int 0]
      exfalso; omega
    · show GW κ 4 82 21282 (wX q d iX0 aX0 ++ wM r g iM1 aM1 lM1) 1460 [(3, .int 0), (2, .ref (r 0)), (1, .ref (q 0)), (0, .ref b)] [.int 8, .int 0]
      exfalso; omega
    · show GW κ 4 82 21282 (wX q d iX0 aX0 ++ wM r g iM1 aM1 lM1) 1460 [(3, .int 0), (2, .ref (r 0)), (1, .ref (q 0)), (0, .ref b)] [.int 0, .int 0]
      exfalso; omega
    · show GW κ 4 82 21282 (wX q d iX0 aX0 ++ wM r g iM1 aM1 lM1) 1460 [(3, .int 0), (2, .ref (r 0)), (1, .ref (q 0)), (0, .ref b)] [.int 0, .int 0]
      exfalso; omega
    · show GW κ 4 82 21282 (wX q d iX0 aX0 ++ wM r g iM1 aM1 lM1) 1460 [(3, .int 0), (2, .ref (r 0)), (1, .ref (q 0)), (0, .ref b)] [.int 0, .int 0]
      exfalso; omega
    · show GW κ 4 82 21282 (wX q d iX0 aX0 ++ wM r g iM1 aM1 lM1) 1460 [(3, .int 0), (2, .ref (r 0)), (1, .ref (q 0)), (0, .ref b)] [.int 0, .int 0]
      exfalso; omega
    · show GW κ 4 82 21282 (wX q d iX0 aX0 ++ wM r g iM1 aM1 lM1) 1460 [(3, .int 0), (2, .ref (r 0)), (1, .ref (q 0)), (0, .ref b)] [.int 0, .int 0]
      exfalso; omega
    · show GW κ 4 82 21282 (wX q d iX0 aX0 ++ wM r g iM1 aM1 lM1) 1460 [(3, .int 0), (2, .ref (r 0)), (1, .ref (q 0)), (0, .ref b)] [.int (-1000), .int 0]
      exfalso; omega
    · show GW κ 4 82 21282 (wX q d iX0 aX0 ++ wM r g iM1 aM1 lM1) 1460 [(3, .int 0), (2, .ref (r 0)), (1, .ref (q 0)), (0, .ref b)] [.int (-1000), .int 0]
      exfalso; omega
    · show GW κ 4 82 21282 (wX q d iX0 aX0 ++ wM r g iM1 aM1 lM1) 1460 [(3, .int 0), (2, .ref (r 0)), (1, .ref (q 0)), (0, .ref b)] [.int 0, .int 0]
      refine g_icmp_eq (tgt := 1465) (a := 0) (b := 0) hk dL_law_1460 (by decide) rfl rfl (fun _ => ?_) (fun z9 => absurd (show 0 = 0 from by decide) z9)
      exact tail _
    · show GW κ 4 82 21282 (wX q d iX0 aX0 ++ wM r g iM1 aM1 lM1) 1460 [(3, .int 0), (2, .ref (r 0)), (1, .ref (q 0)), (0, .ref b)] [.int (-1), .int 0]
      exfalso; omega
  · show GW κ 4 82 21282 (wM r g iM1 aM1 lM1 ++ wX q d iX0 aX0) 1451 [(3, .int 0), (2, .ref (r 0)), (1, .ref (q 0)), (0, .ref b)] [.int (-1)]
    refine g_aload_n hk dL_law_1451 rfl ?_
    refine g_aload_n hk dL_law_1452 rfl ?_
    refine g_iload_n hk dL_law_1453 rfl ?_
    refine g_iconst (v := 1) hk dL_law_1454 (by decide) ?_
    refine g_iadd hk dL_law_1455 ?_
    refine g_norm (v := 1) (by decide) ?_
    refine g_sld (v := xs 1) hk hX (vp_in_iff.mpr ⟨by decide, by show (1 : Int) < (L : Int); omega⟩) rfl dL_law_1456 ?_
    refine g_callV hk (m203_X12_count l D zt g r (xs 1)) (SP.pre _ _) (fun q h => List.mem_append_right _ h) gL_law_X12_count rfl rfl rfl (by decide +kernel) ⟨Nat.le_of_ble_eq_true rfl, Nat.le_of_ble_eq_true rfl⟩ 0 rfl rfl rfl rfl (Nat.le_of_ble_eq_true rfl) ⟨Nat.le_of_ble_eq_true rfl, Nat.le_of_ble_eq_true rfl⟩ dL_law_1457 (fun v ty' w' hp hk' => ?_)
    rcases hp with ⟨c5772, rfl, rfl⟩ | ⟨c5773, c5774, rfl, rfl⟩ | ⟨c5775, c5776, c5777, rfl, rfl⟩ | ⟨c5778, c5779, c5780, c5781, rfl, rfl⟩ | ⟨c5782, c5783, c5784, c5785, c5786, rfl, rfl⟩ | ⟨c5787, c5788, c5789, c5790, c5791, c5792, rfl, rfl⟩ | ⟨c5793, c5794, c5795, c5796, c5797, c5798, c5799, rfl, rfl⟩ | ⟨c5800, c5801, c5802, c5803, c5804, c5805, c5806, c5807, rfl, rfl⟩ | ⟨c5808, c5809, c5810, c5811, c5812, c5813, c5814, c5815, c5816, rfl, rfl⟩ | ⟨c5817, c5818, c5819, c5820, c5821, c5822, c5823, c5824, c5825, c5826, rfl, rfl⟩ | ⟨c5827, c5828, c5829, c5830, c5831, c5832, c5833, c5834, c5835, c5836, c5837, rfl, rfl⟩ | ⟨c5838, c5839, c5840, c5841, c5842, c5843, c5844, c5845, c5846, c5847, c5848, c5849, rfl, rfl⟩ | ⟨c5850, c5851, c5852, c5853, c5854, c5855, c5856, c5857, c5858, c5859, c5860, c5861, c5862, rfl, rfl⟩ | ⟨c5863, c5864, c5865, c5866, c5867, c5868, c5869, c5870, c5871, c5872, c5873, c5874, c5875, c5876, rfl, rfl⟩ | ⟨c5877, c5878, c5879, c5880, c5881, c5882, c5883, c5884, c5885, c5886, c5887, c5888, c5889, c5890, c5891, rfl, rfl⟩ | ⟨c5892, c5893, c5894, c5895, c5896, c5897, c5898, c5899, c5900, c5901, c5902, c5903, c5904, c5905, c5906, rfl, rfl⟩
    · show GW κ 4 82 21282 (wX q d iX0 aX0 ++ wM r g iM1 aM1 lM1) 1460 [(3, .int 0), (2, .ref (r 0)), (1, .ref (q 0)), (0, .ref b)] [.int 0, .int (-1)]
      exfalso; omega
    · show GW κ 4 82 21282 (wX q d iX0 aX0 ++ wM r g iM1 aM1 lM1) 1460 [(3, .int 0), (2, .ref (r 0)), (1, .ref (q 0)), (0, .ref b)] [.int 0, .int (-1)]
      exfalso; omega
    · show GW κ 4 82 21282 (wX q d iX0 aX0 ++ wM r g iM1 aM1 lM1) 1460 [(3, .int 0), (2, .ref (r 0)), (1, .ref (q 0)), (0, .ref b)] [.int 0, .int (-1)]
      exfalso; omega
    · show GW κ 4 82 21282 (wX q d iX0 aX0 ++ wM r g iM1 aM1 lM1) 1460 [(3, .int 0), (2, .ref (r 0)), (1, .ref (q 0)), (0, .ref b)] [.int 2, .int (-1)]
      exfalso; omega
    · show GW κ 4 82 21282 (wX q d iX0 aX0 ++ wM r g iM1 aM1 lM1) 1460 [(3, .int 0), (2, .ref (r 0)), (1, .ref (q 0)), (0, .ref b)] [.int 0, .int (-1)]
      exfalso; omega
    · show GW κ 4 82 21282 (wX q d iX0 aX0 ++ wM r g iM1 aM1 lM1) 1460 [(3, .int 0), (2, .ref (r 0)), (1, .ref (q 0)), (0, .ref b)] [.int 0, .int (-1)]
      exfalso; omega
    · show GW κ 4 82 21282 (wX q d iX0 aX0 ++ wM r g iM1 aM1 lM1) 1460 [(3, .int 0), (2, .ref (r 0)), (1, .ref (q 0)), (0, .ref b)] [.int 8, .int (-1)]
      exfalso; omega
    · show GW κ 4 82 21282 (wX q d iX0 aX0 ++ wM r g iM1 aM1 lM1) 1460 [(3, .int 0), (2, .ref (r 0)), (1, .ref (q 0)), (0, .ref b)] [.int 0, .int (-1)]
      exfalso; omega
    · show GW κ 4 82 21282 (wX q d iX0 aX0 ++ wM r g iM1 aM1 lM1) 1460 [(3, .int 0), (2, .ref (r 0)), (1, .ref (q 0)), (0, .ref b)] [.int 0, .int (-1)]
      exfalso; omega
    · show GW κ 4 82 21282 (wX q d iX0 aX0 ++ wM r g iM1 aM1 lM1) 1460 [(3, .int 0), (2, .ref (r 0)), (1, .ref (q 0)), (0, .ref b)] [.int 0, .int (-1)]
      exfalso; omega
    · show GW κ 4 82 21282 (wX q d iX0 aX0 ++ wM r g iM1 aM1 lM1) 1460 [(3, .int 0), (2, .ref (r 0)), (1, .ref (q 0)), (0, .ref b)] [.int 0, .int (-1)]
      exfalso; omega
    · show GW κ 4 82 21282 (wX q d iX0 aX0 ++ wM r g iM1 aM1 lM1) 1460 [(3, .int 0), (2, .ref (r 0)), (1, .ref (q 0)), (0, .ref b)] [.int 0, .int (-1)]
      exfalso; omega
    · show GW κ 4 82 21282 (wX q d iX0 aX0 ++ wM r g iM1 aM1 lM1) 1460 [(3, .int 0), (2, .ref (r 0)), (1, .ref (q 0)), (0, .ref b)] [.int (-1000), .int (-1)]
      exfalso; omega
    · show GW κ 4 82 21282 (wX q d iX0 aX0 ++ wM r g iM1 aM1 lM1) 1460 [(3, .int 0), (2, .ref (r 0)), (1, .ref (q 0)), (0, .ref b)] [.int (-1000), .int (-1)]
      exfalso; omega
    · show GW κ 4 82 21282 (wX q d iX0 aX0 ++ wM r g iM1 aM1 lM1) 1460 [(3, .int 0), (2, .ref (r 0)), (1, .ref (q 0)), (0, .ref b)] [.int 0, .int (-1)]
      exfalso; omega
    · show GW κ 4 82 21282 (wX q d iX0 aX0 ++ wM r g iM1 aM1 lM1) 1460 [(3, .int 0), (2, .ref (r 0)), (1, .ref (q 0)), (0, .ref b)] [.int (-1), .int (-1)]
      refine g_icmp_eq (tgt := 1465) (a := (-1)) (b := (-1)) hk dL_law_1460 (by decide) rfl rfl (fun _ => ?_) (fun z9 => absurd (show (-1) = (-1) from by decide) z9)
      exact tail _
