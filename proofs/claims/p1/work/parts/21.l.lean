set_option maxHeartbeats 4000000 in
set_option maxRecDepth 100000 in
theorem law_13 {κ : Cx} {l : Launch} {D : va_G} {zt : Nat × Nat × Nat} {q r : Nat → Nat} {d g : Nat → ClassId} {b L : Nat} {xs : Nat → Int32} (hk : GC κ l D zt code 4 RL wsL_law (tyX d ++ tyM g) room_1) (hX : GX κ b L xs) (hL6 : L = 6) (tail : ∀ ws, GW κ 4 82 21282 ws 1465 [(3, .int 0), (2, .ref (r 0)), (1, .ref (q 0)), (0, .ref b)] []) : GW κ 4 82 21282 (wX q d iX0 aX0 ++ wM r g iM1 aM1 lM1) 521 [(3, .int 0), (2, .ref (r 0)), (1, .ref (q 0)), (0, .ref b)] [] := by
  refine g_aload_n hk dL_law_521 rfl ?_
  refine g_aload_n hk dL_law_522 rfl ?_
  refine g_iload_n hk dL_law_523 rfl ?_
  refine g_iconst (v := 1) hk dL_law_524 (by decide) ?_
  refine g_iadd hk dL_law_525 ?_
  refine g_norm (v := 1) (by decide) ?_
  refine g_sld (v := xs 1) hk hX (vp_in_iff.mpr ⟨by decide, by show (1 : Int) < (L : Int); omega⟩) rfl dL_law_526 ?_
  refine g_aload_n hk dL_law_527 rfl ?_
  refine g_iload_n hk dL_law_528 rfl ?_
  refine g_iconst (v := 2) hk dL_law_529 (by decide) ?_
  refine g_iadd hk dL_law_530 ?_
  refine g_norm (v := 2) (by decide) ?_
  refine g_sld (v := xs 2) hk hX (vp_in_iff.mpr ⟨by decide, by show (2 : Int) < (L : Int); omega⟩) rfl dL_law_531 ?_
  refine g_aload_n hk dL_law_532 rfl ?_
  refine g_iload_n hk dL_law_533 rfl ?_
  refine g_iconst (v := 3) hk dL_law_534 (by decide) ?_
  refine g_iadd hk dL_law_535 ?_
  refine g_norm (v := 3) (by decide) ?_
  refine g_sld (v := xs 3) hk hX (vp_in_iff.mpr ⟨by decide, by show (3 : Int) < (L : Int); omega⟩) rfl dL_law_536 ?_
  refine g_callV hk (m271_X11_window l D zt d q (xs 1) (xs 2) (xs 3)) (SP.pre _ _) (fun q h => List.mem_append_left _ h) gL_law_X11_window rfl rfl rfl (by decide +kernel) ⟨Nat.le_of_ble_eq_true rfl, Nat.le_of_ble_eq_true rfl⟩ 0 rfl rfl rfl rfl (Nat.le_of_ble_eq_true rfl) ⟨Nat.le_of_ble_eq_true rfl, Nat.le_of_ble_eq_true rfl⟩ dL_law_537 (fun v ty' w' hp hk' => ?_)
  obtain ⟨rfl, rfl⟩ := hp
  show GW κ 4 82 21282 (wM r g iM1 aM1 lM1 ++ wX q d iX0 aX0) 540 [(3, .int 0), (2, .ref (r 0)), (1, .ref (q 0)), (0, .ref b)] [.int (-1000000)]
  refine g_aload_n hk dL_law_540 rfl ?_
  refine g_aload_n hk dL_law_541 rfl ?_
  refine g_iload_n hk dL_law_542 rfl ?_
  refine g_iconst (v := 1) hk dL_law_543 (by decide) ?_
  refine g_iadd hk dL_law_544 ?_
  refine g_norm (v := 1) (by decide) ?_
  refine g_sld (v := xs 1) hk hX (vp_in_iff.mpr ⟨by decide, by show (1 : Int) < (L : Int); omega⟩) rfl dL_law_545 ?_
  refine g_aload_n hk dL_law_546 rfl ?_
  refine g_iload_n hk dL_law_547 rfl ?_
  refine g_iconst (v := 2) hk dL_law_548 (by decide) ?_
  refine g_iadd hk dL_law_549 ?_
  refine g_norm (v := 2) (by decide) ?_
  refine g_sld (v := xs 2) hk hX (vp_in_iff.mpr ⟨by decide, by show (2 : Int) < (L : Int); omega⟩) rfl dL_law_550 ?_
  refine g_aload_n hk dL_law_551 rfl ?_
  refine g_iload_n hk dL_law_552 rfl ?_
  refine g_iconst (v := 3) hk dL_law_553 (by decide) ?_
  refine g_iadd hk dL_law_554 ?_
  refine g_norm (v := 3) (by decide) ?_
  refine g_sld (v := xs 3) hk hX (vp_in_iff.mpr ⟨by decide, by show (3 : Int) < (L : Int); omega⟩) rfl dL_law_555 ?_
  refine g_callV hk (m164_X12_window l D zt g r (xs 1) (xs 2) (xs 3)) (SP.pre _ _) (fun q h => List.mem_append_right _ h) gL_law_X12_window rfl rfl rfl (by decide +kernel) ⟨Nat.le_of_ble_eq_true rfl, Nat.le_of_ble_eq_true rfl⟩ 0 rfl rfl rfl rfl (Nat.le_of_ble_eq_true rfl) ⟨Nat.le_of_ble_eq_true rfl, Nat.le_of_ble_eq_true rfl⟩ dL_law_556 (fun v ty' w' hp hk' => ?_)
  obtain ⟨rfl, rfl⟩ := hp
  show GW κ 4 82 21282 (wX q d iX0 aX0 ++ wM r g iM1 aM1 lM1) 559 [(3, .int 0), (2, .ref (r 0)), (1, .ref (q 0)), (0, .ref b)] [.int (-1000000), .int (-1000000)]
  refine g_icmp_eq (tgt := 1465) (a := (-1000000)) (b := (-1000000)) hk dL_law_559 (by decide) rfl rfl (fun _ => ?_) (fun z9 => absurd (show (-1000000) = (-1000000) from by decide) z9)
  exact tail _
set_option maxHeartbeats 4000000 in
set_option maxRecDepth 100000 in
theorem law_14 {κ : Cx} {l : Launch} {D : va_G} {zt : Nat × Nat × Nat} {q r : Nat → Nat} {d g : Nat → ClassId} {b L : Nat} {xs : Nat → Int32} (hk : GC κ l D zt code 4 RL wsL_law (tyX d ++ tyM g) room_1) (hX : GX κ b L xs) (hL6 : L = 6) (tail : ∀ ws, GW κ 4 82 21282 ws 1465 [(3, .int 0), (2, .ref (r 0)), (1, .ref (q 0)), (0, .ref b)] []) : GW κ 4 82 21282 (wX q d iX0 aX0 ++ wM r g iM1 aM1 lM1) 564 [(3, .int 0), (2, .ref (r 0)), (1, .ref (q 0)), (0, .ref b)] [] := by
  refine g_aload_n hk dL_law_564 rfl ?_
  refine g_aload_n hk dL_law_565 rfl ?_
  refine g_iload_n hk dL_law_566 rfl ?_
  refine g_iconst (v := 1) hk dL_law_567 (by decide) ?_
  refine g_iadd hk dL_law_568 ?_
  refine g_norm (v := 1) (by decide) ?_
  refine g_sld (v := xs 1) hk hX (vp_in_iff.mpr ⟨by decide, by show (1 : Int) < (L : Int); omega⟩) rfl dL_law_569 ?_
  refine g_aload_n hk dL_law_570 rfl ?_
  refine g_iload_n hk dL_law_571 rfl ?_
  refine g_iconst (v := 2) hk dL_law_572 (by decide) ?_
  refine g_iadd hk dL_law_573 ?_
  refine g_norm (v := 2) (by decide) ?_
  refine g_sld (v := xs 2) hk hX (vp_in_iff.mpr ⟨by decide, by show (2 : Int) < (L : Int); omega⟩) rfl dL_law_574 ?_
  refine g_aload_n hk dL_law_575 rfl ?_
  refine g_iload_n hk dL_law_576 rfl ?_
  refine g_iconst (v := 3) hk dL_law_577 (by decide) ?_
  refine g_iadd hk dL_law_578 ?_
  refine g_norm (v := 3) (by decide) ?_
  refine g_sld (v := xs 3) hk hX (vp_in_iff.mpr ⟨by decide, by show (3 : Int) < (L : Int); omega⟩) rfl dL_law_579 ?_
  refine g_callV hk (m274_X11_level l D zt d q (xs 1) (xs 2) (xs 3)) (SP.pre _ _) (fun q h => List.mem_append_left _ h) gL_law_X11_level rfl rfl rfl (by decide +kernel) ⟨Nat.le_of_ble_eq_true rfl, Nat.le_of_ble_eq_true rfl⟩ 0 rfl rfl rfl rfl (Nat.le_of_ble_eq_true rfl) ⟨Nat.le_of_ble_eq_true rfl, Nat.le_of_ble_eq_true rfl⟩ dL_law_580 (fun v ty' w' hp hk' => ?_)
  obtain ⟨rfl, rfl⟩ := hp
  show GW κ 4 82 21282 (wM r g iM1 aM1 lM1 ++ wX q d iX0 aX0) 583 [(3, .int 0), (2, .ref (r 0)), (1, .ref (q 0)), (0, .ref b)] [.int (-1000000)]
  refine g_aload_n hk dL_law_583 rfl ?_
  refine g_aload_n hk dL_law_584 rfl ?_
  refine g_iload_n hk dL_law_585 rfl ?_
  refine g_iconst (v := 1) hk dL_law_586 (by decide) ?_
  refine g_iadd hk dL_law_587 ?_
  refine g_norm (v := 1) (by decide) ?_
  refine g_sld (v := xs 1) hk hX (vp_in_iff.mpr ⟨by decide, by show (1 : Int) < (L : Int); omega⟩) rfl dL_law_588 ?_
  refine g_aload_n hk dL_law_589 rfl ?_
  refine g_iload_n hk dL_law_590 rfl ?_
  refine g_iconst (v := 2) hk dL_law_591 (by decide) ?_
  refine g_iadd hk dL_law_592 ?_
  refine g_norm (v := 2) (by decide) ?_
  refine g_sld (v := xs 2) hk hX (vp_in_iff.mpr ⟨by decide, by show (2 : Int) < (L : Int); omega⟩) rfl dL_law_593 ?_
  refine g_aload_n hk dL_law_594 rfl ?_
  refine g_iload_n hk dL_law_595 rfl ?_
  refine g_iconst (v := 3) hk dL_law_596 (by decide) ?_
  refine g_iadd hk dL_law_597 ?_
  refine g_norm (v := 3) (by decide) ?_
  refine g_sld (v := xs 3) hk hX (vp_in_iff.mpr ⟨by decide, by show (3 : Int) < (L : Int); omega⟩) rfl dL_law_598 ?_
  refine g_callV hk (m167_X12_level l D zt g r (xs 1) (xs 2) (xs 3)) (SP.pre _ _) (fun q h => List.mem_append_right _ h) gL_law_X12_level rfl rfl rfl (by decide +kernel) ⟨Nat.le_of_ble_eq_true rfl, Nat.le_of_ble_eq_true rfl⟩ 0 rfl rfl rfl rfl (Nat.le_of_ble_eq_true rfl) ⟨Nat.le_of_ble_eq_true rfl, Nat.le_of_ble_eq_true rfl⟩ dL_law_599 (fun v ty' w' hp hk' => ?_)
  obtain ⟨rfl, rfl⟩ := hp
  show GW κ 4 82 21282 (wX q d iX0 aX0 ++ wM r g iM1 aM1 lM1) 602 [(3, .int 0), (2, .ref (r 0)), (1, .ref (q 0)), (0, .ref b)] [.int (-1000000), .int (-1000000)]
  refine g_icmp_eq (tgt := 1465) (a := (-1000000)) (b := (-1000000)) hk dL_law_602 (by decide) rfl rfl (fun _ => ?_) (fun z9 => absurd (show (-1000000) = (-1000000) from by decide) z9)
  exact tail _
set_option maxHeartbeats 4000000 in
set_option maxRecDepth 100000 in
theorem law_15 {κ : Cx} {l : Launch} {D : va_G} {zt : Nat × Nat × Nat} {q r : Nat → Nat} {d g : Nat → ClassId} {b L : Nat} {xs : Nat → Int32} (hk : GC κ l D zt code 4 RL wsL_law (tyX d ++ tyM g) room_1) (hX : GX κ b L xs) (hL6 : L = 6) (tail : ∀ ws, GW κ 4 82 21282 ws 1465 [(3, .int 0), (2, .ref (r 0)), (1, .ref (q 0)), (0, .ref b)] []) : GW κ 4 82 21282 (wX q d iX0 aX0 ++ wM r g iM1 aM1 lM1) 607 [(3, .int 0), (2, .ref (r 0)), (1, .ref (q 0)), (0, .ref b)] [] := by
  refine g_aload_n hk dL_law_607 rfl ?_
  refine g_aload_n hk dL_law_608 rfl ?_
  refine g_iload_n hk dL_law_609 rfl ?_
  refine g_iconst (v := 1) hk dL_law_610 (by decide) ?_
  refine g_iadd hk dL_law_611 ?_
  refine g_norm (v := 1) (by decide) ?_
  refine g_sld (v := xs 1) hk hX (vp_in_iff.mpr ⟨by decide, by show (1 : Int) < (L : Int); omega⟩) rfl dL_law_612 ?_
  refine g_aload_n hk dL_law_613 rfl ?_
  refine g_iload_n hk dL_law_614 rfl ?_
  refine g_iconst (v := 2) hk dL_law_615 (by decide) ?_
  refine g_iadd hk dL_law_616 ?_
  refine g_norm (v := 2) (by decide) ?_
  refine g_sld (v := xs 2) hk hX (vp_in_iff.mpr ⟨by decide, by show (2 : Int) < (L : Int); omega⟩) rfl dL_law_617 ?_
  refine g_callV hk (m277_X11_distance l D zt d q (xs 1) (xs 2)) (SP.pre _ _) (fun q h => List.mem_append_left _ h) gL_law_X11_distance rfl rfl rfl (by decide +kernel) ⟨Nat.le_of_ble_eq_true rfl, Nat.le_of_ble_eq_true rfl⟩ 0 rfl rfl rfl rfl (Nat.le_of_ble_eq_true rfl) ⟨Nat.le_of_ble_eq_true rfl, Nat.le_of_ble_eq_true rfl⟩ dL_law_618 (fun v ty' w' hp hk' => ?_)
  obtain ⟨rfl, rfl⟩ := hp
  show GW κ 4 82 21282 (wM r g iM1 aM1 lM1 ++ wX q d iX0 aX0) 621 [(3, .int 0), (2, .ref (r 0)), (1, .ref (q 0)), (0, .ref b)] [.int (-1)]
  refine g_aload_n hk dL_law_621 rfl ?_
  refine g_aload_n hk dL_law_622 rfl ?_
  refine g_iload_n hk dL_law_623 rfl ?_
  refine g_iconst (v := 1) hk dL_law_624 (by decide) ?_
  refine g_iadd hk dL_law_625 ?_
  refine g_norm (v := 1) (by decide) ?_
  refine g_sld (v := xs 1) hk hX (vp_in_iff.mpr ⟨by decide, by show (1 : Int) < (L : Int); omega⟩) rfl dL_law_626 ?_
  refine g_aload_n hk dL_law_627 rfl ?_
  refine g_iload_n hk dL_law_628 rfl ?_
  refine g_iconst (v := 2) hk dL_law_629 (by decide) ?_
  refine g_iadd hk dL_law_630 ?_
  refine g_norm (v := 2) (by decide) ?_
  refine g_sld (v := xs 2) hk hX (vp_in_iff.mpr ⟨by decide, by show (2 : Int) < (L : Int); omega⟩) rfl dL_law_631 ?_
  refine g_callV hk (m169_X12_distance l D zt g r (xs 1) (xs 2)) (SP.pre _ _) (fun q h => List.mem_append_right _ h) gL_law_X12_distance rfl rfl rfl (by decide +kernel) ⟨Nat.le_of_ble_eq_true rfl, Nat.le_of_ble_eq_true rfl⟩ 0 rfl rfl rfl rfl (Nat.le_of_ble_eq_true rfl) ⟨Nat.le_of_ble_eq_true rfl, Nat.le_of_ble_eq_true rfl⟩ dL_law_632 (fun v ty' w' hp hk' => ?_)
  obtain ⟨rfl, rfl⟩ := hp
  show GW κ 4 82 21282 (wX q d iX0 aX0 ++ wM r g iM1 aM1 lM1) 635 [(3, .int 0), (2, .ref (r 0)), (1, .ref (q 0)), (0, .ref b)] [.int (-1), .int (-1)]
  refine g_icmp_eq (tgt := 1465) (a := (-1)) (b := (-1)) hk dL_law_635 (by decide) rfl rfl (fun _ => ?_) (fun z9 => absurd (show (-1) = (-1) from by decide) z9)
  exact tail _
set_option maxHeartbeats 4000000 in
set_option maxRecDepth 100000 in
theorem law_16 {κ : Cx} {l : Launch} {D : va_G} {zt : Nat × Nat × Nat} {q r : Nat → Nat} {d g : Nat → ClassId} {b L : Nat} {xs : Nat → Int32} (hk : GC κ l D zt code 4 RL wsL_law (tyX d ++ tyM g) room_1) (hX : GX κ b L xs) (hL6 : L = 6) (tail : ∀ ws, GW κ 4 82 21282 ws 1465 [(3, .int 0), (2, .ref (r 0)), (1, .ref (q 0)), (0, .ref b)] []) : GW κ 4 82 21282 (wX q d iX0 aX0 ++ wM r g iM1 aM1 lM1) 640 [(3, .int 0), (2, .ref (r 0)), (1, .ref (q 0)), (0, .ref b)] [] := by
  refine g_aload_n hk dL_law_640 rfl ?_
  refine g_aload_n hk dL_law_641 rfl ?_
  refine g_iload_n hk dL_law_642 rfl ?_
  refine g_iconst (v := 1) hk dL_law_643 (by decide) ?_
  refine g_iadd hk dL_law_644 ?_
  refine g_norm (v := 1) (by decide) ?_
  refine g_sld (v := xs 1) hk hX (vp_in_iff.mpr ⟨by decide, by show (1 : Int) < (L : Int); omega⟩) rfl dL_law_645 ?_
  refine g_aload_n hk dL_law_646 rfl ?_
  refine g_iload_n hk dL_law_647 rfl ?_
  refine g_iconst (v := 2) hk dL_law_648 (by decide) ?_
  refine g_iadd hk dL_law_649 ?_
  refine g_norm (v := 2) (by decide) ?_
  refine g_sld (v := xs 2) hk hX (vp_in_iff.mpr ⟨by decide, by show (2 : Int) < (L : Int); omega⟩) rfl dL_law_650 ?_
  refine g_aload_n hk dL_law_651 rfl ?_
  refine g_iload_n hk dL_law_652 rfl ?_
  refine g_iconst (v := 3) hk dL_law_653 (by decide) ?_
  refine g_iadd hk dL_law_654 ?_
  refine g_norm (v := 3) (by decide) ?_
  refine g_sld (v := xs 3) hk hX (vp_in_iff.mpr ⟨by decide, by show (3 : Int) < (L : Int); omega⟩) rfl dL_law_655 ?_
  refine g_callV hk (m278_X11_bound l D zt d q (xs 1) (xs 2) (xs 3)) (SP.pre _ _) (fun q h => List.mem_append_left _ h) gL_law_X11_bound rfl rfl rfl (by decide +kernel) ⟨Nat.le_of_ble_eq_true rfl, Nat.le_of_ble_eq_true rfl⟩ 0 rfl rfl rfl rfl (Nat.le_of_ble_eq_true rfl) ⟨Nat.le_of_ble_eq_true rfl, Nat.le_of_ble_eq_true rfl⟩ dL_law_656 (fun v ty' w' hp hk' => ?_)
  obtain ⟨rfl, rfl⟩ := hp
  show GW κ 4 82 21282 (wM r g iM1 aM1 lM1 ++ wX q d iX0 aX0) 659 [(3, .int 0), (2, .ref (r 0)), (1, .ref (q 0)), (0, .ref b)] [.int (-1)]
  refine g_aload_n hk dL_law_659 rfl ?_
  refine g_aload_n hk dL_law_660 rfl ?_
  refine g_iload_n hk dL_law_661 rfl ?_
  refine g_iconst (v := 1) hk dL_law_662 (by decide) ?_
  refine g_iadd hk dL_law_663 ?_
  refine g_norm (v := 1) (by decide) ?_
  refine g_sld (v := xs 1) hk hX (vp_in_iff.mpr ⟨by decide, by show (1 : Int) < (L : Int); omega⟩) rfl dL_law_664 ?_
  refine g_aload_n hk dL_law_665 rfl ?_
  refine g_iload_n hk dL_law_666 rfl ?_
  refine g_iconst (v := 2) hk dL_law_667 (by decide) ?_
  refine g_iadd hk dL_law_668 ?_
  refine g_norm (v := 2) (by decide) ?_
  refine g_sld (v := xs 2) hk hX (vp_in_iff.mpr ⟨by decide, by show (2 : Int) < (L : Int); omega⟩) rfl dL_law_669 ?_
  refine g_aload_n hk dL_law_670 rfl ?_
  refine g_iload_n hk dL_law_671 rfl ?_
  refine g_iconst (v := 3) hk dL_law_672 (by decide) ?_
  refine g_iadd hk dL_law_673 ?_
  refine g_norm (v := 3) (by decide) ?_
  refine g_sld (v := xs 3) hk hX (vp_in_iff.mpr ⟨by decide, by show (3 : Int) < (L : Int); omega⟩) rfl dL_law_674 ?_
  refine g_callV hk (m170_X12_bound l D zt g r (xs 1) (xs 2) (xs 3)) (SP.pre _ _) (fun q h => List.mem_append_right _ h) gL_law_X12_bound rfl rfl rfl (by decide +kernel) ⟨Nat.le_of_ble_eq_true rfl, Nat.le_of_ble_eq_true rfl⟩ 0 rfl rfl rfl rfl (Nat.le_of_ble_eq_true rfl) ⟨Nat.le_of_ble_eq_true rfl, Nat.le_of_ble_eq_true rfl⟩ dL_law_675 (fun v ty' w' hp hk' => ?_)
  obtain ⟨rfl, rfl⟩ := hp
  show GW κ 4 82 21282 (wX q d iX0 aX0 ++ wM r g iM1 aM1 lM1) 678 [(3, .int 0), (2, .ref (r 0)), (1, .ref (q 0)), (0, .ref b)] [.int (-1), .int (-1)]
  refine g_icmp_eq (tgt := 1465) (a := (-1)) (b := (-1)) hk dL_law_678 (by decide) rfl rfl (fun _ => ?_) (fun z9 => absurd (show (-1) = (-1) from by decide) z9)
  exact tail _
set_option maxHeartbeats 4000000 in
set_option maxRecDepth 100000 in
theorem law_17 {κ : Cx} {l : Launch} {D : va_G} {zt : Nat × Nat × Nat} {q r : Nat → Nat} {d g : Nat → ClassId} {b L : Nat} {xs : Nat → Int32} (hk : GC κ l D zt code 4 RL wsL_law (tyX d ++ tyM g) room_1) (hX : GX κ b L xs) (hL6 : L = 6) (tail : ∀ ws, GW κ 4 82 21282 ws 1465 [(3, .int 0), (2, .ref (r 0)), (1, .ref (q 0)), (0, .ref b)] []) : GW κ 4 82 21282 (wX q d iX0 aX0 ++ wM r g iM1 aM1 lM1) 683 [(3, .int 0), (2, .ref (r 0)), (1, .ref (q 0)), (0, .ref b)] [] := by
  refine g_aload_n hk dL_law_683 rfl ?_
  refine g_aload_n hk dL_law_684 rfl ?_
  refine g_iload_n hk dL_law_685 rfl ?_
  refine g_iconst (v := 1) hk dL_law_686 (by decide) ?_
  refine g_iadd hk dL_law_687 ?_
  refine g_norm (v := 1) (by decide) ?_
  refine g_sld (v := xs 1) hk hX (vp_in_iff.mpr ⟨by decide, by show (1 : Int) < (L : Int); omega⟩) rfl dL_law_688 ?_
  refine g_aload_n hk dL_law_689 rfl ?_
  refine g_iload_n hk dL_law_690 rfl ?_
  refine g_iconst (v := 2) hk dL_law_691 (by decide) ?_
  refine g_iadd hk dL_law_692 ?_
  refine g_norm (v := 2) (by decide) ?_
  refine g_sld (v := xs 2) hk hX (vp_in_iff.mpr ⟨by decide, by show (2 : Int) < (L : Int); omega⟩) rfl dL_law_693 ?_
  refine g_aload_n hk dL_law_694 rfl ?_
  refine g_iload_n hk dL_law_695 rfl ?_
  refine g_iconst (v := 3) hk dL_law_696 (by decide) ?_
  refine g_iadd hk dL_law_697 ?_
  refine g_norm (v := 3) (by decide) ?_
  refine g_sld (v := xs 3) hk hX (vp_in_iff.mpr ⟨by decide, by show (3 : Int) < (L : Int); omega⟩) rfl dL_law_698 ?_
  refine g_aload_n hk dL_law_699 rfl ?_
  refine g_iload_n hk dL_law_700 rfl ?_
  refine g_iconst (v := 4) hk dL_law_701 (by decide) ?_
  refine g_iadd hk dL_law_702 ?_
  refine g_norm (v := 4) (by decide) ?_
  refine g_sld (v := xs 4) hk hX (vp_in_iff.mpr ⟨by decide, by show (4 : Int) < (L : Int); omega⟩) rfl dL_law_703 ?_
  refine g_callV hk (m279_X11_look l D zt d q (xs 1) (xs 2) (xs 3) (xs 4)) (SP.pre _ _) (fun q h => List.mem_append_left _ h) gL_law_X11_look rfl rfl rfl (by decide +kernel) ⟨Nat.le_of_ble_eq_true rfl, Nat.le_of_ble_eq_true rfl⟩ 0 rfl rfl rfl rfl (Nat.le_of_ble_eq_true rfl) ⟨Nat.le_of_ble_eq_true rfl, Nat.le_of_ble_eq_true rfl⟩ dL_law_704 (fun v ty' w' hp hk' => ?_)
  obtain ⟨rfl, rfl⟩ := hp
  show GW κ 4 82 21282 (wM r g iM1 aM1 lM1 ++ wX q d iX0 aX0) 707 [(3, .int 0), (2, .ref (r 0)), (1, .ref (q 0)), (0, .ref b)] [.int (-1)]
  refine g_aload_n hk dL_law_707 rfl ?_
  refine g_aload_n hk dL_law_708 rfl ?_
  refine g_iload_n hk dL_law_709 rfl ?_
  refine g_iconst (v := 1) hk dL_law_710 (by decide) ?_
  refine g_iadd hk dL_law_711 ?_
  refine g_norm (v := 1) (by decide) ?_
  refine g_sld (v := xs 1) hk hX (vp_in_iff.mpr ⟨by decide, by show (1 : Int) < (L : Int); omega⟩) rfl dL_law_712 ?_
  refine g_aload_n hk dL_law_713 rfl ?_
  refine g_iload_n hk dL_law_714 rfl ?_
  refine g_iconst (v := 2) hk dL_law_715 (by decide) ?_
  refine g_iadd hk dL_law_716 ?_
  refine g_norm (v := 2) (by decide) ?_
  refine g_sld (v := xs 2) hk hX (vp_in_iff.mpr ⟨by decide, by show (2 : Int) < (L : Int); omega⟩) rfl dL_law_717 ?_
  refine g_aload_n hk dL_law_718 rfl ?_
  refine g_iload_n hk dL_law_719 rfl ?_
  refine g_iconst (v := 3) hk dL_law_720 (by decide) ?_
  refine g_iadd hk dL_law_721 ?_
  refine g_norm (v := 3) (by decide) ?_
  refine g_sld (v := xs 3) hk hX (vp_in_iff.mpr ⟨by decide, by show (3 : Int) < (L : Int); omega⟩) rfl dL_law_722 ?_
  refine g_aload_n hk dL_law_723 rfl ?_
  refine g_iload_n hk dL_law_724 rfl ?_
  refine g_iconst (v := 4) hk dL_law_725 (by decide) ?_
  refine g_iadd hk dL_law_726 ?_
  refine g_norm (v := 4) (by decide) ?_
  refine g_sld (v := xs 4) hk hX (vp_in_iff.mpr ⟨by decide, by show (4 : Int) < (L : Int); omega⟩) rfl dL_law_727 ?_
  refine g_callV hk (m171_X12_look l D zt g r (xs 1) (xs 2) (xs 3) (xs 4)) (SP.pre _ _) (fun q h => List.mem_append_right _ h) gL_law_X12_look rfl rfl rfl (by decide +kernel) ⟨Nat.le_of_ble_eq_true rfl, Nat.le_of_ble_eq_true rfl⟩ 0 rfl rfl rfl rfl (Nat.le_of_ble_eq_true rfl) ⟨Nat.le_of_ble_eq_true rfl, Nat.le_of_ble_eq_true rfl⟩ dL_law_728 (fun v ty' w' hp hk' => ?_)
  obtain ⟨rfl, rfl⟩ := hp
  show GW κ 4 82 21282 (wX q d iX0 aX0 ++ wM r g iM1 aM1 lM1) 731 [(3, .int 0), (2, .ref (r 0)), (1, .ref (q 0)), (0, .ref b)] [.int (-1), .int (-1)]
  refine g_icmp_eq (tgt := 1465) (a := (-1)) (b := (-1)) hk dL_law_731 (by decide) rfl rfl (fun _ => ?_) (fun z9 => absurd (show (-1) = (-1) from by decide) z9)
  exact tail _
set_option maxHeartbeats 4000000 in
set_option maxRecDepth 100000 in
theorem law_18 {κ : Cx} {l : Launch} {D : va_G} {zt : Nat × Nat × Nat} {q r : Nat → Nat} {d g : Nat → ClassId} {b L : Nat} {xs : Nat → Int32} (hk : GC κ l D zt code 4 RL wsL_law (tyX d ++ tyM g) room_1) (hX : GX κ b L xs) (hL6 : L = 6) (tail : ∀ ws, GW κ 4 82 21282 ws 1465 [(3, .int 0), (2, .ref (r 0)), (1, .ref (q 0)), (0, .ref b)] []) : GW κ 4 82 21282 (wX q d iX0 aX0 ++ wM r g iM1 aM1 lM1) 736 [(3, .int 0), (2, .ref (r 0)), (1, .ref (q 0)), (0, .ref b)] [] := by
  refine g_aload_n hk dL_law_736 rfl ?_
  refine g_aload_n hk dL_law_737 rfl ?_
  refine g_iload_n hk dL_law_738 rfl ?_
  refine g_iconst (v := 1) hk dL_law_739 (by decide) ?_
  refine g_iadd hk dL_law_740 ?_
  refine g_norm (v := 1) (by decide) ?_
  refine g_sld (v := xs 1) hk hX (vp_in_iff.mpr ⟨by decide, by show (1 : Int) < (L : Int); omega⟩) rfl dL_law_741 ?_
  refine g_aload_n hk dL_law_742 rfl ?_
  refine g_iload_n hk dL_law_743 rfl ?_
  refine g_iconst (v := 2) hk dL_law_744 (by decide) ?_
  refine g_iadd hk dL_law_745 ?_
  refine g_norm (v := 2) (by decide) ?_
  refine g_sld (v := xs 2) hk hX (vp_in_iff.mpr ⟨by decide, by show (2 : Int) < (L : Int); omega⟩) rfl dL_law_746 ?_
  refine g_callV hk (m280_X11_best l D zt d q (xs 1) (xs 2)) (SP.pre _ _) (fun q h => List.mem_append_left _ h) gL_law_X11_best rfl rfl rfl (by decide +kernel) ⟨Nat.le_of_ble_eq_true rfl, Nat.le_of_ble_eq_true rfl⟩ 0 rfl rfl rfl rfl (Nat.le_of_ble_eq_true rfl) ⟨Nat.le_of_ble_eq_true rfl, Nat.le_of_ble_eq_true rfl⟩ dL_law_747 (fun v ty' w' hp hk' => ?_)
  obtain ⟨rfl, rfl⟩ := hp
  show GW κ 4 82 21282 (wM r g iM1 aM1 lM1 ++ wX q d iX0 aX0) 750 [(3, .int 0), (2, .ref (r 0)), (1, .ref (q 0)), (0, .ref b)] [.int (-1)]
  refine g_aload_n hk dL_law_750 rfl ?_
  refine g_aload_n hk dL_law_751 rfl ?_
  refine g_iload_n hk dL_law_752 rfl ?_
  refine g_iconst (v := 1) hk dL_law_753 (by decide) ?_
  refine g_iadd hk dL_law_754 ?_
  refine g_norm (v := 1) (by decide) ?_
  refine g_sld (v := xs 1) hk hX (vp_in_iff.mpr ⟨by decide, by show (1 : Int) < (L : Int); omega⟩) rfl dL_law_755 ?_
  refine g_aload_n hk dL_law_756 rfl ?_
  refine g_iload_n hk dL_law_757 rfl ?_
  refine g_iconst (v := 2) hk dL_law_758 (by decide) ?_
  refine g_iadd hk dL_law_759 ?_
  refine g_norm (v := 2) (by decide) ?_
  refine g_sld (v := xs 2) hk hX (vp_in_iff.mpr ⟨by decide, by show (2 : Int) < (L : Int); omega⟩) rfl dL_law_760 ?_
  refine g_callV hk (m172_X12_best l D zt g r (xs 1) (xs 2)) (SP.pre _ _) (fun q h => List.mem_append_right _ h) gL_law_X12_best rfl rfl rfl (by decide +kernel) ⟨Nat.le_of_ble_eq_true rfl, Nat.le_of_ble_eq_true rfl⟩ 0 rfl rfl rfl rfl (Nat.le_of_ble_eq_true rfl) ⟨Nat.le_of_ble_eq_true rfl, Nat.le_of_ble_eq_true rfl⟩ dL_law_761 (fun v ty' w' hp hk' => ?_)
  obtain ⟨rfl, rfl⟩ := hp
  show GW κ 4 82 21282 (wX q d iX0 aX0 ++ wM r g iM1 aM1 lM1) 764 [(3, .int 0), (2, .ref (r 0)), (1, .ref (q 0)), (0, .ref b)] [.int (-1), .int (-1)]
  refine g_icmp_eq (tgt := 1465) (a := (-1)) (b := (-1)) hk dL_law_764 (by decide) rfl rfl (fun _ => ?_) (fun z9 => absurd (show (-1) = (-1) from by decide) z9)
  exact tail _
set_option maxHeartbeats 4000000 in
set_option maxRecDepth 100000 in
theorem law_19 {κ : Cx} {l : Launch} {D : va_G} {zt : Nat × Nat × Nat} {q r : Nat → Nat} {d g : Nat → ClassId} {b L : Nat} {xs : Nat → Int32} (hk : GC κ l D zt code 4 RL wsL_law (tyX d ++ tyM g) room_1) (hX : GX κ b L xs) (hL6 : L = 6) (tail : ∀ ws, GW κ 4 82 21282 ws 1465 [(3, .int 0), (2, .ref (r 0)), (1, .ref (q 0)), (0, .ref b)] []) : GW κ 4 82 21282 (wX q d iX0 aX0 ++ wM r g iM1 aM1 lM1) 769 [(3, .int 0), (2, .ref (r 0)), (1, .ref (q 0)), (0, .ref b)] [] := by
  refine g_aload_n hk dL_law_769 rfl ?_
  refine g_aload_n hk dL_law_770 rfl ?_
  refine g_iload_n hk dL_law_771 rfl ?_
  refine g_iconst (v := 1) hk dL_law_772 (by decide) ?_
  refine g_iadd hk dL_law_773 ?_
  refine g_norm (v := 1) (by decide) ?_
  refine g_sld (v := xs 1) hk hX (vp_in_iff.mpr ⟨by decide, by show (1 : Int) < (L : Int); omega⟩) rfl dL_law_774 ?_
  refine g_aload_n hk dL_law_775 rfl ?_
  refine g_iload_n hk dL_law_776 rfl ?_
  refine g_iconst (v := 2) hk dL_law_777 (by decide) ?_
  refine g_iadd hk dL_law_778 ?_
  refine g_norm (v := 2) (by decide) ?_
  refine g_sld (v := xs 2) hk hX (vp_in_iff.mpr ⟨by decide, by show (2 : Int) < (L : Int); omega⟩) rfl dL_law_779 ?_
  refine g_callV hk (m281_X11_search l D zt d q (xs 1) (xs 2)) (SP.pre _ _) (fun q h => List.mem_append_left _ h) gL_law_X11_search rfl rfl rfl (by decide +kernel) ⟨Nat.le_of_ble_eq_true rfl, Nat.le_of_ble_eq_true rfl⟩ 0 rfl rfl rfl rfl (Nat.le_of_ble_eq_true rfl) ⟨Nat.le_of_ble_eq_true rfl, Nat.le_of_ble_eq_true rfl⟩ dL_law_780 (fun v ty' w' hp hk' => ?_)
  obtain ⟨rfl, rfl⟩ := hp
  show GW κ 4 82 21282 (wM r g iM1 aM1 lM1 ++ wX q d iX0 aX0) 783 [(3, .int 0), (2, .ref (r 0)), (1, .ref (q 0)), (0, .ref b)] [.int (-1)]
  refine g_aload_n hk dL_law_783 rfl ?_
  refine g_aload_n hk dL_law_784 rfl ?_
  refine g_iload_n hk dL_law_785 rfl ?_
  refine g_iconst (v := 1) hk dL_law_786 (by decide) ?_
  refine g_iadd hk dL_law_787 ?_
  refine g_norm (v := 1) (by decide) ?_
  refine g_sld (v := xs 1) hk hX (vp_in_iff.mpr ⟨by decide, by show (1 : Int) < (L : Int); omega⟩) rfl dL_law_788 ?_
  refine g_aload_n hk dL_law_789 rfl ?_
  refine g_iload_n hk dL_law_790 rfl ?_
  refine g_iconst (v := 2) hk dL_law_791 (by decide) ?_
  refine g_iadd hk dL_law_792 ?_
  refine g_norm (v := 2) (by decide) ?_
  refine g_sld (v := xs 2) hk hX (vp_in_iff.mpr ⟨by decide, by show (2 : Int) < (L : Int); omega⟩) rfl dL_law_793 ?_
  refine g_callV hk (m173_X12_search l D zt g r (xs 1) (xs 2)) (SP.pre _ _) (fun q h => List.mem_append_right _ h) gL_law_X12_search rfl rfl rfl (by decide +kernel) ⟨Nat.le_of_ble_eq_true rfl, Nat.le_of_ble_eq_true rfl⟩ 0 rfl rfl rfl rfl (Nat.le_of_ble_eq_true rfl) ⟨Nat.le_of_ble_eq_true rfl, Nat.le_of_ble_eq_true rfl⟩ dL_law_794 (fun v ty' w' hp hk' => ?_)
  obtain ⟨rfl, rfl⟩ := hp
  show GW κ 4 82 21282 (wX q d iX0 aX0 ++ wM r g iM1 aM1 lM1) 797 [(3, .int 0), (2, .ref (r 0)), (1, .ref (q 0)), (0, .ref b)] [.int (-1), .int (-1)]
  refine g_icmp_eq (tgt := 1465) (a := (-1)) (b := (-1)) hk dL_law_797 (by decide) rfl rfl (fun _ => ?_) (fun z9 => absurd (show (-1) = (-1) from by decide) z9)
  exact tail _
set_option maxHeartbeats 4000000 in
set_option maxRecDepth 100000 in
theorem law_20 {κ : Cx} {l : Launch} {D : va_G} {zt : Nat × Nat × Nat} {q r : Nat → Nat} {d g : Nat → ClassId} {b L : Nat} {xs : Nat → Int32} (hk : GC κ l D zt code 4 RL wsL_law (tyX d ++ tyM g) room_1) (hX : GX κ b L xs) (hL6 : L = 6) (tail : ∀ ws, GW κ 4 82 21282 ws 1465 [(3, .int 0), (2, .ref (r 0)), (1, .ref (q 0)), (0, .ref b)] []) : GW κ 4 82 21282 (wX q d iX0 aX0 ++ wM r g iM1 aM1 lM1) 802 [(3, .int 0), (2, .ref (r 0)), (1, .ref (q 0)), (0, .ref b)] [] := by
  refine g_aload_n hk dL_law_802 rfl ?_
  refine g_aload_n hk dL_law_803 rfl ?_
  refine g_iload_n hk dL_law_804 rfl ?_
  refine g_iconst (v := 1) hk dL_law_805 (by decide) ?_
  refine g_iadd hk dL_law_806 ?_
  refine g_norm (v := 1) (by decide) ?_
  refine g_sld (v := xs 1) hk hX (vp_in_iff.mpr ⟨by decide, by show (1 : Int) < (L : Int); omega⟩) rfl dL_law_807 ?_
  refine g_aload_n hk dL_law_808 rfl ?_
  refine g_iload_n hk dL_law_809 rfl ?_
  refine g_iconst (v := 2) hk dL_law_810 (by decide) ?_
  refine g_iadd hk dL_law_811 ?_
  refine g_norm (v := 2) (by decide) ?_
  refine g_sld (v := xs 2) hk hX (vp_in_iff.mpr ⟨by decide, by show (2 : Int) < (L : Int); omega⟩) rfl dL_law_812 ?_
  refine g_aload_n hk dL_law_813 rfl ?_
  refine g_iload_n hk dL_law_814 rfl ?_
  refine g_iconst (v := 3) hk dL_law_815 (by decide) ?_
  refine g_iadd hk dL_law_816 ?_
  refine g_norm (v := 3) (by decide) ?_
  refine g_sld (v := xs 3) hk hX (vp_in_iff.mpr ⟨by decide, by show (3 : Int) < (L : Int); omega⟩) rfl dL_law_817 ?_
  refine g_callV hk (m282_X11_match l D zt d q (xs 1) (xs 2) (xs 3)) (SP.pre _ _) (fun q h => List.mem_append_left _ h) gL_law_X11_match rfl rfl rfl (by decide +kernel) ⟨Nat.le_of_ble_eq_true rfl, Nat.le_of_ble_eq_true rfl⟩ 0 rfl rfl rfl rfl (Nat.le_of_ble_eq_true rfl) ⟨Nat.le_of_ble_eq_true rfl, Nat.le_of_ble_eq_true rfl⟩ dL_law_818 (fun v ty' w' hp hk' => ?_)
  obtain ⟨rfl, rfl⟩ := hp
  show GW κ 4 82 21282 (wM r g iM1 aM1 lM1 ++ wX q d iX0 aX0) 821 [(3, .int 0), (2, .ref (r 0)), (1, .ref (q 0)), (0, .ref b)] [.int (-1)]
  refine g_aload_n hk dL_law_821 rfl ?_
  refine g_aload_n hk dL_law_822 rfl ?_
  refine g_iload_n hk dL_law_823 rfl ?_
  refine g_iconst (v := 1) hk dL_law_824 (by decide) ?_
  refine g_iadd hk dL_law_825 ?_
  refine g_norm (v := 1) (by decide) ?_
  refine g_sld (v := xs 1) hk hX (vp_in_iff.mpr ⟨by decide, by show (1 : Int) < (L : Int); omega⟩) rfl dL_law_826 ?_
  refine g_aload_n hk dL_law_827 rfl ?_
  refine g_iload_n hk dL_law_828 rfl ?_
  refine g_iconst (v := 2) hk dL_law_829 (by decide) ?_
  refine g_iadd hk dL_law_830 ?_
  refine g_norm (v := 2) (by decide) ?_
  refine g_sld (v := xs 2) hk hX (vp_in_iff.mpr ⟨by decide, by show (2 : Int) < (L : Int); omega⟩) rfl dL_law_831 ?_
  refine g_aload_n hk dL_law_832 rfl ?_
  refine g_iload_n hk dL_law_833 rfl ?_
  refine g_iconst (v := 3) hk dL_law_834 (by decide) ?_
  refine g_iadd hk dL_law_835 ?_
  refine g_norm (v := 3) (by decide) ?_
  refine g_sld (v := xs 3) hk hX (vp_in_iff.mpr ⟨by decide, by show (3 : Int) < (L : Int); omega⟩) rfl dL_law_836 ?_
  refine g_callV hk (m174_X12_match l D zt g r (xs 1) (xs 2) (xs 3)) (SP.pre _ _) (fun q h => List.mem_append_right _ h) gL_law_X12_match rfl rfl rfl (by decide +kernel) ⟨Nat.le_of_ble_eq_true rfl, Nat.le_of_ble_eq_true rfl⟩ 0 rfl rfl rfl rfl (Nat.le_of_ble_eq_true rfl) ⟨Nat.le_of_ble_eq_true rfl, Nat.le_of_ble_eq_true rfl⟩ dL_law_837 (fun v ty' w' hp hk' => ?_)
  obtain ⟨rfl, rfl⟩ := hp
  show GW κ 4 82 21282 (wX q d iX0 aX0 ++ wM r g iM1 aM1 lM1) 840 [(3, .int 0), (2, .ref (r 0)), (1, .ref (q 0)), (0, .ref b)] [.int (-1), .int (-1)]
  refine g_icmp_eq (tgt := 1465) (a := (-1)) (b := (-1)) hk dL_law_840 (by decide) rfl rfl (fun _ => ?_) (fun z9 => absurd (show (-1) = (-1) from by decide) z9)
  exact tail _
set_option maxHeartbeats 4000000 in
set_option maxRecDepth 100000 in
theorem law_21 {κ : Cx} {l : Launch} {D : va_G} {zt : Nat × Nat × Nat} {q r : Nat → Nat} {d g : Nat → ClassId} {b L : Nat} {xs : Nat → Int32} (hk : GC κ l D zt code 4 RL wsL_law (tyX d ++ tyM g) room_1) (hX : GX κ b L xs) (hL6 : L = 6) (tail : ∀ ws, GW κ 4 82 21282 ws 1465 [(3, .int 0), (2, .ref (r 0)), (1, .ref (q 0)), (0, .ref b)] []) : GW κ 4 82 21282 (wX q d iX0 aX0 ++ wM r g iM1 aM1 lM1) 845 [(3, .int 0), (2, .ref (r 0)), (1, .ref (q 0)), (0, .ref b)] [] := by
  refine g_aload_n hk dL_law_845 rfl ?_
  refine g_aload_n hk dL_law_846 rfl ?_
  refine g_iload_n hk dL_law_847 rfl ?_
  refine g_iconst (v := 1) hk dL_law_848 (by decide) ?_
  refine g_iadd hk dL_law_849 ?_
  refine g_norm (v := 1) (by decide) ?_
  refine g_sld (v := xs 1) hk hX (vp_in_iff.mpr ⟨by decide, by show (1 : Int) < (L : Int); omega⟩) rfl dL_law_850 ?_
  refine g_aload_n hk dL_law_851 rfl ?_
  refine g_iload_n hk dL_law_852 rfl ?_
  refine g_iconst (v := 2) hk dL_law_853 (by decide) ?_
  refine g_iadd hk dL_law_854 ?_
  refine g_norm (v := 2) (by decide) ?_
  refine g_sld (v := xs 2) hk hX (vp_in_iff.mpr ⟨by decide, by show (2 : Int) < (L : Int); omega⟩) rfl dL_law_855 ?_
  refine g_callV hk (m283_X11_within l D zt d q (xs 1) (xs 2)) (SP.pre _ _) (fun q h => List.mem_append_left _ h) gL_law_X11_within rfl rfl rfl (by decide +kernel) ⟨Nat.le_of_ble_eq_true rfl, Nat.le_of_ble_eq_true rfl⟩ 0 rfl rfl rfl rfl (Nat.le_of_ble_eq_true rfl) ⟨Nat.le_of_ble_eq_true rfl, Nat.le_of_ble_eq_true rfl⟩ dL_law_856 (fun v ty' w' hp hk' => ?_)
  obtain ⟨rfl, rfl⟩ := hp
  show GW κ 4 82 21282 (wM r g iM1 aM1 lM1 ++ wX q d iX0 aX0) 859 [(3, .int 0), (2, .ref (r 0)), (1, .ref (q 0)), (0, .ref b)] [.int (-1)]
  refine g_aload_n hk dL_law_859 rfl ?_
  refine g_aload_n hk dL_law_860 rfl ?_
  refine g_iload_n hk dL_law_861 rfl ?_
  refine g_iconst (v := 1) hk dL_law_862 (by decide) ?_
  refine g_iadd hk dL_law_863 ?_
  refine g_norm (v := 1) (by decide) ?_
  refine g_sld (v := xs 1) hk hX (vp_in_iff.mpr ⟨by decide, by show (1 : Int) < (L : Int); omega⟩) rfl dL_law_864 ?_
  refine g_aload_n hk dL_law_865 rfl ?_
  refine g_iload_n hk dL_law_866 rfl ?_
  refine g_iconst (v := 2) hk dL_law_867 (by decide) ?_
  refine g_iadd hk dL_law_868 ?_
  refine g_norm (v := 2) (by decide) ?_
  refine g_sld (v := xs 2) hk hX (vp_in_iff.mpr ⟨by decide, by show (2 : Int) < (L : Int); omega⟩) rfl dL_law_869 ?_
  refine g_callV hk (m175_X12_within l D zt g r (xs 1) (xs 2)) (SP.pre _ _) (fun q h => List.mem_append_right _ h) gL_law_X12_within rfl rfl rfl (by decide +kernel) ⟨Nat.le_of_ble_eq_true rfl, Nat.le_of_ble_eq_true rfl⟩ 0 rfl rfl rfl rfl (Nat.le_of_ble_eq_true rfl) ⟨Nat.le_of_ble_eq_true rfl, Nat.le_of_ble_eq_true rfl⟩ dL_law_870 (fun v ty' w' hp hk' => ?_)
  obtain ⟨rfl, rfl⟩ := hp
  show GW κ 4 82 21282 (wX q d iX0 aX0 ++ wM r g iM1 aM1 lM1) 873 [(3, .int 0), (2, .ref (r 0)), (1, .ref (q 0)), (0, .ref b)] [.int (-1), .int (-1)]
  refine g_icmp_eq (tgt := 1465) (a := (-1)) (b := (-1)) hk dL_law_873 (by decide) rfl rfl (fun _ => ?_) (fun z9 => absurd (show (-1) = (-1) from by decide) z9)
  exact tail _
set_option maxHeartbeats 4000000 in
set_option maxRecDepth 100000 in
theorem law_22 {κ : Cx} {l : Launch} {D : va_G} {zt : Nat × Nat × Nat} {q r : Nat → Nat} {d g : Nat → ClassId} {b L : Nat} {xs : Nat → Int32} (hk : GC κ l D zt code 4 RL wsL_law (tyX d ++ tyM g) room_1) (hX : GX κ b L xs) (hL6 : L = 6) (tail : ∀ ws, GW κ 4 82 21282 ws 1465 [(3, .int 0), (2, .ref (r 0)), (1, .ref (q 0)), (0, .ref b)] []) : GW κ 4 82 21282 (wX q d iX0 aX0 ++ wM r g iM1 aM1 lM1) 878 [(3, .int 0), (2, .ref (r 0)), (1, .ref (q 0)), (0, .ref b)] [] := by
  refine g_aload_n hk dL_law_878 rfl ?_
  refine g_aload_n hk dL_law_879 rfl ?_
  refine g_iload_n hk dL_law_880 rfl ?_
  refine g_iconst (v := 1) hk dL_law_881 (by decide) ?_
  refine g_iadd hk dL_law_882 ?_
  refine g_norm (v := 1) (by decide) ?_
  refine g_sld (v := xs 1) hk hX (vp_in_iff.mpr ⟨by decide, by show (1 : Int) < (L : Int); omega⟩) rfl dL_law_883 ?_
  refine g_aload_n hk dL_law_884 rfl ?_
  refine g_iload_n hk dL_law_885 rfl ?_
  refine g_iconst (v := 2) hk dL_law_886 (by decide) ?_
  refine g_iadd hk dL_law_887 ?_
  refine g_norm (v := 2) (by decide) ?_
  refine g_sld (v := xs 2) hk hX (vp_in_iff.mpr ⟨by decide, by show (2 : Int) < (L : Int); omega⟩) rfl dL_law_888 ?_
  refine g_aload_n hk dL_law_889 rfl ?_
  refine g_iload_n hk dL_law_890 rfl ?_
  refine g_iconst (v := 3) hk dL_law_891 (by decide) ?_
  refine g_iadd hk dL_law_892 ?_
  refine g_norm (v := 3) (by decide) ?_
  refine g_sld (v := xs 3) hk hX (vp_in_iff.mpr ⟨by decide, by show (3 : Int) < (L : Int); omega⟩) rfl dL_law_893 ?_
  refine g_callV hk (m284_X11_way l D zt d q (xs 1) (xs 2) (xs 3)) (SP.pre _ _) (fun q h => List.mem_append_left _ h) gL_law_X11_way rfl rfl rfl (by decide +kernel) ⟨Nat.le_of_ble_eq_true rfl, Nat.le_of_ble_eq_true rfl⟩ 0 rfl rfl rfl rfl (Nat.le_of_ble_eq_true rfl) ⟨Nat.le_of_ble_eq_true rfl, Nat.le_of_ble_eq_true rfl⟩ dL_law_894 (fun v ty' w' hp hk' => ?_)
  obtain ⟨rfl, rfl⟩ := hp
  show GW κ 4 82 21282 (wM r g iM1 aM1 lM1 ++ wX q d iX0 aX0) 897 [(3, .int 0), (2, .ref (r 0)), (1, .ref (q 0)), (0, .ref b)] [.int (-1)]
  refine g_aload_n hk dL_law_897 rfl ?_
  refine g_aload_n hk dL_law_898 rfl ?_
  refine g_iload_n hk dL_law_899 rfl ?_
  refine g_iconst (v := 1) hk dL_law_900 (by decide) ?_
  refine g_iadd hk dL_law_901 ?_
  refine g_norm (v := 1) (by decide) ?_
  refine g_sld (v := xs 1) hk hX (vp_in_iff.mpr ⟨by decide, by show (1 : Int) < (L : Int); omega⟩) rfl dL_law_902 ?_
  refine g_aload_n hk dL_law_903 rfl ?_
  refine g_iload_n hk dL_law_904 rfl ?_
  refine g_iconst (v := 2) hk dL_law_905 (by decide) ?_
  refine g_iadd hk dL_law_906 ?_
  refine g_norm (v := 2) (by decide) ?_
  refine g_sld (v := xs 2) hk hX (vp_in_iff.mpr ⟨by decide, by show (2 : Int) < (L : Int); omega⟩) rfl dL_law_907 ?_
  refine g_aload_n hk dL_law_908 rfl ?_
  refine g_iload_n hk dL_law_909 rfl ?_
  refine g_iconst (v := 3) hk dL_law_910 (by decide) ?_
  refine g_iadd hk dL_law_911 ?_
  refine g_norm (v := 3) (by decide) ?_
  refine g_sld (v := xs 3) hk hX (vp_in_iff.mpr ⟨by decide, by show (3 : Int) < (L : Int); omega⟩) rfl dL_law_912 ?_
  refine g_callV hk (m176_X12_way l D zt g r (xs 1) (xs 2) (xs 3)) (SP.pre _ _) (fun q h => List.mem_append_right _ h) gL_law_X12_way rfl rfl rfl (by decide +kernel) ⟨Nat.le_of_ble_eq_true rfl, Nat.le_of_ble_eq_true rfl⟩ 0 rfl rfl rfl rfl (Nat.le_of_ble_eq_true rfl) ⟨Nat.le_of_ble_eq_true rfl, Nat.le_of_ble_eq_true rfl⟩ dL_law_913 (fun v ty' w' hp hk' => ?_)
  obtain ⟨rfl, rfl⟩ := hp
  show GW κ 4 82 21282 (wX q d iX0 aX0 ++ wM r g iM1 aM1 lM1) 916 [(3, .int 0), (2, .ref (r 0)), (1, .ref (q 0)), (0, .ref b)] [.int (-1), .int (-1)]
  refine g_icmp_eq (tgt := 1465) (a := (-1)) (b := (-1)) hk dL_law_916 (by decide) rfl rfl (fun _ => ?_) (fun z9 => absurd (show (-1) = (-1) from by decide) z9)
  exact tail _
set_option maxHeartbeats 4000000 in
set_option maxRecDepth 100000 in
theorem law_23 {κ : Cx} {l : Launch} {D : va_G} {zt : Nat × Nat × Nat} {q r : Nat → Nat} {d g : Nat → ClassId} {b L : Nat} {xs : Nat → Int32} (hk : GC κ l D zt code 4 RL wsL_law (tyX d ++ tyM g) room_1) (hX : GX κ b L xs) (hL6 : L = 6) (tail : ∀ ws, GW κ 4 82 21282 ws 1465 [(3, .int 0), (2, .ref (r 0)), (1, .ref (q 0)), (0, .ref b)] []) : GW κ 4 82 21282 (wX q d iX0 aX0 ++ wM r g iM1 aM1 lM1) 921 [(3, .int 0), (2, .ref (r 0)), (1, .ref (q 0)), (0, .ref b)] [] := by
  refine g_aload_n hk dL_law_921 rfl ?_
  refine g_aload_n hk dL_law_922 rfl ?_
  refine g_iload_n hk dL_law_923 rfl ?_
  refine g_iconst (v := 1) hk dL_law_924 (by decide) ?_
  refine g_iadd hk dL_law_925 ?_
  refine g_norm (v := 1) (by decide) ?_
  refine g_sld (v := xs 1) hk hX (vp_in_iff.mpr ⟨by decide, by show (1 : Int) < (L : Int); omega⟩) rfl dL_law_926 ?_
  refine g_aload_n hk dL_law_927 rfl ?_
  refine g_iload_n hk dL_law_928 rfl ?_
  refine g_iconst (v := 2) hk dL_law_929 (by decide) ?_
  refine g_iadd hk dL_law_930 ?_
  refine g_norm (v := 2) (by decide) ?_
  refine g_sld (v := xs 2) hk hX (vp_in_iff.mpr ⟨by decide, by show (2 : Int) < (L : Int); omega⟩) rfl dL_law_931 ?_
  refine g_callV hk (m285_X11_needs l D zt d q (xs 1) (xs 2)) (SP.pre _ _) (fun q h => List.mem_append_left _ h) gL_law_X11_needs rfl rfl rfl (by decide +kernel) ⟨Nat.le_of_ble_eq_true rfl, Nat.le_of_ble_eq_true rfl⟩ 0 rfl rfl rfl rfl (Nat.le_of_ble_eq_true rfl) ⟨Nat.le_of_ble_eq_true rfl, Nat.le_of_ble_eq_true rfl⟩ dL_law_932 (fun v ty' w' hp hk' => ?_)
  obtain ⟨rfl, rfl⟩ := hp
  show GW κ 4 82 21282 (wM r g iM1 aM1 lM1 ++ wX q d iX0 aX0) 935 [(3, .int 0), (2, .ref (r 0)), (1, .ref (q 0)), (0, .ref b)] [.int (-1)]
  refine g_aload_n hk dL_law_935 rfl ?_
  refine g_aload_n hk dL_law_936 rfl ?_
  refine g_iload_n hk dL_law_937 rfl ?_
  refine g_iconst (v := 1) hk dL_law_938 (by decide) ?_
  refine g_iadd hk dL_law_939 ?_
  refine g_norm (v := 1) (by decide) ?_
  refine g_sld (v := xs 1) hk hX (vp_in_iff.mpr ⟨by decide, by show (1 : Int) < (L : Int); omega⟩) rfl dL_law_940 ?_
  refine g_aload_n hk dL_law_941 rfl ?_
  refine g_iload_n hk dL_law_942 rfl ?_
  refine g_iconst (v := 2) hk dL_law_943 (by decide) ?_
  refine g_iadd hk dL_law_944 ?_
  refine g_norm (v := 2) (by decide) ?_
  refine g_sld (v := xs 2) hk hX (vp_in_iff.mpr ⟨by decide, by show (2 : Int) < (L : Int); omega⟩) rfl dL_law_945 ?_
  refine g_callV hk (m177_X12_needs l D zt g r (xs 1) (xs 2)) (SP.pre _ _) (fun q h => List.mem_append_right _ h) gL_law_X12_needs rfl rfl rfl (by decide +kernel) ⟨Nat.le_of_ble_eq_true rfl, Nat.le_of_ble_eq_true rfl⟩ 0 rfl rfl rfl rfl (Nat.le_of_ble_eq_true rfl) ⟨Nat.le_of_ble_eq_true rfl, Nat.le_of_ble_eq_true rfl⟩ dL_law_946 (fun v ty' w' hp hk' => ?_)
  obtain ⟨rfl, rfl⟩ := hp
  show GW κ 4 82 21282 (wX q d iX0 aX0 ++ wM r g iM1 aM1 lM1) 949 [(3, .int 0), (2, .ref (r 0)), (1, .ref (q 0)), (0, .ref b)] [.int (-1), .int (-1)]
  refine g_icmp_eq (tgt := 1465) (a := (-1)) (b := (-1)) hk dL_law_949 (by decide) rfl rfl (fun _ => ?_) (fun z9 => absurd (show (-1) = (-1) from by decide) z9)
  exact tail _
set_option maxHeartbeats 4000000 in
set_option maxRecDepth 100000 in
theorem law_24 {κ : Cx} {l : Launch} {D : va_G} {zt : Nat × Nat × Nat} {q r : Nat → Nat} {d g : Nat → ClassId} {b L : Nat} {xs : Nat → Int32} (hk : GC κ l D zt code 4 RL wsL_law (tyX d ++ tyM g) room_1) (hX : GX κ b L xs) (hL6 : L = 6) (tail : ∀ ws, GW κ 4 82 21282 ws 1465 [(3, .int 0), (2, .ref (r 0)), (1, .ref (q 0)), (0, .ref b)] []) : GW κ 4 82 21282 (wX q d iX0 aX0 ++ wM r g iM1 aM1 lM1) 954 [(3, .int 0), (2, .ref (r 0)), (1, .ref (q 0)), (0, .ref b)] [] := by
  refine g_aload_n hk dL_law_954 rfl ?_
  refine g_aload_n hk dL_law_955 rfl ?_
  refine g_iload_n hk dL_law_956 rfl ?_
  refine g_iconst (v := 1) hk dL_law_957 (by decide) ?_
  refine g_iadd hk dL_law_958 ?_
  refine g_norm (v := 1) (by decide) ?_
  refine g_sld (v := xs 1) hk hX (vp_in_iff.mpr ⟨by decide, by show (1 : Int) < (L : Int); omega⟩) rfl dL_law_959 ?_
  refine g_aload_n hk dL_law_960 rfl ?_
  refine g_iload_n hk dL_law_961 rfl ?_
  refine g_iconst (v := 2) hk dL_law_962 (by decide) ?_
  refine g_iadd hk dL_law_963 ?_
  refine g_norm (v := 2) (by decide) ?_
  refine g_sld (v := xs 2) hk hX (vp_in_iff.mpr ⟨by decide, by show (2 : Int) < (L : Int); omega⟩) rfl dL_law_964 ?_
  refine g_callV hk (m286_X11_alike l D zt d q (xs 1) (xs 2)) (SP.pre _ _) (fun q h => List.mem_append_left _ h) gL_law_X11_alike rfl rfl rfl (by decide +kernel) ⟨Nat.le_of_ble_eq_true rfl, Nat.le_of_ble_eq_true rfl⟩ 0 rfl rfl rfl rfl (Nat.le_of_ble_eq_true rfl) ⟨Nat.le_of_ble_eq_true rfl, Nat.le_of_ble_eq_true rfl⟩ dL_law_965 (fun v ty' w' hp hk' => ?_)
  obtain ⟨rfl, rfl⟩ := hp
  show GW κ 4 82 21282 (wM r g iM1 aM1 lM1 ++ wX q d iX0 aX0) 968 [(3, .int 0), (2, .ref (r 0)), (1, .ref (q 0)), (0, .ref b)] [.int (-1)]
  refine g_aload_n hk dL_law_968 rfl ?_
  refine g_aload_n hk dL_law_969 rfl ?_
  refine g_iload_n hk dL_law_970 rfl ?_
  refine g_iconst (v := 1) hk dL_law_971 (by decide) ?_
  refine g_iadd hk dL_law_972 ?_
  refine g_norm (v := 1) (by decide) ?_
  refine g_sld (v := xs 1) hk hX (vp_in_iff.mpr ⟨by decide, by show (1 : Int) < (L : Int); omega⟩) rfl dL_law_973 ?_
  refine g_aload_n hk dL_law_974 rfl ?_
  refine g_iload_n hk dL_law_975 rfl ?_
  refine g_iconst (v := 2) hk dL_law_976 (by decide) ?_
  refine g_iadd hk dL_law_977 ?_
  refine g_norm (v := 2) (by decide) ?_
  refine g_sld (v := xs 2) hk hX (vp_in_iff.mpr ⟨by decide, by show (2 : Int) < (L : Int); omega⟩) rfl dL_law_978 ?_
  refine g_callV hk (m178_X12_alike l D zt g r (xs 1) (xs 2)) (SP.pre _ _) (fun q h => List.mem_append_right _ h) gL_law_X12_alike rfl rfl rfl (by decide +kernel) ⟨Nat.le_of_ble_eq_true rfl, Nat.le_of_ble_eq_true rfl⟩ 0 rfl rfl rfl rfl (Nat.le_of_ble_eq_true rfl) ⟨Nat.le_of_ble_eq_true rfl, Nat.le_of_ble_eq_true rfl⟩ dL_law_979 (fun v ty' w' hp hk' => ?_)
  obtain ⟨rfl, rfl⟩ := hp
  show GW κ 4 82 21282 (wX q d iX0 aX0 ++ wM r g iM1 aM1 lM1) 982 [(3, .int 0), (2, .ref (r 0)), (1, .ref (q 0)), (0, .ref b)] [.int (-1), .int (-1)]
  refine g_icmp_eq (tgt := 1465) (a := (-1)) (b := (-1)) hk dL_law_982 (by decide) rfl rfl (fun _ => ?_) (fun z9 => absurd (show (-1) = (-1) from by decide) z9)
  exact tail _
set_option maxHeartbeats 4000000 in
set_option maxRecDepth 100000 in
theorem law_25 {κ : Cx} {l : Launch} {D : va_G} {zt : Nat × Nat × Nat} {q r : Nat → Nat} {d g : Nat → ClassId} {b L : Nat} {xs : Nat → Int32} (hk : GC κ l D zt code 4 RL wsL_law (tyX d ++ tyM g) room_1) (hX : GX κ b L xs) (hL6 : L = 6) (tail : ∀ ws, GW κ 4 82 21282 ws 1465 [(3, .int 0), (2, .ref (r 0)), (1, .ref (q 0)), (0, .ref b)] []) : GW κ 4 82 21282 (wX q d iX0 aX0 ++ wM r g iM1 aM1 lM1) 987 [(3, .int 0), (2, .ref (r 0)), (1, .ref (q 0)), (0, .ref b)] [] := by
  refine g_aload_n hk dL_law_987 rfl ?_
  refine g_aload_n hk dL_law_988 rfl ?_
  refine g_iload_n hk dL_law_989 rfl ?_
  refine g_iconst (v := 1) hk dL_law_990 (by decide) ?_
  refine g_iadd hk dL_law_991 ?_
  refine g_norm (v := 1) (by decide) ?_
  refine g_sld (v := xs 1) hk hX (vp_in_iff.mpr ⟨by decide, by show (1 : Int) < (L : Int); omega⟩) rfl dL_law_992 ?_
  refine g_aload_n hk dL_law_993 rfl ?_
  refine g_iload_n hk dL_law_994 rfl ?_
  refine g_iconst (v := 2) hk dL_law_995 (by decide) ?_
  refine g_iadd hk dL_law_996 ?_
  refine g_norm (v := 2) (by decide) ?_
  refine g_sld (v := xs 2) hk hX (vp_in_iff.mpr ⟨by decide, by show (2 : Int) < (L : Int); omega⟩) rfl dL_law_997 ?_
  refine g_aload_n hk dL_law_998 rfl ?_
  refine g_iload_n hk dL_law_999 rfl ?_
  refine g_iconst (v := 3) hk dL_law_1000 (by decide) ?_
  refine g_iadd hk dL_law_1001 ?_
  refine g_norm (v := 3) (by decide) ?_
  refine g_sld (v := xs 3) hk hX (vp_in_iff.mpr ⟨by decide, by show (3 : Int) < (L : Int); omega⟩) rfl dL_law_1002 ?_
  refine g_callV hk (m287_X11_near l D zt d q (xs 1) (xs 2) (xs 3)) (SP.pre _ _) (fun q h => List.mem_append_left _ h) gL_law_X11_near rfl rfl rfl (by decide +kernel) ⟨Nat.le_of_ble_eq_true rfl, Nat.le_of_ble_eq_true rfl⟩ 0 rfl rfl rfl rfl (Nat.le_of_ble_eq_true rfl) ⟨Nat.le_of_ble_eq_true rfl, Nat.le_of_ble_eq_true rfl⟩ dL_law_1003 (fun v ty' w' hp hk' => ?_)
  obtain ⟨rfl, rfl⟩ := hp
  show GW κ 4 82 21282 (wM r g iM1 aM1 lM1 ++ wX q d iX0 aX0) 1006 [(3, .int 0), (2, .ref (r 0)), (1, .ref (q 0)), (0, .ref b)] [.int (-1)]
  refine g_aload_n hk dL_law_1006 rfl ?_
  refine g_aload_n hk dL_law_1007 rfl ?_
  refine g_iload_n hk dL_law_1008 rfl ?_
  refine g_iconst (v := 1) hk dL_law_1009 (by decide) ?_
  refine g_iadd hk dL_law_1010 ?_
  refine g_norm (v := 1) (by decide) ?_
  refine g_sld (v := xs 1) hk hX (vp_in_iff.mpr ⟨by decide, by show (1 : Int) < (L : Int); omega⟩) rfl dL_law_1011 ?_
  refine g_aload_n hk dL_law_1012 rfl ?_
  refine g_iload_n hk dL_law_1013 rfl ?_
  refine g_iconst (v := 2) hk dL_law_1014 (by decide) ?_
  refine g_iadd hk dL_law_1015 ?_
  refine g_norm (v := 2) (by decide) ?_
  refine g_sld (v := xs 2) hk hX (vp_in_iff.mpr ⟨by decide, by show (2 : Int) < (L : Int); omega⟩) rfl dL_law_1016 ?_
  refine g_aload_n hk dL_law_1017 rfl ?_
  refine g_iload_n hk dL_law_1018 rfl ?_
  refine g_iconst (v := 3) hk dL_law_1019 (by decide) ?_
  refine g_iadd hk dL_law_1020 ?_
  refine g_norm (v := 3) (by decide) ?_
  refine g_sld (v := xs 3) hk hX (vp_in_iff.mpr ⟨by decide, by show (3 : Int) < (L : Int); omega⟩) rfl dL_law_1021 ?_
  refine g_callV hk (m179_X12_near l D zt g r (xs 1) (xs 2) (xs 3)) (SP.pre _ _) (fun q h => List.mem_append_right _ h) gL_law_X12_near rfl rfl rfl (by decide +kernel) ⟨Nat.le_of_ble_eq_true rfl, Nat.le_of_ble_eq_true rfl⟩ 0 rfl rfl rfl rfl (Nat.le_of_ble_eq_true rfl) ⟨Nat.le_of_ble_eq_true rfl, Nat.le_of_ble_eq_true rfl⟩ dL_law_1022 (fun v ty' w' hp hk' => ?_)
  obtain ⟨rfl, rfl⟩ := hp
  show GW κ 4 82 21282 (wX q d iX0 aX0 ++ wM r g iM1 aM1 lM1) 1025 [(3, .int 0), (2, .ref (r 0)), (1, .ref (q 0)), (0, .ref b)] [.int (-1), .int (-1)]
  refine g_icmp_eq (tgt := 1465) (a := (-1)) (b := (-1)) hk dL_law_1025 (by decide) rfl rfl (fun _ => ?_) (fun z9 => absurd (show (-1) = (-1) from by decide) z9)
  exact tail _
set_option maxHeartbeats 4000000 in
set_option maxRecDepth 100000 in
theorem law_26 {κ : Cx} {l : Launch} {D : va_G} {zt : Nat × Nat × Nat} {q r : Nat → Nat} {d g : Nat → ClassId} {b L : Nat} {xs : Nat → Int32} (hk : GC κ l D zt code 4 RL wsL_law (tyX d ++ tyM g) room_1) (hX : GX κ b L xs) (hL6 : L = 6) (tail : ∀ ws, GW κ 4 82 21282 ws 1465 [(3, .int 0), (2, .ref (r 0)), (1, .ref (q 0)), (0, .ref b)] []) : GW κ 4 82 21282 (wX q d iX0 aX0 ++ wM r g iM1 aM1 lM1) 1030 [(3, .int 0), (2, .ref (r 0)), (1, .ref (q 0)), (0, .ref b)] [] := by
  refine g_aload_n hk dL_law_1030 rfl ?_
  refine g_aload_n hk dL_law_1031 rfl ?_
  refine g_iload_n hk dL_law_1032 rfl ?_
  refine g_iconst (v := 1) hk dL_law_1033 (by decide) ?_
  refine g_iadd hk dL_law_1034 ?_
  refine g_norm (v := 1) (by decide) ?_
  refine g_sld (v := xs 1) hk hX (vp_in_iff.mpr ⟨by decide, by show (1 : Int) < (L : Int); omega⟩) rfl dL_law_1035 ?_
  refine g_aload_n hk dL_law_1036 rfl ?_
  refine g_iload_n hk dL_law_1037 rfl ?_
  refine g_iconst (v := 2) hk dL_law_1038 (by decide) ?_
  refine g_iadd hk dL_law_1039 ?_
  refine g_norm (v := 2) (by decide) ?_
  refine g_sld (v := xs 2) hk hX (vp_in_iff.mpr ⟨by decide, by show (2 : Int) < (L : Int); omega⟩) rfl dL_law_1040 ?_
  refine g_callV hk (m290_X11_pair l D zt d q (xs 1) (xs 2)) (SP.pre _ _) (fun q h => List.mem_append_left _ h) gL_law_X11_pair rfl rfl rfl (by decide +kernel) ⟨Nat.le_of_ble_eq_true rfl, Nat.le_of_ble_eq_true rfl⟩ 0 rfl rfl rfl rfl (Nat.le_of_ble_eq_true rfl) ⟨Nat.le_of_ble_eq_true rfl, Nat.le_of_ble_eq_true rfl⟩ dL_law_1041 (fun v ty' w' hp hk' => ?_)
  rcases hp with ⟨c3093, rfl, rfl⟩ | ⟨c3094, c3095, rfl, rfl⟩ | ⟨c3096, c3097, c3098, rfl, rfl⟩ | ⟨c3099, c3100, c3101, c3102, c3103, c3104, rfl, rfl⟩ | ⟨c3105, c3106, c3107, c3108, c3109, c3110, rfl, rfl⟩ | ⟨c3111, c3112, c3113, c3114, c3115, rfl, rfl⟩ | ⟨c3116, c3117, c3118, c3119, rfl, rfl⟩
  · show GW κ 4 82 21282 (wM r g iM1 aM1 lM1 ++ wX q d iX0 aX0) 1044 [(3, .int 0), (2, .ref (r 0)), (1, .ref (q 0)), (0, .ref b)] [.int (-1)]
    refine g_aload_n hk dL_law_1044 rfl ?_
    refine g_aload_n hk dL_law_1045 rfl ?_
    refine g_iload_n hk dL_law_1046 rfl ?_
    refine g_iconst (v := 1) hk dL_law_1047 (by decide) ?_
    refine g_iadd hk dL_law_1048 ?_
    refine g_norm (v := 1) (by decide) ?_
    refine g_sld (v := xs 1) hk hX (vp_in_iff.mpr ⟨by decide, by show (1 : Int) < (L : Int); omega⟩) rfl dL_law_1049 ?_
    refine g_aload_n hk dL_law_1050 rfl ?_
    refine g_iload_n hk dL_law_1051 rfl ?_
    refine g_iconst (v := 2) hk dL_law_1052 (by decide) ?_
    refine g_iadd hk dL_law_1053 ?_
    refine g_norm (v := 2) (by decide) ?_
    refine g_sld (v := xs 2) hk hX (vp_in_iff.mpr ⟨by decide, by show (2 : Int) < (L : Int); omega⟩) rfl dL_law_1054 ?_
    refine g_callV hk (m181_X12_pair l D zt g r (xs 1) (xs 2)) (SP.pre _ _) (fun q h => List.mem_append_right _ h) gL_law_X12_pair rfl rfl rfl (by decide +kernel) ⟨Nat.le_of_ble_eq_true rfl, Nat.le_of_ble_eq_true rfl⟩ 0 rfl rfl rfl rfl (Nat.le_of_ble_eq_true rfl) ⟨Nat.le_of_ble_eq_true rfl, Nat.le_of_ble_eq_true rfl⟩ dL_law_1055 (fun v ty' w' hp hk' => ?_)
    rcases hp with ⟨c3120, rfl, rfl⟩ | ⟨c3121, c3122, rfl, rfl⟩ | ⟨c3123, c3124, c3125, rfl, rfl⟩ | ⟨c3126, c3127, c3128, c3129, rfl, rfl⟩ | ⟨c3130, c3131, c3132, c3133, c3134, c3135, rfl, rfl⟩ | ⟨c3136, c3137, c3138, c3139, c3140, c3141, rfl, rfl⟩ | ⟨c3142, c3143, c3144, c3145, c3146, rfl, rfl⟩
    · show GW κ 4 82 21282 (wX q d iX0 aX0 ++ wM r g iM1 aM1 lM1) 1058 [(3, .int 0), (2, .ref (r 0)), (1, .ref (q 0)), (0, .ref b)] [.int (-1), .int (-1)]
      refine g_icmp_eq (tgt := 1465) (a := (-1)) (b := (-1)) hk dL_law_1058 (by decide) rfl rfl (fun _ => ?_) (fun z9 => absurd (show (-1) = (-1) from by decide) z9)
      exact tail _
    · show GW κ 4 82 21282 (wX q d iX0 aX0 ++ wM r g iM1 aM1 lM1) 1058 [(3, .int 0), (2, .ref (r 0)), (1, .ref (q 0)), (0, .ref b)] [.int (-1), .int (-1)]
      exfalso; omega
    · show GW κ 4 82 21282 (wX q d iX0 aX0 ++ wM r g iM1 aM1 lM1) 1058 [(3, .int 0), (2, .ref (r 0)), (1, .ref (q 0)), (0, .ref b)] [.int (-1), .int (-1)]
      exfalso; omega
    · show GW κ 4 82 21282 (wX q d iX0 aX0 ++ wM r g iM1 aM1 lM1) 1058 [(3, .int 0), (2, .ref (r 0)), (1, .ref (q 0)), (0, .ref b)] [.int (-1), .int (-1)]
      exfalso; omega
    · show GW κ 4 82 21282 (wX q d iX0 aX0 ++ wM r g iM1 (up2 aM1 18 (cp (aM1 17) (aM1 18) 165)) lM1) 1058 [(3, .int 0), (2, .ref (r 0)), (1, .ref (q 0)), (0, .ref b)] [.int (-2), .int (-1)]
      exfalso; omega
    · show GW κ 4 82 21282 (wX q d iX0 aX0 ++ wM r g iM1 (up2 aM1 18 (cp (aM1 17) (aM1 18) 165)) lM1) 1058 [(3, .int 0), (2, .ref (r 0)), (1, .ref (q 0)), (0, .ref b)] [.int (-2), .int (-1)]
      exfalso; omega
    · show GW κ 4 82 21282 (wX q d iX0 aX0 ++ wM r g iM1 (up2 aM1 18 (cp (aM1 17) (aM1 18) 165)) lM1) 1058 [(3, .int 0), (2, .ref (r 0)), (1, .ref (q 0)), (0, .ref b)] [.int (-2), .int (-1)]
      exfalso; omega
  · show GW κ 4 82 21282 (wM r g iM1 aM1 lM1 ++ wX q d iX0 aX0) 1044 [(3, .int 0), (2, .ref (r 0)), (1, .ref (q 0)), (0, .ref b)] [.int (-1)]
    refine g_aload_n hk dL_law_1044 rfl ?_
    refine g_aload_n hk dL_law_1045 rfl ?_
    refine g_iload_n hk dL_law_1046 rfl ?_
    refine g_iconst (v := 1) hk dL_law_1047 (by decide) ?_
    refine g_iadd hk dL_law_1048 ?_
    refine g_norm (v := 1) (by decide) ?_
    refine g_sld (v := xs 1) hk hX (vp_in_iff.mpr ⟨by decide, by show (1 : Int) < (L : Int); omega⟩) rfl dL_law_1049 ?_
    refine g_aload_n hk dL_law_1050 rfl ?_
    refine g_iload_n hk dL_law_1051 rfl ?_
    refine g_iconst (v := 2) hk dL_law_1052 (by decide) ?_
    refine g_iadd hk dL_law_1053 ?_
    refine g_norm (v := 2) (by decide) ?_
    refine g_sld (v := xs 2) hk hX (vp_in_iff.mpr ⟨by decide, by show (2 : Int) < (L : Int); omega⟩) rfl dL_law_1054 ?_
    refine g_callV hk (m181_X12_pair l D zt g r (xs 1) (xs 2)) (SP.pre _ _) (fun q h => List.mem_append_right _ h) gL_law_X12_pair rfl rfl rfl (by decide +kernel) ⟨Nat.le_of_ble_eq_true rfl, Nat.le_of_ble_eq_true rfl⟩ 0 rfl rfl rfl rfl (Nat.le_of_ble_eq_true rfl) ⟨Nat.le_of_ble_eq_true rfl, Nat.le_of_ble_eq_true rfl⟩ dL_law_1055 (fun v ty' w' hp hk' => ?_)
    rcases hp with ⟨c3147, rfl, rfl⟩ | ⟨c3148, c3149, rfl, rfl⟩ | ⟨c3150, c3151, c3152, rfl, rfl⟩ | ⟨c3153, c3154, c3155, c3156, rfl, rfl⟩ | ⟨c3157, c3158, c3159, c3160, c3161, c3162, rfl, rfl⟩ | ⟨c3163, c3164, c3165, c3166, c3167, c3168, rfl, rfl⟩ | ⟨c3169, c3170, c3171, c3172, c3173, rfl, rfl⟩
    · show GW κ 4 82 21282 (wX q d iX0 aX0 ++ wM r g iM1 aM1 lM1) 1058 [(3, .int 0), (2, .ref (r 0)), (1, .ref (q 0)), (0, .ref b)] [.int (-1), .int (-1)]
      exfalso; omega
    · show GW κ 4 82 21282 (wX q d iX0 aX0 ++ wM r g iM1 aM1 lM1) 1058 [(3, .int 0), (2, .ref (r 0)), (1, .ref (q 0)), (0, .ref b)] [.int (-1), .int (-1)]
      refine g_icmp_eq (tgt := 1465) (a := (-1)) (b := (-1)) hk dL_law_1058 (by decide) rfl rfl (fun _ => ?_) (fun z9 => absurd (show (-1) = (-1) from by decide) z9)
      exact tail _
    · show GW κ 4 82 21282 (wX q d iX0 aX0 ++ wM r g iM1 aM1 lM1) 1058 [(3, .int 0), (2, .ref (r 0)), (1, .ref (q 0)), (0, .ref b)] [.int (-1), .int (-1)]
      exfalso; omega
    · show GW κ 4 82 21282 (wX q d iX0 aX0 ++ wM r g iM1 aM1 lM1) 1058 [(3, .int 0), (2, .ref (r 0)), (1, .ref (q 0)), (0, .ref b)] [.int (-1), .int (-1)]
      exfalso; omega
    · show GW κ 4 82 21282 (wX q d iX0 aX0 ++ wM r g iM1 (up2 aM1 18 (cp (aM1 17) (aM1 18) 165)) lM1) 1058 [(3, .int 0), (2, .ref (r 0)), (1, .ref (q 0)), (0, .ref b)] [.int (-2), .int (-1)]
      exfalso; omega
    · show GW κ 4 82 21282 (wX q d iX0 aX0 ++ wM r g iM1 (up2 aM1 18 (cp (aM1 17) (aM1 18) 165)) lM1) 1058 [(3, .int 0), (2, .ref (r 0)), (1, .ref (q 0)), (0, .ref b)] [.int (-2), .int (-1)]
      exfalso; omega
    · show GW κ 4 82 21282 (wX q d iX0 aX0 ++ wM r g iM1 (up2 aM1 18 (cp (aM1 17) (aM1 18) 165)) lM1) 1058 [(3, .int 0), (2, .ref (r 0)), (1, .ref (q 0)), (0, .ref b)] [.int (-2), .int (-1)]
      exfalso; omega
  · show GW κ 4 82 21282 (wM r g iM1 aM1 lM1 ++ wX q d iX0 aX0) 1044 [(3, .int 0), (2, .ref (r 0)), (1, .ref (q 0)), (0, .ref b)] [.int (-1)]
    refine g_aload_n hk dL_law_1044 rfl ?_
    refine g_aload_n hk dL_law_1045 rfl ?_
    refine g_iload_n hk dL_law_1046 rfl ?_
    refine g_iconst (v := 1) hk dL_law_1047 (by decide) ?_
    refine g_iadd hk dL_law_1048 ?_
    refine g_norm (v := 1) (by decide) ?_
    refine g_sld (v := xs 1) hk hX (vp_in_iff.mpr ⟨by decide, by show (1 : Int) < (L : Int); omega⟩) rfl dL_law_1049 ?_
    refine g_aload_n hk dL_law_1050 rfl ?_
    refine g_iload_n hk dL_law_1051 rfl ?_
    refine g_iconst (v := 2) hk dL_law_1052 (by decide) ?_
    refine g_iadd hk dL_law_1053 ?_
    refine g_norm (v := 2) (by decide) ?_
    refine g_sld (v := xs 2) hk hX (vp_in_iff.mpr ⟨by decide, by show (2 : Int) < (L : Int); omega⟩) rfl dL_law_1054 ?_
    refine g_callV hk (m181_X12_pair l D zt g r (xs 1) (xs 2)) (SP.pre _ _) (fun q h => List.mem_append_right _ h) gL_law_X12_pair rfl rfl rfl (by decide +kernel) ⟨Nat.le_of_ble_eq_true rfl, Nat.le_of_ble_eq_true rfl⟩ 0 rfl rfl rfl rfl (Nat.le_of_ble_eq_true rfl) ⟨Nat.le_of_ble_eq_true rfl, Nat.le_of_ble_eq_true rfl⟩ dL_law_1055 (fun v ty' w' hp hk' => ?_)
    rcases hp with ⟨c3174, rfl, rfl⟩ | ⟨c3175, c3176, rfl, rfl⟩ | ⟨c3177, c3178, c3179, rfl, rfl⟩ | ⟨c3180, c3181, c3182, c3183, rfl, rfl⟩ | ⟨c3184, c3185, c3186, c3187, c3188, c3189, rfl, rfl⟩ | ⟨c3190, c3191, c3192, c3193, c3194, c3195, rfl, rfl⟩ | ⟨c3196, c3197, c3198, c3199, c3200, rfl, rfl⟩
    · show GW κ 4 82 21282 (wX q d iX0 aX0 ++ wM r g iM1 aM1 lM1) 1058 [(3, .int 0), (2, .ref (r 0)), (1, .ref (q 0)), (0, .ref b)] [.int (-1), .int (-1)]
      exfalso; omega
    · show GW κ 4 82 21282 (wX q d iX0 aX0 ++ wM r g iM1 aM1 lM1) 1058 [(3, .int 0), (2, .ref (r 0)), (1, .ref (q 0)), (0, .ref b)] [.int (-1), .int (-1)]
      exfalso; omega
    · show GW κ 4 82 21282 (wX q d iX0 aX0 ++ wM r g iM1 aM1 lM1) 1058 [(3, .int 0), (2, .ref (r 0)), (1, .ref (q 0)), (0, .ref b)] [.int (-1), .int (-1)]
      refine g_icmp_eq (tgt := 1465) (a := (-1)) (b := (-1)) hk dL_law_1058 (by decide) rfl rfl (fun _ => ?_) (fun z9 => absurd (show (-1) = (-1) from by decide) z9)
      exact tail _
    · show GW κ 4 82 21282 (wX q d iX0 aX0 ++ wM r g iM1 aM1 lM1) 1058 [(3, .int 0), (2, .ref (r 0)), (1, .ref (q 0)), (0, .ref b)] [.int (-1), .int (-1)]
      exfalso; omega
    · show GW κ 4 82 21282 (wX q d iX0 aX0 ++ wM r g iM1 (up2 aM1 18 (cp (aM1 17) (aM1 18) 165)) lM1) 1058 [(3, .int 0), (2, .ref (r 0)), (1, .ref (q 0)), (0, .ref b)] [.int (-2), .int (-1)]
      exfalso; omega
    · show GW κ 4 82 21282 (wX q d iX0 aX0 ++ wM r g iM1 (up2 aM1 18 (cp (aM1 17) (aM1 18) 165)) lM1) 1058 [(3, .int 0), (2, .ref (r 0)), (1, .ref (q 0)), (0, .ref b)] [.int (-2), .int (-1)]
      exfalso; omega
    · show GW κ 4 82 21282 (wX q d iX0 aX0 ++ wM r g iM1 (up2 aM1 18 (cp (aM1 17) (aM1 18) 165)) lM1) 1058 [(3, .int 0), (2, .ref (r 0)), (1, .ref (q 0)), (0, .ref b)] [.int (-2), .int (-1)]
      exfalso; omega
  · show GW κ 4 82 21282 (wM r g iM1 aM1 lM1 ++ wX q d (upd (upd (upd iX0 40 (-2)) 41 (-2)) 42 (-2)) aX0) 1044 [(3, .int 0), (2, .ref (r 0)), (1, .ref (q 0)), (0, .ref b)] [.int (-2)]
    refine g_aload_n hk dL_law_1044 rfl ?_
    refine g_aload_n hk dL_law_1045 rfl ?_
    refine g_iload_n hk dL_law_1046 rfl ?_
    refine g_iconst (v := 1) hk dL_law_1047 (by decide) ?_
    refine g_iadd hk dL_law_1048 ?_
    refine g_norm (v := 1) (by decide) ?_
    refine g_sld (v := xs 1) hk hX (vp_in_iff.mpr ⟨by decide, by show (1 : Int) < (L : Int); omega⟩) rfl dL_law_1049 ?_
    refine g_aload_n hk dL_law_1050 rfl ?_
    refine g_iload_n hk dL_law_1051 rfl ?_
    refine g_iconst (v := 2) hk dL_law_1052 (by decide) ?_
    refine g_iadd hk dL_law_1053 ?_
    refine g_norm (v := 2) (by decide) ?_
    refine g_sld (v := xs 2) hk hX (vp_in_iff.mpr ⟨by decide, by show (2 : Int) < (L : Int); omega⟩) rfl dL_law_1054 ?_
    refine g_callV hk (m181_X12_pair l D zt g r (xs 1) (xs 2)) (SP.pre _ _) (fun q h => List.mem_append_right _ h) gL_law_X12_pair rfl rfl rfl (by decide +kernel) ⟨Nat.le_of_ble_eq_true rfl, Nat.le_of_ble_eq_true rfl⟩ 0 rfl rfl rfl rfl (Nat.le_of_ble_eq_true rfl) ⟨Nat.le_of_ble_eq_true rfl, Nat.le_of_ble_eq_true rfl⟩ dL_law_1055 (fun v ty' w' hp hk' => ?_)
    rcases hp with ⟨c3201, rfl, rfl⟩ | ⟨c3202, c3203, rfl, rfl⟩ | ⟨c3204, c3205, c3206, rfl, rfl⟩ | ⟨c3207, c3208, c3209, c3210, rfl, rfl⟩ | ⟨c3211, c3212, c3213, c3214, c3215, c3216, rfl, rfl⟩ | ⟨c3217, c3218, c3219, c3220, c3221, c3222, rfl, rfl⟩ | ⟨c3223, c3224, c3225, c3226, c3227, rfl, rfl⟩
    · show GW κ 4 82 21282 (wX q d (upd (upd (upd iX0 40 (-2)) 41 (-2)) 42 (-2)) aX0 ++ wM r g iM1 aM1 lM1) 1058 [(3, .int 0), (2, .ref (r 0)), (1, .ref (q 0)), (0, .ref b)] [.int (-1), .int (-2)]
      exfalso; omega
    · show GW κ 4 82 21282 (wX q d (upd (upd (upd iX0 40 (-2)) 41 (-2)) 42 (-2)) aX0 ++ wM r g iM1 aM1 lM1) 1058 [(3, .int 0), (2, .ref (r 0)), (1, .ref (q 0)), (0, .ref b)] [.int (-1), .int (-2)]
      exfalso; omega
    · show GW κ 4 82 21282 (wX q d (upd (upd (upd iX0 40 (-2)) 41 (-2)) 42 (-2)) aX0 ++ wM r g iM1 aM1 lM1) 1058 [(3, .int 0), (2, .ref (r 0)), (1, .ref (q 0)), (0, .ref b)] [.int (-1), .int (-2)]
      exfalso; omega
    · show GW κ 4 82 21282 (wX q d (upd (upd (upd iX0 40 (-2)) 41 (-2)) 42 (-2)) aX0 ++ wM r g iM1 aM1 lM1) 1058 [(3, .int 0), (2, .ref (r 0)), (1, .ref (q 0)), (0, .ref b)] [.int (-1), .int (-2)]
      exfalso; omega
    · show GW κ 4 82 21282 (wX q d (upd (upd (upd iX0 40 (-2)) 41 (-2)) 42 (-2)) aX0 ++ wM r g iM1 (up2 aM1 18 (cp (aM1 17) (aM1 18) 165)) lM1) 1058 [(3, .int 0), (2, .ref (r 0)), (1, .ref (q 0)), (0, .ref b)] [.int (-2), .int (-2)]
      exfalso; omega
    · show GW κ 4 82 21282 (wX q d (upd (upd (upd iX0 40 (-2)) 41 (-2)) 42 (-2)) aX0 ++ wM r g iM1 (up2 aM1 18 (cp (aM1 17) (aM1 18) 165)) lM1) 1058 [(3, .int 0), (2, .ref (r 0)), (1, .ref (q 0)), (0, .ref b)] [.int (-2), .int (-2)]
      refine g_icmp_eq (tgt := 1465) (a := (-2)) (b := (-2)) hk dL_law_1058 (by decide) rfl rfl (fun _ => ?_) (fun z9 => absurd (show (-2) = (-2) from by decide) z9)
      exact tail _
    · show GW κ 4 82 21282 (wX q d (upd (upd (upd iX0 40 (-2)) 41 (-2)) 42 (-2)) aX0 ++ wM r g iM1 (up2 aM1 18 (cp (aM1 17) (aM1 18) 165)) lM1) 1058 [(3, .int 0), (2, .ref (r 0)), (1, .ref (q 0)), (0, .ref b)] [.int (-2), .int (-2)]
      exfalso; omega
  · show GW κ 4 82 21282 (wM r g iM1 aM1 lM1 ++ wX q d (upd (upd (upd iX0 40 (-2)) 41 (-2)) 42 (-2)) aX0) 1044 [(3, .int 0), (2, .ref (r 0)), (1, .ref (q 0)), (0, .ref b)] [.int (-2)]
    refine g_aload_n hk dL_law_1044 rfl ?_
    refine g_aload_n hk dL_law_1045 rfl ?_
    refine g_iload_n hk dL_law_1046 rfl ?_
    refine g_iconst (v := 1) hk dL_law_1047 (by decide) ?_
    refine g_iadd hk dL_law_1048 ?_
    refine g_norm (v := 1) (by decide) ?_
    refine g_sld (v := xs 1) hk hX (vp_in_iff.mpr ⟨by decide, by show (1 : Int) < (L : Int); omega⟩) rfl dL_law_1049 ?_
    refine g_aload_n hk dL_law_1050 rfl ?_
    refine g_iload_n hk dL_law_1051 rfl ?_
    refine g_iconst (v := 2) hk dL_law_1052 (by decide) ?_
    refine g_iadd hk dL_law_1053 ?_
    refine g_norm (v := 2) (by decide) ?_
    refine g_sld (v := xs 2) hk hX (vp_in_iff.mpr ⟨by decide, by show (2 : Int) < (L : Int); omega⟩) rfl dL_law_1054 ?_
    refine g_callV hk (m181_X12_pair l D zt g r (xs 1) (xs 2)) (SP.pre _ _) (fun q h => List.mem_append_right _ h) gL_law_X12_pair rfl rfl rfl (by decide +kernel) ⟨Nat.le_of_ble_eq_true rfl, Nat.le_of_ble_eq_true rfl⟩ 0 rfl rfl rfl rfl (Nat.le_of_ble_eq_true rfl) ⟨Nat.le_of_ble_eq_true rfl, Nat.le_of_ble_eq_true rfl⟩ dL_law_1055 (fun v ty' w' hp hk' => ?_)
    rcases hp with ⟨c3228, rfl, rfl⟩ | ⟨c3229, c3230, rfl, rfl⟩ | ⟨c3231, c3232, c3233, rfl, rfl⟩ | ⟨c3234, c3235, c3236, c3237, rfl, rfl⟩ | ⟨c3238, c3239, c3240, c3241, c3242, c3243, rfl, rfl⟩ | ⟨c3244, c3245, c3246, c3247, c3248, c3249, rfl, rfl⟩ | ⟨c3250, c3251, c3252, c3253, c3254, rfl, rfl⟩
    · show GW κ 4 82 21282 (wX q d (upd (upd (upd iX0 40 (-2)) 41 (-2)) 42 (-2)) aX0 ++ wM r g iM1 aM1 lM1) 1058 [(3, .int 0), (2, .ref (r 0)), (1, .ref (q 0)), (0, .ref b)] [.int (-1), .int (-2)]
      exfalso; omega
    · show GW κ 4 82 21282 (wX q d (upd (upd (upd iX0 40 (-2)) 41 (-2)) 42 (-2)) aX0 ++ wM r g iM1 aM1 lM1) 1058 [(3, .int 0), (2, .ref (r 0)), (1, .ref (q 0)), (0, .ref b)] [.int (-1), .int (-2)]
      exfalso; omega
    · show GW κ 4 82 21282 (wX q d (upd (upd (upd iX0 40 (-2)) 41 (-2)) 42 (-2)) aX0 ++ wM r g iM1 aM1 lM1) 1058 [(3, .int 0), (2, .ref (r 0)), (1, .ref (q 0)), (0, .ref b)] [.int (-1), .int (-2)]
      exfalso; omega
    · show GW κ 4 82 21282 (wX q d (upd (upd (upd iX0 40 (-2)) 41 (-2)) 42 (-2)) aX0 ++ wM r g iM1 aM1 lM1) 1058 [(3, .int 0), (2, .ref (r 0)), (1, .ref (q 0)), (0, .ref b)] [.int (-1), .int (-2)]
      exfalso; omega
    · show GW κ 4 82 21282 (wX q d (upd (upd (upd iX0 40 (-2)) 41 (-2)) 42 (-2)) aX0 ++ wM r g iM1 (up2 aM1 18 (cp (aM1 17) (aM1 18) 165)) lM1) 1058 [(3, .int 0), (2, .ref (r 0)), (1, .ref (q 0)), (0, .ref b)] [.int (-2), .int (-2)]
      exfalso; omega
    · show GW κ 4 82 21282 (wX q d (upd (upd (upd iX0 40 (-2)) 41 (-2)) 42 (-2)) aX0 ++ wM r g iM1 (up2 aM1 18 (cp (aM1 17) (aM1 18) 165)) lM1) 1058 [(3, .int 0), (2, .ref (r 0)), (1, .ref (q 0)), (0, .ref b)] [.int (-2), .int (-2)]
      exfalso; omega
    · show GW κ 4 82 21282 (wX q d (upd (upd (upd iX0 40 (-2)) 41 (-2)) 42 (-2)) aX0 ++ wM r g iM1 (up2 aM1 18 (cp (aM1 17) (aM1 18) 165)) lM1) 1058 [(3, .int 0), (2, .ref (r 0)), (1, .ref (q 0)), (0, .ref b)] [.int (-2), .int (-2)]
      refine g_icmp_eq (tgt := 1465) (a := (-2)) (b := (-2)) hk dL_law_1058 (by decide) rfl rfl (fun _ => ?_) (fun z9 => absurd (show (-2) = (-2) from by decide) z9)
      exact tail _
  · show GW κ 4 82 21282 (wM r g iM1 aM1 lM1 ++ wX q d (upd (upd (upd iX0 40 (-2)) 41 (-2)) 42 (-2)) aX0) 1044 [(3, .int 0), (2, .ref (r 0)), (1, .ref (q 0)), (0, .ref b)] [.int (-2)]
    refine g_aload_n hk dL_law_1044 rfl ?_
    refine g_aload_n hk dL_law_1045 rfl ?_
    refine g_iload_n hk dL_law_1046 rfl ?_
    refine g_iconst (v := 1) hk dL_law_1047 (by decide) ?_
    refine g_iadd hk dL_law_1048 ?_
    refine g_norm (v := 1) (by decide) ?_
    refine g_sld (v := xs 1) hk hX (vp_in_iff.mpr ⟨by decide, by show (1 : Int) < (L : Int); omega⟩) rfl dL_law_1049 ?_
    refine g_aload_n hk dL_law_1050 rfl ?_
    refine g_iload_n hk dL_law_1051 rfl ?_
    refine g_iconst (v := 2) hk dL_law_1052 (by decide) ?_
    refine g_iadd hk dL_law_1053 ?_
    refine g_norm (v := 2) (by decide) ?_
    refine g_sld (v := xs 2) hk hX (vp_in_iff.mpr ⟨by decide, by show (2 : Int) < (L : Int); omega⟩) rfl dL_law_1054 ?_
    refine g_callV hk (m181_X12_pair l D zt g r (xs 1) (xs 2)) (SP.pre _ _) (fun q h => List.mem_append_right _ h) gL_law_X12_pair rfl rfl rfl (by decide +kernel) ⟨Nat.le_of_ble_eq_true rfl, Nat.le_of_ble_eq_true rfl⟩ 0 rfl rfl rfl rfl (Nat.le_of_ble_eq_true rfl) ⟨Nat.le_of_ble_eq_true rfl, Nat.le_of_ble_eq_true rfl⟩ dL_law_1055 (fun v ty' w' hp hk' => ?_)
    rcases hp with ⟨c3255, rfl, rfl⟩ | ⟨c3256, c3257, rfl, rfl⟩ | ⟨c3258, c3259, c3260, rfl, rfl⟩ | ⟨c3261, c3262, c3263, c3264, rfl, rfl⟩ | ⟨c3265, c3266, c3267, c3268, c3269, c3270, rfl, rfl⟩ | ⟨c3271, c3272, c3273, c3274, c3275, c3276, rfl, rfl⟩ | ⟨c3277, c3278, c3279, c3280, c3281, rfl, rfl⟩
    · show GW κ 4 82 21282 (wX q d (upd (upd (upd iX0 40 (-2)) 41 (-2)) 42 (-2)) aX0 ++ wM r g iM1 aM1 lM1) 1058 [(3, .int 0), (2, .ref (r 0)), (1, .ref (q 0)), (0, .ref b)] [.int (-1), .int (-2)]
      exfalso; omega
    · show GW κ 4 82 21282 (wX q d (upd (upd (upd iX0 40 (-2)) 41 (-2)) 42 (-2)) aX0 ++ wM r g iM1 aM1 lM1) 1058 [(3, .int 0), (2, .ref (r 0)), (1, .ref (q 0)), (0, .ref b)] [.int (-1), .int (-2)]
      exfalso; omega
    · show GW κ 4 82 21282 (wX q d (upd (upd (upd iX0 40 (-2)) 41 (-2)) 42 (-2)) aX0 ++ wM r g iM1 aM1 lM1) 1058 [(3, .int 0), (2, .ref (r 0)), (1, .ref (q 0)), (0, .ref b)] [.int (-1), .int (-2)]
      exfalso; omega
    · show GW κ 4 82 21282 (wX q d (upd (upd (upd iX0 40 (-2)) 41 (-2)) 42 (-2)) aX0 ++ wM r g iM1 aM1 lM1) 1058 [(3, .int 0), (2, .ref (r 0)), (1, .ref (q 0)), (0, .ref b)] [.int (-1), .int (-2)]
      exfalso; omega
    · show GW κ 4 82 21282 (wX q d (upd (upd (upd iX0 40 (-2)) 41 (-2)) 42 (-2)) aX0 ++ wM r g iM1 (up2 aM1 18 (cp (aM1 17) (aM1 18) 165)) lM1) 1058 [(3, .int 0), (2, .ref (r 0)), (1, .ref (q 0)), (0, .ref b)] [.int (-2), .int (-2)]
      refine g_icmp_eq (tgt := 1465) (a := (-2)) (b := (-2)) hk dL_law_1058 (by decide) rfl rfl (fun _ => ?_) (fun z9 => absurd (show (-2) = (-2) from by decide) z9)
      exact tail _
    · show GW κ 4 82 21282 (wX q d (upd (upd (upd iX0 40 (-2)) 41 (-2)) 42 (-2)) aX0 ++ wM r g iM1 (up2 aM1 18 (cp (aM1 17) (aM1 18) 165)) lM1) 1058 [(3, .int 0), (2, .ref (r 0)), (1, .ref (q 0)), (0, .ref b)] [.int (-2), .int (-2)]
      exfalso; omega
    · show GW κ 4 82 21282 (wX q d (upd (upd (upd iX0 40 (-2)) 41 (-2)) 42 (-2)) aX0 ++ wM r g iM1 (up2 aM1 18 (cp (aM1 17) (aM1 18) 165)) lM1) 1058 [(3, .int 0), (2, .ref (r 0)), (1, .ref (q 0)), (0, .ref b)] [.int (-2), .int (-2)]
      exfalso; omega
  · show GW κ 4 82 21282 (wM r g iM1 aM1 lM1 ++ wX q d iX0 aX0) 1044 [(3, .int 0), (2, .ref (r 0)), (1, .ref (q 0)), (0, .ref b)] [.int (-1)]
    refine g_aload_n hk dL_law_1044 rfl ?_
    refine g_aload_n hk dL_law_1045 rfl ?_
    refine g_iload_n hk dL_law_1046 rfl ?_
    refine g_iconst (v := 1) hk dL_law_1047 (by decide) ?_
    refine g_iadd hk dL_law_1048 ?_
    refine g_norm (v := 1) (by decide) ?_
    refine g_sld (v := xs 1) hk hX (vp_in_iff.mpr ⟨by decide, by show (1 : Int) < (L : Int); omega⟩) rfl dL_law_1049 ?_
    refine g_aload_n hk dL_law_1050 rfl ?_
    refine g_iload_n hk dL_law_1051 rfl ?_
    refine g_iconst (v := 2) hk dL_law_1052 (by decide) ?_
    refine g_iadd hk dL_law_1053 ?_
    refine g_norm (v := 2) (by decide) ?_
    refine g_sld (v := xs 2) hk hX (vp_in_iff.mpr ⟨by decide, by show (2 : Int) < (L : Int); omega⟩) rfl dL_law_1054 ?_
    refine g_callV hk (m181_X12_pair l D zt g r (xs 1) (xs 2)) (SP.pre _ _) (fun q h => List.mem_append_right _ h) gL_law_X12_pair rfl rfl rfl (by decide +kernel) ⟨Nat.le_of_ble_eq_true rfl, Nat.le_of_ble_eq_true rfl⟩ 0 rfl rfl rfl rfl (Nat.le_of_ble_eq_true rfl) ⟨Nat.le_of_ble_eq_true rfl, Nat.le_of_ble_eq_true rfl⟩ dL_law_1055 (fun v ty' w' hp hk' => ?_)
    rcases hp with ⟨c3282, rfl, rfl⟩ | ⟨c3283, c3284, rfl, rfl⟩ | ⟨c3285, c3286, c3287, rfl, rfl⟩ | ⟨c3288, c3289, c3290, c3291, rfl, rfl⟩ | ⟨c3292, c3293, c3294, c3295, c3296, c3297, rfl, rfl⟩ | ⟨c3298, c3299, c3300, c3301, c3302, c3303, rfl, rfl⟩ | ⟨c3304, c3305, c3306, c3307, c3308, rfl, rfl⟩
    · show GW κ 4 82 21282 (wX q d iX0 aX0 ++ wM r g iM1 aM1 lM1) 1058 [(3, .int 0), (2, .ref (r 0)), (1, .ref (q 0)), (0, .ref b)] [.int (-1), .int (-1)]
      exfalso; omega
    · show GW κ 4 82 21282 (wX q d iX0 aX0 ++ wM r g iM1 aM1 lM1) 1058 [(3, .int 0), (2, .ref (r 0)), (1, .ref (q 0)), (0, .ref b)] [.int (-1), .int (-1)]
      exfalso; omega
    · show GW κ 4 82 21282 (wX q d iX0 aX0 ++ wM r g iM1 aM1 lM1) 1058 [(3, .int 0), (2, .ref (r 0)), (1, .ref (q 0)), (0, .ref b)] [.int (-1), .int (-1)]
      exfalso; omega
    · show GW κ 4 82 21282 (wX q d iX0 aX0 ++ wM r g iM1 aM1 lM1) 1058 [(3, .int 0), (2, .ref (r 0)), (1, .ref (q 0)), (0, .ref b)] [.int (-1), .int (-1)]
      refine g_icmp_eq (tgt := 1465) (a := (-1)) (b := (-1)) hk dL_law_1058 (by decide) rfl rfl (fun _ => ?_) (fun z9 => absurd (show (-1) = (-1) from by decide) z9)
      exact tail _
    · show GW κ 4 82 21282 (wX q d iX0 aX0 ++ wM r g iM1 (up2 aM1 18 (cp (aM1 17) (aM1 18) 165)) lM1) 1058 [(3, .int 0), (2, .ref (r 0)), (1, .ref (q 0)), (0, .ref b)] [.int (-2), .int (-1)]
      exfalso; omega
    · show GW κ 4 82 21282 (wX q d iX0 aX0 ++ wM r g iM1 (up2 aM1 18 (cp (aM1 17) (aM1 18) 165)) lM1) 1058 [(3, .int 0), (2, .ref (r 0)), (1, .ref (q 0)), (0, .ref b)] [.int (-2), .int (-1)]
      exfalso; omega
    · show GW κ 4 82 21282 (wX q d iX0 aX0 ++ wM r g iM1 (up2 aM1 18 (cp (aM1 17) (aM1 18) 165)) lM1) 1058 [(3, .int 0), (2, .ref (r 0)), (1, .ref (q 0)), (0, .ref b)] [.int (-2), .int (-1)]
      exfalso; omega
set_option maxHeartbeats 4000000 in
set_option maxRecDepth 100000 in
theorem law_27 {κ : Cx} {l : Launch} {D : va_G} {zt : Nat × Nat × Nat} {q r : Nat → Nat} {d g : Nat → ClassId} {b L : Nat} {xs : Nat → Int32} (hk : GC κ l D zt code 4 RL wsL_law (tyX d ++ tyM g) room_1) (hX : GX κ b L xs) (hL6 : L = 6) (tail : ∀ ws, GW κ 4 82 21282 ws 1465 [(3, .int 0), (2, .ref (r 0)), (1, .ref (q 0)), (0, .ref b)] []) : GW κ 4 82 21282 (wX q d iX0 aX0 ++ wM r g iM1 aM1 lM1) 1063 [(3, .int 0), (2, .ref (r 0)), (1, .ref (q 0)), (0, .ref b)] [] := by
  refine g_aload_n hk dL_law_1063 rfl ?_
  refine g_aload_n hk dL_law_1064 rfl ?_
  refine g_iload_n hk dL_law_1065 rfl ?_
  refine g_iconst (v := 1) hk dL_law_1066 (by decide) ?_
  refine g_iadd hk dL_law_1067 ?_
  refine g_norm (v := 1) (by decide) ?_
  refine g_sld (v := xs 1) hk hX (vp_in_iff.mpr ⟨by decide, by show (1 : Int) < (L : Int); omega⟩) rfl dL_law_1068 ?_
  refine g_aload_n hk dL_law_1069 rfl ?_
  refine g_iload_n hk dL_law_1070 rfl ?_
  refine g_iconst (v := 2) hk dL_law_1071 (by decide) ?_
  refine g_iadd hk dL_law_1072 ?_
  refine g_norm (v := 2) (by decide) ?_
  refine g_sld (v := xs 2) hk hX (vp_in_iff.mpr ⟨by decide, by show (2 : Int) < (L : Int); omega⟩) rfl dL_law_1073 ?_
  refine g_callV hk (m293_X11_odd l D zt d q (xs 1) (xs 2)) (SP.pre _ _) (fun q h => List.mem_append_left _ h) gL_law_X11_odd rfl rfl rfl (by decide +kernel) ⟨Nat.le_of_ble_eq_true rfl, Nat.le_of_ble_eq_true rfl⟩ 0 rfl rfl rfl rfl (Nat.le_of_ble_eq_true rfl) ⟨Nat.le_of_ble_eq_true rfl, Nat.le_of_ble_eq_true rfl⟩ dL_law_1074 (fun v ty' w' hp hk' => ?_)
  rcases hp with ⟨c3309, rfl, rfl⟩ | ⟨c3310, c3311, rfl, rfl⟩ | ⟨c3312, c3313, c3314, rfl, rfl⟩ | ⟨c3315, c3316, c3317, c3318, c3319, rfl, rfl⟩ | ⟨c3320, c3321, c3322, c3323, c3324, rfl, rfl⟩ | ⟨c3325, c3326, c3327, c3328, rfl, rfl⟩
  · show GW κ 4 82 21282 (wM r g iM1 aM1 lM1 ++ wX q d iX0 aX0) 1077 [(3, .int 0), (2, .ref (r 0)), (1, .ref (q 0)), (0, .ref b)] [.int (-1)]
    refine g_aload_n hk dL_law_1077 rfl ?_
    refine g_aload_n hk dL_law_1078 rfl ?_
    refine g_iload_n hk dL_law_1079 rfl ?_
    refine g_iconst (v := 1) hk dL_law_1080 (by decide) ?_
    refine g_iadd hk dL_law_1081 ?_
    refine g_norm (v := 1) (by decide) ?_
    refine g_sld (v := xs 1) hk hX (vp_in_iff.mpr ⟨by decide, by show (1 : Int) < (L : Int); omega⟩) rfl dL_law_1082 ?_
    refine g_aload_n hk dL_law_1083 rfl ?_
    refine g_iload_n hk dL_law_1084 rfl ?_
    refine g_iconst (v := 2) hk dL_law_1085 (by decide) ?_
    refine g_iadd hk dL_law_1086 ?_
    refine g_norm (v := 2) (by decide) ?_
    refine g_sld (v := xs 2) hk hX (vp_in_iff.mpr ⟨by decide, by show (2 : Int) < (L : Int); omega⟩) rfl dL_law_1087 ?_
    refine g_callV hk (m182_X12_odd l D zt g r (xs 1) (xs 2)) (SP.pre _ _) (fun q h => List.mem_append_right _ h) gL_law_X12_odd rfl rfl rfl (by decide +kernel) ⟨Nat.le_of_ble_eq_true rfl, Nat.le_of_ble_eq_true rfl⟩ 0 rfl rfl rfl rfl (Nat.le_of_ble_eq_true rfl) ⟨Nat.le_of_ble_eq_true rfl, Nat.le_of_ble_eq_true rfl⟩ dL_law_1088 (fun v ty' w' hp hk' => ?_)
    rcases hp with ⟨c3329, rfl, rfl⟩ | ⟨c3330, c3331, rfl, rfl⟩ | ⟨c3332, c3333, c3334, rfl, rfl⟩ | ⟨c3335, c3336, c3337, c3338, rfl, rfl⟩ | ⟨c3339, c3340, c3341, c3342, c3343, rfl, rfl⟩ | ⟨c3344, c3345, c3346, c3347, c3348, rfl, rfl⟩
    · show GW κ 4 82 21282 (wX q d iX0 aX0 ++ wM r g iM1 aM1 lM1) 1091 [(3, .int 0), (2, .ref (r 0)), (1, .ref (q 0)), (0, .ref b)] [.int (-1), .int (-1)]
      refine g_icmp_eq (tgt := 1465) (a := (-1)) (b := (-1)) hk dL_law_1091 (by decide) rfl rfl (fun _ => ?_) (fun z9 => absurd (show (-1) = (-1) from by decide) z9)
      exact tail _
    · show GW κ 4 82 21282 (wX q d iX0 aX0 ++ wM r g iM1 aM1 lM1) 1091 [(3, .int 0), (2, .ref (r 0)), (1, .ref (q 0)), (0, .ref b)] [.int (-1), .int (-1)]
      exfalso; omega
    · show GW κ 4 82 21282 (wX q d iX0 aX0 ++ wM r g iM1 aM1 lM1) 1091 [(3, .int 0), (2, .ref (r 0)), (1, .ref (q 0)), (0, .ref b)] [.int (-1), .int (-1)]
      exfalso; omega
    · show GW κ 4 82 21282 (wX q d iX0 aX0 ++ wM r g iM1 aM1 lM1) 1091 [(3, .int 0), (2, .ref (r 0)), (1, .ref (q 0)), (0, .ref b)] [.int (-1), .int (-1)]
      exfalso; omega
    · show GW κ 4 82 21282 (wX q d iX0 aX0 ++ wM r g iM1 (up2 aM1 18 (cp (aM1 17) (aM1 18) 165)) lM1) 1091 [(3, .int 0), (2, .ref (r 0)), (1, .ref (q 0)), (0, .ref b)] [.int (-2), .int (-1)]
      exfalso; omega
    · show GW κ 4 82 21282 (wX q d iX0 aX0 ++ wM r g iM1 (up2 aM1 18 (cp (aM1 17) (aM1 18) 165)) lM1) 1091 [(3, .int 0), (2, .ref (r 0)), (1, .ref (q 0)), (0, .ref b)] [.int (-2), .int (-1)]
      exfalso; omega
  · show GW κ 4 82 21282 (wM r g iM1 aM1 lM1 ++ wX q d iX0 aX0) 1077 [(3, .int 0), (2, .ref (r 0)), (1, .ref (q 0)), (0, .ref b)] [.int (-1)]
    refine g_aload_n hk dL_law_1077 rfl ?_
    refine g_aload_n hk dL_law_1078 rfl ?_
    refine g_iload_n hk dL_law_1079 rfl ?_
    refine g_iconst (v := 1) hk dL_law_1080 (by decide) ?_
    refine g_iadd hk dL_law_1081 ?_
    refine g_norm (v := 1) (by decide) ?_
    refine g_sld (v := xs 1) hk hX (vp_in_iff.mpr ⟨by decide, by show (1 : Int) < (L : Int); omega⟩) rfl dL_law_1082 ?_
    refine g_aload_n hk dL_law_1083 rfl ?_
    refine g_iload_n hk dL_law_1084 rfl ?_
    refine g_iconst (v := 2) hk dL_law_1085 (by decide) ?_
    refine g_iadd hk dL_law_1086 ?_
    refine g_norm (v := 2) (by decide) ?_
    refine g_sld (v := xs 2) hk hX (vp_in_iff.mpr ⟨by decide, by show (2 : Int) < (L : Int); omega⟩) rfl dL_law_1087 ?_
    refine g_callV hk (m182_X12_odd l D zt g r (xs 1) (xs 2)) (SP.pre _ _) (fun q h => List.mem_append_right _ h) gL_law_X12_odd rfl rfl rfl (by decide +kernel) ⟨Nat.le_of_ble_eq_true rfl, Nat.le_of_ble_eq_true rfl⟩ 0 rfl rfl rfl rfl (Nat.le_of_ble_eq_true rfl) ⟨Nat.le_of_ble_eq_true rfl, Nat.le_of_ble_eq_true rfl⟩ dL_law_1088 (fun v ty' w' hp hk' => ?_)
    rcases hp with ⟨c3349, rfl, rfl⟩ | ⟨c3350, c3351, rfl, rfl⟩ | ⟨c3352, c3353, c3354, rfl, rfl⟩ | ⟨c3355, c3356, c3357, c3358, rfl, rfl⟩ | ⟨c3359, c3360, c3361, c3362, c3363, rfl, rfl⟩ | ⟨c3364, c3365, c3366, c3367, c3368, rfl, rfl⟩
    · show GW κ 4 82 21282 (wX q d iX0 aX0 ++ wM r g iM1 aM1 lM1) 1091 [(3, .int 0), (2, .ref (r 0)), (1, .ref (q 0)), (0, .ref b)] [.int (-1), .int (-1)]
      exfalso; omega
    · show GW κ 4 82 21282 (wX q d iX0 aX0 ++ wM r g iM1 aM1 lM1) 1091 [(3, .int 0), (2, .ref (r 0)), (1, .ref (q 0)), (0, .ref b)] [.int (-1), .int (-1)]
      refine g_icmp_eq (tgt := 1465) (a := (-1)) (b := (-1)) hk dL_law_1091 (by decide) rfl rfl (fun _ => ?_) (fun z9 => absurd (show (-1) = (-1) from by decide) z9)
      exact tail _
    · show GW κ 4 82 21282 (wX q d iX0 aX0 ++ wM r g iM1 aM1 lM1) 1091 [(3, .int 0), (2, .ref (r 0)), (1, .ref (q 0)), (0, .ref b)] [.int (-1), .int (-1)]
      exfalso; omega
    · show GW κ 4 82 21282 (wX q d iX0 aX0 ++ wM r g iM1 aM1 lM1) 1091 [(3, .int 0), (2, .ref (r 0)), (1, .ref (q 0)), (0, .ref b)] [.int (-1), .int (-1)]
      exfalso; omega
    · show GW κ 4 82 21282 (wX q d iX0 aX0 ++ wM r g iM1 (up2 aM1 18 (cp (aM1 17) (aM1 18) 165)) lM1) 1091 [(3, .int 0), (2, .ref (r 0)), (1, .ref (q 0)), (0, .ref b)] [.int (-2), .int (-1)]
      exfalso; omega
    · show GW κ 4 82 21282 (wX q d iX0 aX0 ++ wM r g iM1 (up2 aM1 18 (cp (aM1 17) (aM1 18) 165)) lM1) 1091 [(3, .int 0), (2, .ref (r 0)), (1, .ref (q 0)), (0, .ref b)] [.int (-2), .int (-1)]
      exfalso; omega
  · show GW κ 4 82 21282 (wM r g iM1 aM1 lM1 ++ wX q d iX0 aX0) 1077 [(3, .int 0), (2, .ref (r 0)), (1, .ref (q 0)), (0, .ref b)] [.int (-1)]
    refine g_aload_n hk dL_law_1077 rfl ?_
    refine g_aload_n hk dL_law_1078 rfl ?_
    refine g_iload_n hk dL_law_1079 rfl ?_
    refine g_iconst (v := 1) hk dL_law_1080 (by decide) ?_
    refine g_iadd hk dL_law_1081 ?_
    refine g_norm (v := 1) (by decide) ?_
    refine g_sld (v := xs 1) hk hX (vp_in_iff.mpr ⟨by decide, by show (1 : Int) < (L : Int); omega⟩) rfl dL_law_1082 ?_
    refine g_aload_n hk dL_law_1083 rfl ?_
    refine g_iload_n hk dL_law_1084 rfl ?_
    refine g_iconst (v := 2) hk dL_law_1085 (by decide) ?_
    refine g_iadd hk dL_law_1086 ?_
    refine g_norm (v := 2) (by decide) ?_
    refine g_sld (v := xs 2) hk hX (vp_in_iff.mpr ⟨by decide, by show (2 : Int) < (L : Int); omega⟩) rfl dL_law_1087 ?_
    refine g_callV hk (m182_X12_odd l D zt g r (xs 1) (xs 2)) (SP.pre _ _) (fun q h => List.mem_append_right _ h) gL_law_X12_odd rfl rfl rfl (by decide +kernel) ⟨Nat.le_of_ble_eq_true rfl, Nat.le_of_ble_eq_true rfl⟩ 0 rfl rfl rfl rfl (Nat.le_of_ble_eq_true rfl) ⟨Nat.le_of_ble_eq_true rfl, Nat.le_of_ble_eq_true rfl⟩ dL_law_1088 (fun v ty' w' hp hk' => ?_)
    rcases hp with ⟨c3369, rfl, rfl⟩ | ⟨c3370, c3371, rfl, rfl⟩ | ⟨c3372, c3373, c3374, rfl, rfl⟩ | ⟨c3375, c3376, c3377, c3378, rfl, rfl⟩ | ⟨c3379, c3380, c3381, c3382, c3383, rfl, rfl⟩ | ⟨c3384, c3385, c3386, c3387, c3388, rfl, rfl⟩
    · show GW κ 4 82 21282 (wX q d iX0 aX0 ++ wM r g iM1 aM1 lM1) 1091 [(3, .int 0), (2, .ref (r 0)), (1, .ref (q 0)), (0, .ref b)] [.int (-1), .int (-1)]
      exfalso; omega
    · show GW κ 4 82 21282 (wX q d iX0 aX0 ++ wM r g iM1 aM1 lM1) 1091 [(3, .int 0), (2, .ref (r 0)), (1, .ref (q 0)), (0, .ref b)] [.int (-1), .int (-1)]
      exfalso; omega
    · show GW κ 4 82 21282 (wX q d iX0 aX0 ++ wM r g iM1 aM1 lM1) 1091 [(3, .int 0), (2, .ref (r 0)), (1, .ref (q 0)), (0, .ref b)] [.int (-1), .int (-1)]
      refine g_icmp_eq (tgt := 1465) (a := (-1)) (b := (-1)) hk dL_law_1091 (by decide) rfl rfl (fun _ => ?_) (fun z9 => absurd (show (-1) = (-1) from by decide) z9)
      exact tail _
    · show GW κ 4 82 21282 (wX q d iX0 aX0 ++ wM r g iM1 aM1 lM1) 1091 [(3, .int 0), (2, .ref (r 0)), (1, .ref (q 0)), (0, .ref b)] [.int (-1), .int (-1)]
      exfalso; omega
    · show GW κ 4 82 21282 (wX q d iX0 aX0 ++ wM r g iM1 (up2 aM1 18 (cp (aM1 17) (aM1 18) 165)) lM1) 1091 [(3, .int 0), (2, .ref (r 0)), (1, .ref (q 0)), (0, .ref b)] [.int (-2), .int (-1)]
      exfalso; omega
    · show GW κ 4 82 21282 (wX q d iX0 aX0 ++ wM r g iM1 (up2 aM1 18 (cp (aM1 17) (aM1 18) 165)) lM1) 1091 [(3, .int 0), (2, .ref (r 0)), (1, .ref (q 0)), (0, .ref b)] [.int (-2), .int (-1)]
      exfalso; omega
  · show GW κ 4 82 21282 (wM r g iM1 aM1 lM1 ++ wX q d (upd (upd iX0 43 (-2)) 44 (-2)) aX0) 1077 [(3, .int 0), (2, .ref (r 0)), (1, .ref (q 0)), (0, .ref b)] [.int (-2)]
    refine g_aload_n hk dL_law_1077 rfl ?_
    refine g_aload_n hk dL_law_1078 rfl ?_
    refine g_iload_n hk dL_law_1079 rfl ?_
    refine g_iconst (v := 1) hk dL_law_1080 (by decide) ?_
    refine g_iadd hk dL_law_1081 ?_
    refine g_norm (v := 1) (by decide) ?_
    refine g_sld (v := xs 1) hk hX (vp_in_iff.mpr ⟨by decide, by show (1 : Int) < (L : Int); omega⟩) rfl dL_law_1082 ?_
    refine g_aload_n hk dL_law_1083 rfl ?_
    refine g_iload_n hk dL_law_1084 rfl ?_
    refine g_iconst (v := 2) hk dL_law_1085 (by decide) ?_
    refine g_iadd hk dL_law_1086 ?_
    refine g_norm (v := 2) (by decide) ?_
    refine g_sld (v := xs 2) hk hX (vp_in_iff.mpr ⟨by decide, by show (2 : Int) < (L : Int); omega⟩) rfl dL_law_1087 ?_
    refine g_callV hk (m182_X12_odd l D zt g r (xs 1) (xs 2)) (SP.pre _ _) (fun q h => List.mem_append_right _ h) gL_law_X12_odd rfl rfl rfl (by decide +kernel) ⟨Nat.le_of_ble_eq_true rfl, Nat.le_of_ble_eq_true rfl⟩ 0 rfl rfl rfl rfl (Nat.le_of_ble_eq_true rfl) ⟨Nat.le_of_ble_eq_true rfl, Nat.le_of_ble_eq_true rfl⟩ dL_law_1088 (fun v ty' w' hp hk' => ?_)
    rcases hp with ⟨c3389, rfl, rfl⟩ | ⟨c3390, c3391, rfl, rfl⟩ | ⟨c3392, c3393, c3394, rfl, rfl⟩ | ⟨c3395, c3396, c3397, c3398, rfl, rfl⟩ | ⟨c3399, c3400, c3401, c3402, c3403, rfl, rfl⟩ | ⟨c3404, c3405, c3406, c3407, c3408, rfl, rfl⟩
    · show GW κ 4 82 21282 (wX q d (upd (upd iX0 43 (-2)) 44 (-2)) aX0 ++ wM r g iM1 aM1 lM1) 1091 [(3, .int 0), (2, .ref (r 0)), (1, .ref (q 0)), (0, .ref b)] [.int (-1), .int (-2)]
      exfalso; omega
    · show GW κ 4 82 21282 (wX q d (upd (upd iX0 43 (-2)) 44 (-2)) aX0 ++ wM r g iM1 aM1 lM1) 1091 [(3, .int 0), (2, .ref (r 0)), (1, .ref (q 0)), (0, .ref b)] [.int (-1), .int (-2)]
      exfalso; omega
    · show GW κ 4 82 21282 (wX q d (upd (upd iX0 43 (-2)) 44 (-2)) aX0 ++ wM r g iM1 aM1 lM1) 1091 [(3, .int 0), (2, .ref (r 0)), (1, .ref (q 0)), (0, .ref b)] [.int (-1), .int (-2)]
      exfalso; omega
    · show GW κ 4 82 21282 (wX q d (upd (upd iX0 43 (-2)) 44 (-2)) aX0 ++ wM r g iM1 aM1 lM1) 1091 [(3, .int 0), (2, .ref (r 0)), (1, .ref (q 0)), (0, .ref b)] [.int (-1), .int (-2)]
      exfalso; omega
    · show GW κ 4 82 21282 (wX q d (upd (upd iX0 43 (-2)) 44 (-2)) aX0 ++ wM r g iM1 (up2 aM1 18 (cp (aM1 17) (aM1 18) 165)) lM1) 1091 [(3, .int 0), (2, .ref (r 0)), (1, .ref (q 0)), (0, .ref b)] [.int (-2), .int (-2)]
      refine g_icmp_eq (tgt := 1465) (a := (-2)) (b := (-2)) hk dL_law_1091 (by decide) rfl rfl (fun _ => ?_) (fun z9 => absurd (show (-2) = (-2) from by decide) z9)
      exact tail _
    · show GW κ 4 82 21282 (wX q d (upd (upd iX0 43 (-2)) 44 (-2)) aX0 ++ wM r g iM1 (up2 aM1 18 (cp (aM1 17) (aM1 18) 165)) lM1) 1091 [(3, .int 0), (2, .ref (r 0)), (1, .ref (q 0)), (0, .ref b)] [.int (-2), .int (-2)]
      exfalso; omega
  · show GW κ 4 82 21282 (wM r g iM1 aM1 lM1 ++ wX q d (upd (upd iX0 43 (-2)) 44 (-2)) aX0) 1077 [(3, .int 0), (2, .ref (r 0)), (1, .ref (q 0)), (0, .ref b)] [.int (-2)]
    refine g_aload_n hk dL_law_1077 rfl ?_
    refine g_aload_n hk dL_law_1078 rfl ?_
    refine g_iload_n hk dL_law_1079 rfl ?_
    refine g_iconst (v := 1) hk dL_law_1080 (by decide) ?_
    refine g_iadd hk dL_law_1081 ?_
    refine g_norm (v := 1) (by decide) ?_
    refine g_sld (v := xs 1) hk hX (vp_in_iff.mpr ⟨by decide, by show (1 : Int) < (L : Int); omega⟩) rfl dL_law_1082 ?_
    refine g_aload_n hk dL_law_1083 rfl ?_
    refine g_iload_n hk dL_law_1084 rfl ?_
    refine g_iconst (v := 2) hk dL_law_1085 (by decide) ?_
    refine g_iadd hk dL_law_1086 ?_
    refine g_norm (v := 2) (by decide) ?_
    refine g_sld (v := xs 2) hk hX (vp_in_iff.mpr ⟨by decide, by show (2 : Int) < (L : Int); omega⟩) rfl dL_law_1087 ?_
    refine g_callV hk (m182_X12_odd l D zt g r (xs 1) (xs 2)) (SP.pre _ _) (fun q h => List.mem_append_right _ h) gL_law_X12_odd rfl rfl rfl (by decide +kernel) ⟨Nat.le_of_ble_eq_true rfl, Nat.le_of_ble_eq_true rfl⟩ 0 rfl rfl rfl rfl (Nat.le_of_ble_eq_true rfl) ⟨Nat.le_of_ble_eq_true rfl, Nat.le_of_ble_eq_true rfl⟩ dL_law_1088 (fun v ty' w' hp hk' => ?_)
    rcases hp with ⟨c3409, rfl, rfl⟩ | ⟨c3410, c3411, rfl, rfl⟩ | ⟨c3412, c3413, c3414, rfl, rfl⟩ | ⟨c3415, c3416, c3417, c3418, rfl, rfl⟩ | ⟨c3419, c3420, c3421, c3422, c3423, rfl, rfl⟩ | ⟨c3424, c3425, c3426, c3427, c3428, rfl, rfl⟩
    · show GW κ 4 82 21282 (wX q d (upd (upd iX0 43 (-2)) 44 (-2)) aX0 ++ wM r g iM1 aM1 lM1) 1091 [(3, .int 0), (2, .ref (r 0)), (1, .ref (q 0)), (0, .ref b)] [.int (-1), .int (-2)]
      exfalso; omega
    · show GW κ 4 82 21282 (wX q d (upd (upd iX0 43 (-2)) 44 (-2)) aX0 ++ wM r g iM1 aM1 lM1) 1091 [(3, .int 0), (2, .ref (r 0)), (1, .ref (q 0)), (0, .ref b)] [.int (-1), .int (-2)]
      exfalso; omega
    · show GW κ 4 82 21282 (wX q d (upd (upd iX0 43 (-2)) 44 (-2)) aX0 ++ wM r g iM1 aM1 lM1) 1091 [(3, .int 0), (2, .ref (r 0)), (1, .ref (q 0)), (0, .ref b)] [.int (-1), .int (-2)]
      exfalso; omega
    · show GW κ 4 82 21282 (wX q d (upd (upd iX0 43 (-2)) 44 (-2)) aX0 ++ wM r g iM1 aM1 lM1) 1091 [(3, .int 0), (2, .ref (r 0)), (1, .ref (q 0)), (0, .ref b)] [.int (-1), .int (-2)]
      exfalso; omega
    · show GW κ 4 82 21282 (wX q d (upd (upd iX0 43 (-2)) 44 (-2)) aX0 ++ wM r g iM1 (up2 aM1 18 (cp (aM1 17) (aM1 18) 165)) lM1) 1091 [(3, .int 0), (2, .ref (r 0)), (1, .ref (q 0)), (0, .ref b)] [.int (-2), .int (-2)]
      exfalso; omega
    · show GW κ 4 82 21282 (wX q d (upd (upd iX0 43 (-2)) 44 (-2)) aX0 ++ wM r g iM1 (up2 aM1 18 (cp (aM1 17) (aM1 18) 165)) lM1) 1091 [(3, .int 0), (2, .ref (r 0)), (1, .ref (q 0)), (0, .ref b)] [.int (-2), .int (-2)]
      refine g_icmp_eq (tgt := 1465) (a := (-2)) (b := (-2)) hk dL_law_1091 (by decide) rfl rfl (fun _ => ?_) (fun z9 => absurd (show (-2) = (-2) from by decide) z9)
      exact tail _
  · show GW κ 4 82 21282 (wM r g iM1 aM1 lM1 ++ wX q d iX0 aX0) 1077 [(3, .int 0), (2, .ref (r 0)), (1, .ref (q 0)), (0, .ref b)] [.int (-1)]
    refine g_aload_n hk dL_law_1077 rfl ?_
    refine g_aload_n hk dL_law_1078 rfl ?_
    refine g_iload_n hk dL_law_1079 rfl ?_
    refine g_iconst (v := 1) hk dL_law_1080 (by decide) ?_
    refine g_iadd hk dL_law_1081 ?_
    refine g_norm (v := 1) (by decide) ?_
    refine g_sld (v := xs 1) hk hX (vp_in_iff.mpr ⟨by decide, by show (1 : Int) < (L : Int); omega⟩) rfl dL_law_1082 ?_
    refine g_aload_n hk dL_law_1083 rfl ?_
    refine g_iload_n hk dL_law_1084 rfl ?_
    refine g_iconst (v := 2) hk dL_law_1085 (by decide) ?_
    refine g_iadd hk dL_law_1086 ?_
    refine g_norm (v := 2) (by decide) ?_
    refine g_sld (v := xs 2) hk hX (vp_in_iff.mpr ⟨by decide, by show (2 : Int) < (L : Int); omega⟩) rfl dL_law_1087 ?_
    refine g_callV hk (m182_X12_odd l D zt g r (xs 1) (xs 2)) (SP.pre _ _) (fun q h => List.mem_append_right _ h) gL_law_X12_odd rfl rfl rfl (by decide +kernel) ⟨Nat.le_of_ble_eq_true rfl, Nat.le_of_ble_eq_true rfl⟩ 0 rfl rfl rfl rfl (Nat.le_of_ble_eq_true rfl) ⟨Nat.le_of_ble_eq_true rfl, Nat.le_of_ble_eq_true rfl⟩ dL_law_1088 (fun v ty' w' hp hk' => ?_)
    rcases hp with ⟨c3429, rfl, rfl⟩ | ⟨c3430, c3431, rfl, rfl⟩ | ⟨c3432, c3433, c3434, rfl, rfl⟩ | ⟨c3435, c3436, c3437, c3438, rfl, rfl⟩ | ⟨c3439, c3440, c3441, c3442, c3443, rfl, rfl⟩ | ⟨c3444, c3445, c3446, c3447, c3448, rfl, rfl⟩
    · show GW κ 4 82 21282 (wX q d iX0 aX0 ++ wM r g iM1 aM1 lM1) 1091 [(3, .int 0), (2, .ref (r 0)), (1, .ref (q 0)), (0, .ref b)] [.int (-1), .int (-1)]
      exfalso; omega
    · show GW κ 4 82 21282 (wX q d iX0 aX0 ++ wM r g iM1 aM1 lM1) 1091 [(3, .int 0), (2, .ref (r 0)), (1, .ref (q 0)), (0, .ref b)] [.int (-1), .int (-1)]
      exfalso; omega
    · show GW κ 4 82 21282 (wX q d iX0 aX0 ++ wM r g iM1 aM1 lM1) 1091 [(3, .int 0), (2, .ref (r 0)), (1, .ref (q 0)), (0, .ref b)] [.int (-1), .int (-1)]
      exfalso; omega
    · show GW κ 4 82 21282 (wX q d iX0 aX0 ++ wM r g iM1 aM1 lM1) 1091 [(3, .int 0), (2, .ref (r 0)), (1, .ref (q 0)), (0, .ref b)] [.int (-1), .int (-1)]
      refine g_icmp_eq (tgt := 1465) (a := (-1)) (b := (-1)) hk dL_law_1091 (by decide) rfl rfl (fun _ => ?_) (fun z9 => absurd (show (-1) = (-1) from by decide) z9)
      exact tail _
    · show GW κ 4 82 21282 (wX q d iX0 aX0 ++ wM r g iM1 (up2 aM1 18 (cp (aM1 17) (aM1 18) 165)) lM1) 1091 [(3, .int 0), (2, .ref (r 0)), (1, .ref (q 0)), (0, .ref b)] [.int (-2), .int (-1)]
      exfalso; omega
    · show GW κ 4 82 21282 (wX q d iX0 aX0 ++ wM r g iM1 (up2 aM1 18 (cp (aM1 17) (aM1 18) 165)) lM1) 1091 [(3, .int 0), (2, .ref (r 0)), (1, .ref (q 0)), (0, .ref b)] [.int (-2), .int (-1)]
      exfalso; omega
set_option maxHeartbeats 4000000 in
set_option maxRecDepth 100000 in
theorem law_28 {κ : Cx} {l : Launch} {D : va_G} {zt : Nat × Nat × Nat} {q r : Nat → Nat} {d g : Nat → ClassId} {b L : Nat} {xs : Nat → Int32} (hk : GC κ l D zt code 4 RL wsL_law (tyX d ++ tyM g) room_1) (hX : GX κ b L xs) (hL6 : L = 6) (tail : ∀ ws, GW κ 4 82 21282 ws 1465 [(3, .int 0), (2, .ref (r 0)), (1, .ref (q 0)), (0, .ref b)] []) : GW κ 4 82 21282 (wX q d iX0 aX0 ++ wM r g iM1 aM1 lM1) 1096 [(3, .int 0), (2, .ref (r 0)), (1, .ref (q 0)), (0, .ref b)] [] := by
  refine g_aload_n hk dL_law_1096 rfl ?_
  refine g_aload_n hk dL_law_1097 rfl ?_
  refine g_iload_n hk dL_law_1098 rfl ?_
  refine g_iconst (v := 1) hk dL_law_1099 (by decide) ?_
  refine g_iadd hk dL_law_1100 ?_
  refine g_norm (v := 1) (by decide) ?_
  refine g_sld (v := xs 1) hk hX (vp_in_iff.mpr ⟨by decide, by show (1 : Int) < (L : Int); omega⟩) rfl dL_law_1101 ?_
  refine g_aload_n hk dL_law_1102 rfl ?_
  refine g_iload_n hk dL_law_1103 rfl ?_
  refine g_iconst (v := 2) hk dL_law_1104 (by decide) ?_
  refine g_iadd hk dL_law_1105 ?_
  refine g_norm (v := 2) (by decide) ?_
  refine g_sld (v := xs 2) hk hX (vp_in_iff.mpr ⟨by decide, by show (2 : Int) < (L : Int); omega⟩) rfl dL_law_1106 ?_
  refine g_callV hk (m294_X11_cover l D zt d q (xs 1) (xs 2)) (SP.pre _ _) (fun q h => List.mem_append_left _ h) gL_law_X11_cover rfl rfl rfl (by decide +kernel) ⟨Nat.le_of_ble_eq_true rfl, Nat.le_of_ble_eq_true rfl⟩ 0 rfl rfl rfl rfl (Nat.le_of_ble_eq_true rfl) ⟨Nat.le_of_ble_eq_true rfl, Nat.le_of_ble_eq_true rfl⟩ dL_law_1107 (fun v ty' w' hp hk' => ?_)
  obtain ⟨rfl, rfl⟩ := hp
  show GW κ 4 82 21282 (wM r g iM1 aM1 lM1 ++ wX q d iX0 aX0) 1110 [(3, .int 0), (2, .ref (r 0)), (1, .ref (q 0)), (0, .ref b)] [.int (-1)]
  refine g_aload_n hk dL_law_1110 rfl ?_
  refine g_aload_n hk dL_law_1111 rfl ?_
  refine g_iload_n hk dL_law_1112 rfl ?_
  refine g_iconst (v := 1) hk dL_law_1113 (by decide) ?_
  refine g_iadd hk dL_law_1114 ?_
  refine g_norm (v := 1) (by decide) ?_
  refine g_sld (v := xs 1) hk hX (vp_in_iff.mpr ⟨by decide, by show (1 : Int) < (L : Int); omega⟩) rfl dL_law_1115 ?_
  refine g_aload_n hk dL_law_1116 rfl ?_
  refine g_iload_n hk dL_law_1117 rfl ?_
  refine g_iconst (v := 2) hk dL_law_1118 (by decide) ?_
  refine g_iadd hk dL_law_1119 ?_
  refine g_norm (v := 2) (by decide) ?_
  refine g_sld (v := xs 2) hk hX (vp_in_iff.mpr ⟨by decide, by show (2 : Int) < (L : Int); omega⟩) rfl dL_law_1120 ?_
  refine g_callV hk (m183_X12_cover l D zt g r (xs 1) (xs 2)) (SP.pre _ _) (fun q h => List.mem_append_right _ h) gL_law_X12_cover rfl rfl rfl (by decide +kernel) ⟨Nat.le_of_ble_eq_true rfl, Nat.le_of_ble_eq_true rfl⟩ 0 rfl rfl rfl rfl (Nat.le_of_ble_eq_true rfl) ⟨Nat.le_of_ble_eq_true rfl, Nat.le_of_ble_eq_true rfl⟩ dL_law_1121 (fun v ty' w' hp hk' => ?_)
  obtain ⟨rfl, rfl⟩ := hp
  show GW κ 4 82 21282 (wX q d iX0 aX0 ++ wM r g iM1 aM1 lM1) 1124 [(3, .int 0), (2, .ref (r 0)), (1, .ref (q 0)), (0, .ref b)] [.int (-1), .int (-1)]
  refine g_icmp_eq (tgt := 1465) (a := (-1)) (b := (-1)) hk dL_law_1124 (by decide) rfl rfl (fun _ => ?_) (fun z9 => absurd (show (-1) = (-1) from by decide) z9)
  exact tail _
set_option maxHeartbeats 4000000 in
set_option maxRecDepth 100000 in
theorem law_29 {κ : Cx} {l : Launch} {D : va_G} {zt : Nat × Nat × Nat} {q r : Nat → Nat} {d g : Nat → ClassId} {b L : Nat} {xs : Nat → Int32} (hk : GC κ l D zt code 4 RL wsL_law (tyX d ++ tyM g) room_1) (hX : GX κ b L xs) (hL6 : L = 6) (tail : ∀ ws, GW κ 4 82 21282 ws 1465 [(3, .int 0), (2, .ref (r 0)), (1, .ref (q 0)), (0, .ref b)] []) : GW κ 4 82 21282 (wX q d iX0 aX0 ++ wM r g iM1 aM1 lM1) 1129 [(3, .int 0), (2, .ref (r 0)), (1, .ref (q 0)), (0, .ref b)] [] := by
  refine g_aload_n hk dL_law_1129 rfl ?_
  refine g_aload_n hk dL_law_1130 rfl ?_
  refine g_iload_n hk dL_law_1131 rfl ?_
  refine g_iconst (v := 1) hk dL_law_1132 (by decide) ?_
  refine g_iadd hk dL_law_1133 ?_
  refine g_norm (v := 1) (by decide) ?_
  refine g_sld (v := xs 1) hk hX (vp_in_iff.mpr ⟨by decide, by show (1 : Int) < (L : Int); omega⟩) rfl dL_law_1134 ?_
  refine g_aload_n hk dL_law_1135 rfl ?_
  refine g_iload_n hk dL_law_1136 rfl ?_
  refine g_iconst (v := 2) hk dL_law_1137 (by decide) ?_
  refine g_iadd hk dL_law_1138 ?_
  refine g_norm (v := 2) (by decide) ?_
  refine g_sld (v := xs 2) hk hX (vp_in_iff.mpr ⟨by decide, by show (2 : Int) < (L : Int); omega⟩) rfl dL_law_1139 ?_
  refine g_aload_n hk dL_law_1140 rfl ?_
  refine g_iload_n hk dL_law_1141 rfl ?_
  refine g_iconst (v := 3) hk dL_law_1142 (by decide) ?_
  refine g_iadd hk dL_law_1143 ?_
  refine g_norm (v := 3) (by decide) ?_
  refine g_sld (v := xs 3) hk hX (vp_in_iff.mpr ⟨by decide, by show (3 : Int) < (L : Int); omega⟩) rfl dL_law_1144 ?_
  refine g_callV hk (m295_X11_lean l D zt d q (xs 1) (xs 2) (xs 3)) (SP.pre _ _) (fun q h => List.mem_append_left _ h) gL_law_X11_lean rfl rfl rfl (by decide +kernel) ⟨Nat.le_of_ble_eq_true rfl, Nat.le_of_ble_eq_true rfl⟩ 0 rfl rfl rfl rfl (Nat.le_of_ble_eq_true rfl) ⟨Nat.le_of_ble_eq_true rfl, Nat.le_of_ble_eq_true rfl⟩ dL_law_1145 (fun v ty' w' hp hk' => ?_)
  obtain ⟨rfl, rfl⟩ := hp
  show GW κ 4 82 21282 (wM r g iM1 aM1 lM1 ++ wX q d iX0 aX0) 1148 [(3, .int 0), (2, .ref (r 0)), (1, .ref (q 0)), (0, .ref b)] [.int (-1)]
  refine g_aload_n hk dL_law_1148 rfl ?_
  refine g_aload_n hk dL_law_1149 rfl ?_
  refine g_iload_n hk dL_law_1150 rfl ?_
  refine g_iconst (v := 1) hk dL_law_1151 (by decide) ?_
  refine g_iadd hk dL_law_1152 ?_
  refine g_norm (v := 1) (by decide) ?_
  refine g_sld (v := xs 1) hk hX (vp_in_iff.mpr ⟨by decide, by show (1 : Int) < (L : Int); omega⟩) rfl dL_law_1153 ?_
  refine g_aload_n hk dL_law_1154 rfl ?_
  refine g_iload_n hk dL_law_1155 rfl ?_
  refine g_iconst (v := 2) hk dL_law_1156 (by decide) ?_
  refine g_iadd hk dL_law_1157 ?_
  refine g_norm (v := 2) (by decide) ?_
  refine g_sld (v := xs 2) hk hX (vp_in_iff.mpr ⟨by decide, by show (2 : Int) < (L : Int); omega⟩) rfl dL_law_1158 ?_
  refine g_aload_n hk dL_law_1159 rfl ?_
  refine g_iload_n hk dL_law_1160 rfl ?_
  refine g_iconst (v := 3) hk dL_law_1161 (by decide) ?_
  refine g_iadd hk dL_law_1162 ?_
  refine g_norm (v := 3) (by decide) ?_
  refine g_sld (v := xs 3) hk hX (vp_in_iff.mpr ⟨by decide, by show (3 : Int) < (L : Int); omega⟩) rfl dL_law_1163 ?_
  refine g_callV hk (m184_X12_lean l D zt g r (xs 1) (xs 2) (xs 3)) (SP.pre _ _) (fun q h => List.mem_append_right _ h) gL_law_X12_lean rfl rfl rfl (by decide +kernel) ⟨Nat.le_of_ble_eq_true rfl, Nat.le_of_ble_eq_true rfl⟩ 0 rfl rfl rfl rfl (Nat.le_of_ble_eq_true rfl) ⟨Nat.le_of_ble_eq_true rfl, Nat.le_of_ble_eq_true rfl⟩ dL_law_1164 (fun v ty' w' hp hk' => ?_)
  obtain ⟨rfl, rfl⟩ := hp
  show GW κ 4 82 21282 (wX q d iX0 aX0 ++ wM r g iM1 aM1 lM1) 1167 [(3, .int 0), (2, .ref (r 0)), (1, .ref (q 0)), (0, .ref b)] [.int (-1), .int (-1)]
  refine g_icmp_eq (tgt := 1465) (a := (-1)) (b := (-1)) hk dL_law_1167 (by decide) rfl rfl (fun _ => ?_) (fun z9 => absurd (show (-1) = (-1) from by decide) z9)
  exact tail _
set_option maxHeartbeats 4000000 in
set_option maxRecDepth 100000 in
theorem law_30 {κ : Cx} {l : Launch} {D : va_G} {zt : Nat × Nat × Nat} {q r : Nat → Nat} {d g : Nat → ClassId} {b L : Nat} {xs : Nat → Int32} (hk : GC κ l D zt code 4 RL wsL_law (tyX d ++ tyM g) room_1) (hX : GX κ b L xs) (hL6 : L = 6) (tail : ∀ ws, GW κ 4 82 21282 ws 1465 [(3, .int 0), (2, .ref (r 0)), (1, .ref (q 0)), (0, .ref b)] []) : GW κ 4 82 21282 (wX q d iX0 aX0 ++ wM r g iM1 aM1 lM1) 1172 [(3, .int 0), (2, .ref (r 0)), (1, .ref (q 0)), (0, .ref b)] [] := by
  refine g_aload_n hk dL_law_1172 rfl ?_
  refine g_aload_n hk dL_law_1173 rfl ?_
  refine g_iload_n hk dL_law_1174 rfl ?_
  refine g_iconst (v := 1) hk dL_law_1175 (by decide) ?_
  refine g_iadd hk dL_law_1176 ?_
  refine g_norm (v := 1) (by decide) ?_
  refine g_sld (v := xs 1) hk hX (vp_in_iff.mpr ⟨by decide, by show (1 : Int) < (L : Int); omega⟩) rfl dL_law_1177 ?_
  refine g_aload_n hk dL_law_1178 rfl ?_
  refine g_iload_n hk dL_law_1179 rfl ?_
  refine g_iconst (v := 2) hk dL_law_1180 (by decide) ?_
  refine g_iadd hk dL_law_1181 ?_
  refine g_norm (v := 2) (by decide) ?_
  refine g_sld (v := xs 2) hk hX (vp_in_iff.mpr ⟨by decide, by show (2 : Int) < (L : Int); omega⟩) rfl dL_law_1182 ?_
  refine g_callV hk (m297_X11_whose l D zt d q (xs 1) (xs 2)) (SP.pre _ _) (fun q h => List.mem_append_left _ h) gL_law_X11_whose rfl rfl rfl (by decide +kernel) ⟨Nat.le_of_ble_eq_true rfl, Nat.le_of_ble_eq_true rfl⟩ 0 rfl rfl rfl rfl (Nat.le_of_ble_eq_true rfl) ⟨Nat.le_of_ble_eq_true rfl, Nat.le_of_ble_eq_true rfl⟩ dL_law_1183 (fun v ty' w' hp hk' => ?_)
  obtain ⟨rfl, rfl⟩ := hp
  show GW κ 4 82 21282 (wM r g iM1 aM1 lM1 ++ wX q d iX0 aX0) 1186 [(3, .int 0), (2, .ref (r 0)), (1, .ref (q 0)), (0, .ref b)] [.int (-1)]
  refine g_aload_n hk dL_law_1186 rfl ?_
  refine g_aload_n hk dL_law_1187 rfl ?_
  refine g_iload_n hk dL_law_1188 rfl ?_
  refine g_iconst (v := 1) hk dL_law_1189 (by decide) ?_
  refine g_iadd hk dL_law_1190 ?_
  refine g_norm (v := 1) (by decide) ?_
  refine g_sld (v := xs 1) hk hX (vp_in_iff.mpr ⟨by decide, by show (1 : Int) < (L : Int); omega⟩) rfl dL_law_1191 ?_
  refine g_aload_n hk dL_law_1192 rfl ?_
  refine g_iload_n hk dL_law_1193 rfl ?_
  refine g_iconst (v := 2) hk dL_law_1194 (by decide) ?_
  refine g_iadd hk dL_law_1195 ?_
  refine g_norm (v := 2) (by decide) ?_
  refine g_sld (v := xs 2) hk hX (vp_in_iff.mpr ⟨by decide, by show (2 : Int) < (L : Int); omega⟩) rfl dL_law_1196 ?_
  refine g_callV hk (m185_X12_whose l D zt g r (xs 1) (xs 2)) (SP.pre _ _) (fun q h => List.mem_append_right _ h) gL_law_X12_whose rfl rfl rfl (by decide +kernel) ⟨Nat.le_of_ble_eq_true rfl, Nat.le_of_ble_eq_true rfl⟩ 0 rfl rfl rfl rfl (Nat.le_of_ble_eq_true rfl) ⟨Nat.le_of_ble_eq_true rfl, Nat.le_of_ble_eq_true rfl⟩ dL_law_1197 (fun v ty' w' hp hk' => ?_)
  obtain ⟨rfl, rfl⟩ := hp
  show GW κ 4 82 21282 (wX q d iX0 aX0 ++ wM r g iM1 aM1 lM1) 1200 [(3, .int 0), (2, .ref (r 0)), (1, .ref (q 0)), (0, .ref b)] [.int (-1), .int (-1)]
  refine g_icmp_eq (tgt := 1465) (a := (-1)) (b := (-1)) hk dL_law_1200 (by decide) rfl rfl (fun _ => ?_) (fun z9 => absurd (show (-1) = (-1) from by decide) z9)
  exact tail _
set_option maxHeartbeats 4000000 in
set_option maxRecDepth 100000 in
theorem law_31 {κ : Cx} {l : Launch} {D : va_G} {zt : Nat × Nat × Nat} {q r : Nat → Nat} {d g : Nat → ClassId} {b L : Nat} {xs : Nat → Int32} (hk : GC κ l D zt code 4 RL wsL_law (tyX d ++ tyM g) room_1) (hX : GX κ b L xs) (hL6 : L = 6) (tail : ∀ ws, GW κ 4 82 21282 ws 1465 [(3, .int 0), (2, .ref (r 0)), (1, .ref (q 0)), (0, .ref b)] []) : GW κ 4 82 21282 (wX q d iX0 aX0 ++ wM r g iM1 aM1 lM1) 1205 [(3, .int 0), (2, .ref (r 0)), (1, .ref (q 0)), (0, .ref b)] [] := by
  refine g_aload_n hk dL_law_1205 rfl ?_
  refine g_aload_n hk dL_law_1206 rfl ?_
  refine g_iload_n hk dL_law_1207 rfl ?_
  refine g_iconst (v := 1) hk dL_law_1208 (by decide) ?_
  refine g_iadd hk dL_law_1209 ?_
  refine g_norm (v := 1) (by decide) ?_
  refine g_sld (v := xs 1) hk hX (vp_in_iff.mpr ⟨by decide, by show (1 : Int) < (L : Int); omega⟩) rfl dL_law_1210 ?_
  refine g_aload_n hk dL_law_1211 rfl ?_
  refine g_iload_n hk dL_law_1212 rfl ?_
  refine g_iconst (v := 2) hk dL_law_1213 (by decide) ?_
  refine g_iadd hk dL_law_1214 ?_
  refine g_norm (v := 2) (by decide) ?_
  refine g_sld (v := xs 2) hk hX (vp_in_iff.mpr ⟨by decide, by show (2 : Int) < (L : Int); omega⟩) rfl dL_law_1215 ?_
  refine g_callV hk (m298_X11_rank l D zt d q (xs 1) (xs 2)) (SP.pre _ _) (fun q h => List.mem_append_left _ h) gL_law_X11_rank rfl rfl rfl (by decide +kernel) ⟨Nat.le_of_ble_eq_true rfl, Nat.le_of_ble_eq_true rfl⟩ 0 rfl rfl rfl rfl (Nat.le_of_ble_eq_true rfl) ⟨Nat.le_of_ble_eq_true rfl, Nat.le_of_ble_eq_true rfl⟩ dL_law_1216 (fun v ty' w' hp hk' => ?_)
  obtain ⟨rfl, rfl⟩ := hp
  show GW κ 4 82 21282 (wM r g iM1 aM1 lM1 ++ wX q d iX0 aX0) 1219 [(3, .int 0), (2, .ref (r 0)), (1, .ref (q 0)), (0, .ref b)] [.int (-1)]
  refine g_aload_n hk dL_law_1219 rfl ?_
  refine g_aload_n hk dL_law_1220 rfl ?_
  refine g_iload_n hk dL_law_1221 rfl ?_
  refine g_iconst (v := 1) hk dL_law_1222 (by decide) ?_
  refine g_iadd hk dL_law_1223 ?_
  refine g_norm (v := 1) (by decide) ?_
  refine g_sld (v := xs 1) hk hX (vp_in_iff.mpr ⟨by decide, by show (1 : Int) < (L : Int); omega⟩) rfl dL_law_1224 ?_
  refine g_aload_n hk dL_law_1225 rfl ?_
  refine g_iload_n hk dL_law_1226 rfl ?_
  refine g_iconst (v := 2) hk dL_law_1227 (by decide) ?_
  refine g_iadd hk dL_law_1228 ?_
  refine g_norm (v := 2) (by decide) ?_
  refine g_sld (v := xs 2) hk hX (vp_in_iff.mpr ⟨by decide, by show (2 : Int) < (L : Int); omega⟩) rfl dL_law_1229 ?_
  refine g_callV hk (m186_X12_rank l D zt g r (xs 1) (xs 2)) (SP.pre _ _) (fun q h => List.mem_append_right _ h) gL_law_X12_rank rfl rfl rfl (by decide +kernel) ⟨Nat.le_of_ble_eq_true rfl, Nat.le_of_ble_eq_true rfl⟩ 0 rfl rfl rfl rfl (Nat.le_of_ble_eq_true rfl) ⟨Nat.le_of_ble_eq_true rfl, Nat.le_of_ble_eq_true rfl⟩ dL_law_1230 (fun v ty' w' hp hk' => ?_)
  obtain ⟨rfl, rfl⟩ := hp
  show GW κ 4 82 21282 (wX q d iX0 aX0 ++ wM r g iM1 aM1 lM1) 1233 [(3, .int 0), (2, .ref (r 0)), (1, .ref (q 0)), (0, .ref b)] [.int (-1), .int (-1)]
  refine g_icmp_eq (tgt := 1465) (a := (-1)) (b := (-1)) hk dL_law_1233 (by decide) rfl rfl (fun _ => ?_) (fun z9 => absurd (show (-1) = (-1) from by decide) z9)
  exact tail _
set_option maxHeartbeats 4000000 in
set_option maxRecDepth 100000 in
theorem law_32 {κ : Cx} {l : Launch} {D : va_G} {zt : Nat × Nat × Nat} {q r : Nat → Nat} {d g : Nat → ClassId} {b L : Nat} {xs : Nat → Int32} (hk : GC κ l D zt code 4 RL wsL_law (tyX d ++ tyM g) room_1) (hX : GX κ b L xs) (hL6 : L = 6) (tail : ∀ ws, GW κ 4 82 21282 ws 1465 [(3, .int 0), (2, .ref (r 0)), (1, .ref (q 0)), (0, .ref b)] []) : GW κ 4 82 21282 (wX q d iX0 aX0 ++ wM r g iM1 aM1 lM1) 1238 [(3, .int 0), (2, .ref (r 0)), (1, .ref (q 0)), (0, .ref b)] [] := by
  refine g_aload_n hk dL_law_1238 rfl ?_
  refine g_aload_n hk dL_law_1239 rfl ?_
  refine g_iload_n hk dL_law_1240 rfl ?_
  refine g_iconst (v := 1) hk dL_law_1241 (by decide) ?_
  refine g_iadd hk dL_law_1242 ?_
  refine g_norm (v := 1) (by decide) ?_
  refine g_sld (v := xs 1) hk hX (vp_in_iff.mpr ⟨by decide, by show (1 : Int) < (L : Int); omega⟩) rfl dL_law_1243 ?_
  refine g_aload_n hk dL_law_1244 rfl ?_
  refine g_iload_n hk dL_law_1245 rfl ?_
  refine g_iconst (v := 2) hk dL_law_1246 (by decide) ?_
  refine g_iadd hk dL_law_1247 ?_
  refine g_norm (v := 2) (by decide) ?_
  refine g_sld (v := xs 2) hk hX (vp_in_iff.mpr ⟨by decide, by show (2 : Int) < (L : Int); omega⟩) rfl dL_law_1248 ?_
  refine g_aload_n hk dL_law_1249 rfl ?_
  refine g_iload_n hk dL_law_1250 rfl ?_
  refine g_iconst (v := 3) hk dL_law_1251 (by decide) ?_
  refine g_iadd hk dL_law_1252 ?_
  refine g_norm (v := 3) (by decide) ?_
  refine g_sld (v := xs 3) hk hX (vp_in_iff.mpr ⟨by decide, by show (3 : Int) < (L : Int); omega⟩) rfl dL_law_1253 ?_
  refine g_callV hk (m299_X11_kth l D zt d q (xs 1) (xs 2) (xs 3)) (SP.pre _ _) (fun q h => List.mem_append_left _ h) gL_law_X11_kth rfl rfl rfl (by decide +kernel) ⟨Nat.le_of_ble_eq_true rfl, Nat.le_of_ble_eq_true rfl⟩ 0 rfl rfl rfl rfl (Nat.le_of_ble_eq_true rfl) ⟨Nat.le_of_ble_eq_true rfl, Nat.le_of_ble_eq_true rfl⟩ dL_law_1254 (fun v ty' w' hp hk' => ?_)
  obtain ⟨rfl, rfl⟩ := hp
  show GW κ 4 82 21282 (wM r g iM1 aM1 lM1 ++ wX q d iX0 aX0) 1257 [(3, .int 0), (2, .ref (r 0)), (1, .ref (q 0)), (0, .ref b)] [.int (-1)]
  refine g_aload_n hk dL_law_1257 rfl ?_
  refine g_aload_n hk dL_law_1258 rfl ?_
  refine g_iload_n hk dL_law_1259 rfl ?_
  refine g_iconst (v := 1) hk dL_law_1260 (by decide) ?_
  refine g_iadd hk dL_law_1261 ?_
  refine g_norm (v := 1) (by decide) ?_
  refine g_sld (v := xs 1) hk hX (vp_in_iff.mpr ⟨by decide, by show (1 : Int) < (L : Int); omega⟩) rfl dL_law_1262 ?_
  refine g_aload_n hk dL_law_1263 rfl ?_
  refine g_iload_n hk dL_law_1264 rfl ?_
  refine g_iconst (v := 2) hk dL_law_1265 (by decide) ?_
  refine g_iadd hk dL_law_1266 ?_
  refine g_norm (v := 2) (by decide) ?_
  refine g_sld (v := xs 2) hk hX (vp_in_iff.mpr ⟨by decide, by show (2 : Int) < (L : Int); omega⟩) rfl dL_law_1267 ?_
  refine g_aload_n hk dL_law_1268 rfl ?_
  refine g_iload_n hk dL_law_1269 rfl ?_
  refine g_iconst (v := 3) hk dL_law_1270 (by decide) ?_
  refine g_iadd hk dL_law_1271 ?_
  refine g_norm (v := 3) (by decide) ?_
  refine g_sld (v := xs 3) hk hX (vp_in_iff.mpr ⟨by decide, by show (3 : Int) < (L : Int); omega⟩) rfl dL_law_1272 ?_
  refine g_callV hk (m187_X12_kth l D zt g r (xs 1) (xs 2) (xs 3)) (SP.pre _ _) (fun q h => List.mem_append_right _ h) gL_law_X12_kth rfl rfl rfl (by decide +kernel) ⟨Nat.le_of_ble_eq_true rfl, Nat.le_of_ble_eq_true rfl⟩ 0 rfl rfl rfl rfl (Nat.le_of_ble_eq_true rfl) ⟨Nat.le_of_ble_eq_true rfl, Nat.le_of_ble_eq_true rfl⟩ dL_law_1273 (fun v ty' w' hp hk' => ?_)
  obtain ⟨rfl, rfl⟩ := hp
  show GW κ 4 82 21282 (wX q d iX0 aX0 ++ wM r g iM1 aM1 lM1) 1276 [(3, .int 0), (2, .ref (r 0)), (1, .ref (q 0)), (0, .ref b)] [.int (-1), .int (-1)]
  refine g_icmp_eq (tgt := 1465) (a := (-1)) (b := (-1)) hk dL_law_1276 (by decide) rfl rfl (fun _ => ?_) (fun z9 => absurd (show (-1) = (-1) from by decide) z9)
  exact tail _
set_option maxHeartbeats 4000000 in
set_option maxRecDepth 100000 in
theorem law_33 {κ : Cx} {l : Launch} {D : va_G} {zt : Nat × Nat × Nat} {q r : Nat → Nat} {d g : Nat → ClassId} {b L : Nat} {xs : Nat → Int32} (hk : GC κ l D zt code 4 RL wsL_law (tyX d ++ tyM g) room_1) (hX : GX κ b L xs) (hL6 : L = 6) (tail : ∀ ws, GW κ 4 82 21282 ws 1465 [(3, .int 0), (2, .ref (r 0)), (1, .ref (q 0)), (0, .ref b)] []) : GW κ 4 82 21282 (wX q d iX0 aX0 ++ wM r g iM1 aM1 lM1) 1281 [(3, .int 0), (2, .ref (r 0)), (1, .ref (q 0)), (0, .ref b)] [] := by
  refine g_aload_n hk dL_law_1281 rfl ?_
  refine g_aload_n hk dL_law_1282 rfl ?_
  refine g_iload_n hk dL_law_1283 rfl ?_
  refine g_iconst (v := 1) hk dL_law_1284 (by decide) ?_
  refine g_iadd hk dL_law_1285 ?_
  refine g_norm (v := 1) (by decide) ?_
  refine g_sld (v := xs 1) hk hX (vp_in_iff.mpr ⟨by decide, by show (1 : Int) < (L : Int); omega⟩) rfl dL_law_1286 ?_
  refine g_callV hk (m300_X11_slack l D zt d q (xs 1)) (SP.pre _ _) (fun q h => List.mem_append_left _ h) gL_law_X11_slack rfl rfl rfl (by decide +kernel) ⟨Nat.le_of_ble_eq_true rfl, Nat.le_of_ble_eq_true rfl⟩ 0 rfl rfl rfl rfl (Nat.le_of_ble_eq_true rfl) ⟨Nat.le_of_ble_eq_true rfl, Nat.le_of_ble_eq_true rfl⟩ dL_law_1287 (fun v ty' w' hp hk' => ?_)
  obtain ⟨rfl, rfl⟩ := hp
  show GW κ 4 82 21282 (wM r g iM1 aM1 lM1 ++ wX q d iX0 aX0) 1290 [(3, .int 0), (2, .ref (r 0)), (1, .ref (q 0)), (0, .ref b)] [.int (-1)]
  refine g_aload_n hk dL_law_1290 rfl ?_
  refine g_aload_n hk dL_law_1291 rfl ?_
  refine g_iload_n hk dL_law_1292 rfl ?_
  refine g_iconst (v := 1) hk dL_law_1293 (by decide) ?_
  refine g_iadd hk dL_law_1294 ?_
  refine g_norm (v := 1) (by decide) ?_
  refine g_sld (v := xs 1) hk hX (vp_in_iff.mpr ⟨by decide, by show (1 : Int) < (L : Int); omega⟩) rfl dL_law_1295 ?_
  refine g_callV hk (m188_X12_slack l D zt g r (xs 1)) (SP.pre _ _) (fun q h => List.mem_append_right _ h) gL_law_X12_slack rfl rfl rfl (by decide +kernel) ⟨Nat.le_of_ble_eq_true rfl, Nat.le_of_ble_eq_true rfl⟩ 0 rfl rfl rfl rfl (Nat.le_of_ble_eq_true rfl) ⟨Nat.le_of_ble_eq_true rfl, Nat.le_of_ble_eq_true rfl⟩ dL_law_1296 (fun v ty' w' hp hk' => ?_)
  obtain ⟨rfl, rfl⟩ := hp
  show GW κ 4 82 21282 (wX q d iX0 aX0 ++ wM r g iM1 aM1 lM1) 1299 [(3, .int 0), (2, .ref (r 0)), (1, .ref (q 0)), (0, .ref b)] [.int (-1), .int (-1)]
  refine g_icmp_eq (tgt := 1465) (a := (-1)) (b := (-1)) hk dL_law_1299 (by decide) rfl rfl (fun _ => ?_) (fun z9 => absurd (show (-1) = (-1) from by decide) z9)
  exact tail _
set_option maxHeartbeats 4000000 in
set_option maxRecDepth 100000 in
theorem law_34 {κ : Cx} {l : Launch} {D : va_G} {zt : Nat × Nat × Nat} {q r : Nat → Nat} {d g : Nat → ClassId} {b L : Nat} {xs : Nat → Int32} (hk : GC κ l D zt code 4 RL wsL_law (tyX d ++ tyM g) room_1) (hX : GX κ b L xs) (hL6 : L = 6) (tail : ∀ ws, GW κ 4 82 21282 ws 1465 [(3, .int 0), (2, .ref (r 0)), (1, .ref (q 0)), (0, .ref b)] []) : GW κ 4 82 21282 (wX q d iX0 aX0 ++ wM r g iM1 aM1 lM1) 1304 [(3, .int 0), (2, .ref (r 0)), (1, .ref (q 0)), (0, .ref b)] [] := by
  refine g_aload_n hk dL_law_1304 rfl ?_
  refine g_aload_n hk dL_law_1305 rfl ?_
  refine g_iload_n hk dL_law_1306 rfl ?_
  refine g_iconst (v := 1) hk dL_law_1307 (by decide) ?_
  refine g_iadd hk dL_law_1308 ?_
  refine g_norm (v := 1) (by decide) ?_
  refine g_sld (v := xs 1) hk hX (vp_in_iff.mpr ⟨by decide, by show (1 : Int) < (L : Int); omega⟩) rfl dL_law_1309 ?_
  refine g_callV hk (m301_X11_turns l D zt d q (xs 1)) (SP.pre _ _) (fun q h => List.mem_append_left _ h) gL_law_X11_turns rfl rfl rfl (by decide +kernel) ⟨Nat.le_of_ble_eq_true rfl, Nat.le_of_ble_eq_true rfl⟩ 0 rfl rfl rfl rfl (Nat.le_of_ble_eq_true rfl) ⟨Nat.le_of_ble_eq_true rfl, Nat.le_of_ble_eq_true rfl⟩ dL_law_1310 (fun v ty' w' hp hk' => ?_)
  obtain ⟨rfl, rfl⟩ := hp
  show GW κ 4 82 21282 (wM r g iM1 aM1 lM1 ++ wX q d iX0 aX0) 1313 [(3, .int 0), (2, .ref (r 0)), (1, .ref (q 0)), (0, .ref b)] [.int (-1)]
  refine g_aload_n hk dL_law_1313 rfl ?_
  refine g_aload_n hk dL_law_1314 rfl ?_
  refine g_iload_n hk dL_law_1315 rfl ?_
  refine g_iconst (v := 1) hk dL_law_1316 (by decide) ?_
  refine g_iadd hk dL_law_1317 ?_
  refine g_norm (v := 1) (by decide) ?_
  refine g_sld (v := xs 1) hk hX (vp_in_iff.mpr ⟨by decide, by show (1 : Int) < (L : Int); omega⟩) rfl dL_law_1318 ?_
  refine g_callV hk (m189_X12_turns l D zt g r (xs 1)) (SP.pre _ _) (fun q h => List.mem_append_right _ h) gL_law_X12_turns rfl rfl rfl (by decide +kernel) ⟨Nat.le_of_ble_eq_true rfl, Nat.le_of_ble_eq_true rfl⟩ 0 rfl rfl rfl rfl (Nat.le_of_ble_eq_true rfl) ⟨Nat.le_of_ble_eq_true rfl, Nat.le_of_ble_eq_true rfl⟩ dL_law_1319 (fun v ty' w' hp hk' => ?_)
  obtain ⟨rfl, rfl⟩ := hp
  show GW κ 4 82 21282 (wX q d iX0 aX0 ++ wM r g iM1 aM1 lM1) 1322 [(3, .int 0), (2, .ref (r 0)), (1, .ref (q 0)), (0, .ref b)] [.int (-1), .int (-1)]
  refine g_icmp_eq (tgt := 1465) (a := (-1)) (b := (-1)) hk dL_law_1322 (by decide) rfl rfl (fun _ => ?_) (fun z9 => absurd (show (-1) = (-1) from by decide) z9)
  exact tail _
set_option maxHeartbeats 4000000 in
set_option maxRecDepth 100000 in
theorem law_35 {κ : Cx} {l : Launch} {D : va_G} {zt : Nat × Nat × Nat} {q r : Nat → Nat} {d g : Nat → ClassId} {b L : Nat} {xs : Nat → Int32} (hk : GC κ l D zt code 4 RL wsL_law (tyX d ++ tyM g) room_1) (hX : GX κ b L xs) (hL6 : L = 6) (tail : ∀ ws, GW κ 4 82 21282 ws 1465 [(3, .int 0), (2, .ref (r 0)), (1, .ref (q 0)), (0, .ref b)] []) : GW κ 4 82 21282 (wX q d iX0 aX0 ++ wM r g iM1 aM1 lM1) 1327 [(3, .int 0), (2, .ref (r 0)), (1, .ref (q 0)), (0, .ref b)] [] := by
  refine g_aload_n hk dL_law_1327 rfl ?_
  refine g_aload_n hk dL_law_1328 rfl ?_
  refine g_iload_n hk dL_law_1329 rfl ?_
  refine g_iconst (v := 1) hk dL_law_1330 (by decide) ?_
  refine g_iadd hk dL_law_1331 ?_
  refine g_norm (v := 1) (by decide) ?_
  refine g_sld (v := xs 1) hk hX (vp_in_iff.mpr ⟨by decide, by show (1 : Int) < (L : Int); omega⟩) rfl dL_law_1332 ?_
  refine g_callV hk (m303_X11_flat l D zt d q (xs 1)) (SP.pre _ _) (fun q h => List.mem_append_left _ h) gL_law_X11_flat rfl rfl rfl (by decide +kernel) ⟨Nat.le_of_ble_eq_true rfl, Nat.le_of_ble_eq_true rfl⟩ 0 rfl rfl rfl rfl (Nat.le_of_ble_eq_true rfl) ⟨Nat.le_of_ble_eq_true rfl, Nat.le_of_ble_eq_true rfl⟩ dL_law_1333 (fun v ty' w' hp hk' => ?_)
  rcases hp with ⟨c3449, rfl, rfl⟩ | ⟨c3450, c3451, rfl, rfl⟩ | ⟨c3452, c3453, rfl, rfl⟩
  · show GW κ 4 82 21282 (wM r g iM1 aM1 lM1 ++ wX q d iX0 aX0) 1336 [(3, .int 0), (2, .ref (r 0)), (1, .ref (q 0)), (0, .ref b)] [.int (-1)]
    refine g_aload_n hk dL_law_1336 rfl ?_
    refine g_aload_n hk dL_law_1337 rfl ?_
    refine g_iload_n hk dL_law_1338 rfl ?_
    refine g_iconst (v := 1) hk dL_law_1339 (by decide) ?_
    refine g_iadd hk dL_law_1340 ?_
    refine g_norm (v := 1) (by decide) ?_
    refine g_sld (v := xs 1) hk hX (vp_in_iff.mpr ⟨by decide, by show (1 : Int) < (L : Int); omega⟩) rfl dL_law_1341 ?_
    refine g_callV hk (m191_X12_flat l D zt g r (xs 1)) (SP.pre _ _) (fun q h => List.mem_append_right _ h) gL_law_X12_flat rfl rfl rfl (by decide +kernel) ⟨Nat.le_of_ble_eq_true rfl, Nat.le_of_ble_eq_true rfl⟩ 0 rfl rfl rfl rfl (Nat.le_of_ble_eq_true rfl) ⟨Nat.le_of_ble_eq_true rfl, Nat.le_of_ble_eq_true rfl⟩ dL_law_1342 (fun v ty' w' hp hk' => ?_)
    rcases hp with ⟨c3454, rfl, rfl⟩ | ⟨c3455, c3456, rfl, rfl⟩ | ⟨c3457, c3458, rfl, rfl⟩
    · show GW κ 4 82 21282 (wX q d iX0 aX0 ++ wM r g iM1 aM1 lM1) 1345 [(3, .int 0), (2, .ref (r 0)), (1, .ref (q 0)), (0, .ref b)] [.int (-1), .int (-1)]
      refine g_icmp_eq (tgt := 1465) (a := (-1)) (b := (-1)) hk dL_law_1345 (by decide) rfl rfl (fun _ => ?_) (fun z9 => absurd (show (-1) = (-1) from by decide) z9)
      exact tail _
    · show GW κ 4 82 21282 (wX q d iX0 aX0 ++ wM r g iM1 aM1 lM1) 1345 [(3, .int 0), (2, .ref (r 0)), (1, .ref (q 0)), (0, .ref b)] [.int (-1), .int (-1)]
      exfalso; omega
    · show GW κ 4 82 21282 (wX q d iX0 aX0 ++ wM r g iM1 aM1 lM1) 1345 [(3, .int 0), (2, .ref (r 0)), (1, .ref (q 0)), (0, .ref b)] [.int 0, .int (-1)]
      exfalso; omega
  · show GW κ 4 82 21282 (wM r g iM1 aM1 lM1 ++ wX q d iX0 aX0) 1336 [(3, .int 0), (2, .ref (r 0)), (1, .ref (q 0)), (0, .ref b)] [.int 0]
    refine g_aload_n hk dL_law_1336 rfl ?_
    refine g_aload_n hk dL_law_1337 rfl ?_
    refine g_iload_n hk dL_law_1338 rfl ?_
    refine g_iconst (v := 1) hk dL_law_1339 (by decide) ?_
    refine g_iadd hk dL_law_1340 ?_
    refine g_norm (v := 1) (by decide) ?_
    refine g_sld (v := xs 1) hk hX (vp_in_iff.mpr ⟨by decide, by show (1 : Int) < (L : Int); omega⟩) rfl dL_law_1341 ?_
    refine g_callV hk (m191_X12_flat l D zt g r (xs 1)) (SP.pre _ _) (fun q h => List.mem_append_right _ h) gL_law_X12_flat rfl rfl rfl (by decide +kernel) ⟨Nat.le_of_ble_eq_true rfl, Nat.le_of_ble_eq_true rfl⟩ 0 rfl rfl rfl rfl (Nat.le_of_ble_eq_true rfl) ⟨Nat.le_of_ble_eq_true rfl, Nat.le_of_ble_eq_true rfl⟩ dL_law_1342 (fun v ty' w' hp hk' => ?_)
    rcases hp with ⟨c3459, rfl, rfl⟩ | ⟨c3460, c3461, rfl, rfl⟩ | ⟨c3462, c3463, rfl, rfl⟩
    · show GW κ 4 82 21282 (wX q d iX0 aX0 ++ wM r g iM1 aM1 lM1) 1345 [(3, .int 0), (2, .ref (r 0)), (1, .ref (q 0)), (0, .ref b)] [.int (-1), .int 0]
      exfalso; omega
    · show GW κ 4 82 21282 (wX q d iX0 aX0 ++ wM r g iM1 aM1 lM1) 1345 [(3, .int 0), (2, .ref (r 0)), (1, .ref (q 0)), (0, .ref b)] [.int (-1), .int 0]
      exfalso; omega
    · show GW κ 4 82 21282 (wX q d iX0 aX0 ++ wM r g iM1 aM1 lM1) 1345 [(3, .int 0), (2, .ref (r 0)), (1, .ref (q 0)), (0, .ref b)] [.int 0, .int 0]
      refine g_icmp_eq (tgt := 1465) (a := 0) (b := 0) hk dL_law_1345 (by decide) rfl rfl (fun _ => ?_) (fun z9 => absurd (show 0 = 0 from by decide) z9)
      exact tail _
  · show GW κ 4 82 21282 (wM r g iM1 aM1 lM1 ++ wX q d iX0 aX0) 1336 [(3, .int 0), (2, .ref (r 0)), (1, .ref (q 0)), (0, .ref b)] [.int (-1)]
    refine g_aload_n hk dL_law_1336 rfl ?_
    refine g_aload_n hk dL_law_1337 rfl ?_
    refine g_iload_n hk dL_law_1338 rfl ?_
    refine g_iconst (v := 1) hk dL_law_1339 (by decide) ?_
    refine g_iadd hk dL_law_1340 ?_
    refine g_norm (v := 1) (by decide) ?_
    refine g_sld (v := xs 1) hk hX (vp_in_iff.mpr ⟨by decide, by show (1 : Int) < (L : Int); omega⟩) rfl dL_law_1341 ?_
    refine g_callV hk (m191_X12_flat l D zt g r (xs 1)) (SP.pre _ _) (fun q h => List.mem_append_right _ h) gL_law_X12_flat rfl rfl rfl (by decide +kernel) ⟨Nat.le_of_ble_eq_true rfl, Nat.le_of_ble_eq_true rfl⟩ 0 rfl rfl rfl rfl (Nat.le_of_ble_eq_true rfl) ⟨Nat.le_of_ble_eq_true rfl, Nat.le_of_ble_eq_true rfl⟩ dL_law_1342 (fun v ty' w' hp hk' => ?_)
    rcases hp with ⟨c3464, rfl, rfl⟩ | ⟨c3465, c3466, rfl, rfl⟩ | ⟨c3467, c3468, rfl, rfl⟩
    · show GW κ 4 82 21282 (wX q d iX0 aX0 ++ wM r g iM1 aM1 lM1) 1345 [(3, .int 0), (2, .ref (r 0)), (1, .ref (q 0)), (0, .ref b)] [.int (-1), .int (-1)]
      exfalso; omega
    · show GW κ 4 82 21282 (wX q d iX0 aX0 ++ wM r g iM1 aM1 lM1) 1345 [(3, .int 0), (2, .ref (r 0)), (1, .ref (q 0)), (0, .ref b)] [.int (-1), .int (-1)]
      refine g_icmp_eq (tgt := 1465) (a := (-1)) (b := (-1)) hk dL_law_1345 (by decide) rfl rfl (fun _ => ?_) (fun z9 => absurd (show (-1) = (-1) from by decide) z9)
      exact tail _
    · show GW κ 4 82 21282 (wX q d iX0 aX0 ++ wM r g iM1 aM1 lM1) 1345 [(3, .int 0), (2, .ref (r 0)), (1, .ref (q 0)), (0, .ref b)] [.int 0, .int (-1)]
      exfalso; omega
set_option maxHeartbeats 4000000 in
set_option maxRecDepth 100000 in
theorem law_36 {κ : Cx} {l : Launch} {D : va_G} {zt : Nat × Nat × Nat} {q r : Nat → Nat} {d g : Nat → ClassId} {b L : Nat} {xs : Nat → Int32} (hk : GC κ l D zt code 4 RL wsL_law (tyX d ++ tyM g) room_1) (hX : GX κ b L xs) (hL6 : L = 6) (tail : ∀ ws, GW κ 4 82 21282 ws 1465 [(3, .int 0), (2, .ref (r 0)), (1, .ref (q 0)), (0, .ref b)] []) : GW κ 4 82 21282 (wX q d iX0 aX0 ++ wM r g iM1 aM1 lM1) 1350 [(3, .int 0), (2, .ref (r 0)), (1, .ref (q 0)), (0, .ref b)] [] := by
  refine g_aload_n hk dL_law_1350 rfl ?_
  refine g_aload_n hk dL_law_1351 rfl ?_
  refine g_iload_n hk dL_law_1352 rfl ?_
  refine g_iconst (v := 1) hk dL_law_1353 (by decide) ?_
  refine g_iadd hk dL_law_1354 ?_
  refine g_norm (v := 1) (by decide) ?_
  refine g_sld (v := xs 1) hk hX (vp_in_iff.mpr ⟨by decide, by show (1 : Int) < (L : Int); omega⟩) rfl dL_law_1355 ?_
  refine g_callV hk (m305_X11_whole l D zt d q (xs 1)) (SP.pre _ _) (fun q h => List.mem_append_left _ h) gL_law_X11_whole rfl rfl rfl (by decide +kernel) ⟨Nat.le_of_ble_eq_true rfl, Nat.le_of_ble_eq_true rfl⟩ 0 rfl rfl rfl rfl (Nat.le_of_ble_eq_true rfl) ⟨Nat.le_of_ble_eq_true rfl, Nat.le_of_ble_eq_true rfl⟩ dL_law_1356 (fun v ty' w' hp hk' => ?_)
  rcases hp with ⟨c3469, rfl, rfl⟩ | ⟨c3470, c3471, rfl, rfl⟩ | ⟨c3472, c3473, rfl, rfl⟩
  · show GW κ 4 82 21282 (wM r g iM1 aM1 lM1 ++ wX q d iX0 aX0) 1359 [(3, .int 0), (2, .ref (r 0)), (1, .ref (q 0)), (0, .ref b)] [.int (-1)]
    refine g_aload_n hk dL_law_1359 rfl ?_
    refine g_aload_n hk dL_law_1360 rfl ?_
    refine g_iload_n hk dL_law_1361 rfl ?_
    refine g_iconst (v := 1) hk dL_law_1362 (by decide) ?_
    refine g_iadd hk dL_law_1363 ?_
    refine g_norm (v := 1) (by decide) ?_
    refine g_sld (v := xs 1) hk hX (vp_in_iff.mpr ⟨by decide, by show (1 : Int) < (L : Int); omega⟩) rfl dL_law_1364 ?_
    refine g_callV hk (m192_X12_whole l D zt g r (xs 1)) (SP.pre _ _) (fun q h => List.mem_append_right _ h) gL_law_X12_whole rfl rfl rfl (by decide +kernel) ⟨Nat.le_of_ble_eq_true rfl, Nat.le_of_ble_eq_true rfl⟩ 0 rfl rfl rfl rfl (Nat.le_of_ble_eq_true rfl) ⟨Nat.le_of_ble_eq_true rfl, Nat.le_of_ble_eq_true rfl⟩ dL_law_1365 (fun v ty' w' hp hk' => ?_)
    rcases hp with ⟨c3474, rfl, rfl⟩ | ⟨c3475, c3476, rfl, rfl⟩ | ⟨c3477, c3478, c3479, rfl, rfl⟩ | ⟨c3480, c3481, c3482, rfl, rfl⟩
    · show GW κ 4 82 21282 (wX q d iX0 aX0 ++ wM r g iM1 aM1 lM1) 1368 [(3, .int 0), (2, .ref (r 0)), (1, .ref (q 0)), (0, .ref b)] [.int (-1), .int (-1)]
      refine g_icmp_eq (tgt := 1465) (a := (-1)) (b := (-1)) hk dL_law_1368 (by decide) rfl rfl (fun _ => ?_) (fun z9 => absurd (show (-1) = (-1) from by decide) z9)
      exact tail _
    · show GW κ 4 82 21282 (wX q d iX0 aX0 ++ wM r g iM1 aM1 lM1) 1368 [(3, .int 0), (2, .ref (r 0)), (1, .ref (q 0)), (0, .ref b)] [.int (-1), .int (-1)]
      exfalso; omega
    · show GW κ 4 82 21282 (wX q d iX0 aX0 ++ wM r g iM1 aM1 lM1) 1368 [(3, .int 0), (2, .ref (r 0)), (1, .ref (q 0)), (0, .ref b)] [.int (-2), .int (-1)]
      exfalso; omega
    · show GW κ 4 82 21282 (wX q d iX0 aX0 ++ wM r g iM1 aM1 lM1) 1368 [(3, .int 0), (2, .ref (r 0)), (1, .ref (q 0)), (0, .ref b)] [.int (-2), .int (-1)]
      exfalso; omega
  · show GW κ 4 82 21282 (wM r g iM1 aM1 lM1 ++ wX q d iX0 aX0) 1359 [(3, .int 0), (2, .ref (r 0)), (1, .ref (q 0)), (0, .ref b)] [.int (-2)]
    refine g_aload_n hk dL_law_1359 rfl ?_
    refine g_aload_n hk dL_law_1360 rfl ?_
    refine g_iload_n hk dL_law_1361 rfl ?_
    refine g_iconst (v := 1) hk dL_law_1362 (by decide) ?_
    refine g_iadd hk dL_law_1363 ?_
    refine g_norm (v := 1) (by decide) ?_
    refine g_sld (v := xs 1) hk hX (vp_in_iff.mpr ⟨by decide, by show (1 : Int) < (L : Int); omega⟩) rfl dL_law_1364 ?_
    refine g_callV hk (m192_X12_whole l D zt g r (xs 1)) (SP.pre _ _) (fun q h => List.mem_append_right _ h) gL_law_X12_whole rfl rfl rfl (by decide +kernel) ⟨Nat.le_of_ble_eq_true rfl, Nat.le_of_ble_eq_true rfl⟩ 0 rfl rfl rfl rfl (Nat.le_of_ble_eq_true rfl) ⟨Nat.le_of_ble_eq_true rfl, Nat.le_of_ble_eq_true rfl⟩ dL_law_1365 (fun v ty' w' hp hk' => ?_)
    rcases hp with ⟨c3483, rfl, rfl⟩ | ⟨c3484, c3485, rfl, rfl⟩ | ⟨c3486, c3487, c3488, rfl, rfl⟩ | ⟨c3489, c3490, c3491, rfl, rfl⟩
    · show GW κ 4 82 21282 (wX q d iX0 aX0 ++ wM r g iM1 aM1 lM1) 1368 [(3, .int 0), (2, .ref (r 0)), (1, .ref (q 0)), (0, .ref b)] [.int (-1), .int (-2)]
      exfalso; omega
    · show GW κ 4 82 21282 (wX q d iX0 aX0 ++ wM r g iM1 aM1 lM1) 1368 [(3, .int 0), (2, .ref (r 0)), (1, .ref (q 0)), (0, .ref b)] [.int (-1), .int (-2)]
      exfalso; omega
    · show GW κ 4 82 21282 (wX q d iX0 aX0 ++ wM r g iM1 aM1 lM1) 1368 [(3, .int 0), (2, .ref (r 0)), (1, .ref (q 0)), (0, .ref b)] [.int (-2), .int (-2)]
      refine g_icmp_eq (tgt := 1465) (a := (-2)) (b := (-2)) hk dL_law_1368 (by decide) rfl rfl (fun _ => ?_) (fun z9 => absurd (show (-2) = (-2) from by decide) z9)
      exact tail _
    · show GW κ 4 82 21282 (wX q d iX0 aX0 ++ wM r g iM1 aM1 lM1) 1368 [(3, .int 0), (2, .ref (r 0)), (1, .ref (q 0)), (0, .ref b)] [.int (-2), .int (-2)]
      refine g_icmp_eq (tgt := 1465) (a := (-2)) (b := (-2)) hk dL_law_1368 (by decide) rfl rfl (fun _ => ?_) (fun z9 => absurd (show (-2) = (-2) from by decide) z9)
      exact tail _
  · show GW κ 4 82 21282 (wM r g iM1 aM1 lM1 ++ wX q d iX0 aX0) 1359 [(3, .int 0), (2, .ref (r 0)), (1, .ref (q 0)), (0, .ref b)] [.int (-1)]
    refine g_aload_n hk dL_law_1359 rfl ?_
    refine g_aload_n hk dL_law_1360 rfl ?_
    refine g_iload_n hk dL_law_1361 rfl ?_
    refine g_iconst (v := 1) hk dL_law_1362 (by decide) ?_
    refine g_iadd hk dL_law_1363 ?_
    refine g_norm (v := 1) (by decide) ?_
    refine g_sld (v := xs 1) hk hX (vp_in_iff.mpr ⟨by decide, by show (1 : Int) < (L : Int); omega⟩) rfl dL_law_1364 ?_
    refine g_callV hk (m192_X12_whole l D zt g r (xs 1)) (SP.pre _ _) (fun q h => List.mem_append_right _ h) gL_law_X12_whole rfl rfl rfl (by decide +kernel) ⟨Nat.le_of_ble_eq_true rfl, Nat.le_of_ble_eq_true rfl⟩ 0 rfl rfl rfl rfl (Nat.le_of_ble_eq_true rfl) ⟨Nat.le_of_ble_eq_true rfl, Nat.le_of_ble_eq_true rfl⟩ dL_law_1365 (fun v ty' w' hp hk' => ?_)
    rcases hp with ⟨c3492, rfl, rfl⟩ | ⟨c3493, c3494, rfl, rfl⟩ | ⟨c3495, c3496, c3497, rfl, rfl⟩ | ⟨c3498, c3499, c3500, rfl, rfl⟩
    · show GW κ 4 82 21282 (wX q d iX0 aX0 ++ wM r g iM1 aM1 lM1) 1368 [(3, .int 0), (2, .ref (r 0)), (1, .ref (q 0)), (0, .ref b)] [.int (-1), .int (-1)]
      exfalso; omega
    · show GW κ 4 82 21282 (wX q d iX0 aX0 ++ wM r g iM1 aM1 lM1) 1368 [(3, .int 0), (2, .ref (r 0)), (1, .ref (q 0)), (0, .ref b)] [.int (-1), .int (-1)]
      refine g_icmp_eq (tgt := 1465) (a := (-1)) (b := (-1)) hk dL_law_1368 (by decide) rfl rfl (fun _ => ?_) (fun z9 => absurd (show (-1) = (-1) from by decide) z9)
      exact tail _
    · show GW κ 4 82 21282 (wX q d iX0 aX0 ++ wM r g iM1 aM1 lM1) 1368 [(3, .int 0), (2, .ref (r 0)), (1, .ref (q 0)), (0, .ref b)] [.int (-2), .int (-1)]
      exfalso; omega
    · show GW κ 4 82 21282 (wX q d iX0 aX0 ++ wM r g iM1 aM1 lM1) 1368 [(3, .int 0), (2, .ref (r 0)), (1, .ref (q 0)), (0, .ref b)] [.int (-2), .int (-1)]
      exfalso; omega
set_option maxHeartbeats 4000000 in
set_option maxRecDepth 100000 in
theorem law_37 {κ : Cx} {l : Launch} {D : va_G} {zt : Nat × Nat × Nat} {q r : Nat → Nat} {d g : Nat → ClassId} {b L : Nat} {xs : Nat → Int32} (hk : GC κ l D zt code 4 RL wsL_law (tyX d ++ tyM g) room_1) (hX : GX κ b L xs) (hL6 : L = 6) (tail : ∀ ws, GW κ 4 82 21282 ws 1465 [(3, .int 0), (2, .ref (r 0)), (1, .ref (q 0)), (0, .ref b)] []) : GW κ 4 82 21282 (wX q d iX0 aX0 ++ wM r g iM1 aM1 lM1) 1373 [(3, .int 0), (2, .ref (r 0)), (1, .ref (q 0)), (0, .ref b)] [] := by
  refine g_aload_n hk dL_law_1373 rfl ?_
  refine g_aload_n hk dL_law_1374 rfl ?_
  refine g_iload_n hk dL_law_1375 rfl ?_
  refine g_iconst (v := 1) hk dL_law_1376 (by decide) ?_
  refine g_iadd hk dL_law_1377 ?_
  refine g_norm (v := 1) (by decide) ?_
  refine g_sld (v := xs 1) hk hX (vp_in_iff.mpr ⟨by decide, by show (1 : Int) < (L : Int); omega⟩) rfl dL_law_1378 ?_
  refine g_callV hk (m307_X11_fired l D zt d q (xs 1)) (SP.pre _ _) (fun q h => List.mem_append_left _ h) gL_law_X11_fired rfl rfl rfl (by decide +kernel) ⟨Nat.le_of_ble_eq_true rfl, Nat.le_of_ble_eq_true rfl⟩ 0 rfl rfl rfl rfl (Nat.le_of_ble_eq_true rfl) ⟨Nat.le_of_ble_eq_true rfl, Nat.le_of_ble_eq_true rfl⟩ dL_law_1379 (fun v ty' w' hp hk' => ?_)
  rcases hp with ⟨c3501, rfl, rfl⟩ | ⟨c3502, rfl, rfl⟩
  · show GW κ 4 82 21282 (wM r g iM1 aM1 lM1 ++ wX q d iX0 aX0) 1382 [(3, .int 0), (2, .ref (r 0)), (1, .ref (q 0)), (0, .ref b)] [.int 0]
    refine g_aload_n hk dL_law_1382 rfl ?_
    refine g_aload_n hk dL_law_1383 rfl ?_
    refine g_iload_n hk dL_law_1384 rfl ?_
    refine g_iconst (v := 1) hk dL_law_1385 (by decide) ?_
    refine g_iadd hk dL_law_1386 ?_
    refine g_norm (v := 1) (by decide) ?_
    refine g_sld (v := xs 1) hk hX (vp_in_iff.mpr ⟨by decide, by show (1 : Int) < (L : Int); omega⟩) rfl dL_law_1387 ?_
    refine g_callV hk (m193_X12_fired l D zt g r (xs 1)) (SP.pre _ _) (fun q h => List.mem_append_right _ h) gL_law_X12_fired rfl rfl rfl (by decide +kernel) ⟨Nat.le_of_ble_eq_true rfl, Nat.le_of_ble_eq_true rfl⟩ 0 rfl rfl rfl rfl (Nat.le_of_ble_eq_true rfl) ⟨Nat.le_of_ble_eq_true rfl, Nat.le_of_ble_eq_true rfl⟩ dL_law_1388 (fun v ty' w' hp hk' => ?_)
    rcases hp with ⟨c3503, rfl, rfl⟩ | ⟨c3504, rfl, rfl⟩
    · show GW κ 4 82 21282 (wX q d iX0 aX0 ++ wM r g iM1 (up2 aM1 18 (cp (aM1 17) (aM1 18) 165)) lM1) 1391 [(3, .int 0), (2, .ref (r 0)), (1, .ref (q 0)), (0, .ref b)] [.int 0, .int 0]
      refine g_icmp_eq (tgt := 1465) (a := 0) (b := 0) hk dL_law_1391 (by decide) rfl rfl (fun _ => ?_) (fun z9 => absurd (show 0 = 0 from by decide) z9)
      exact tail _
    · show GW κ 4 82 21282 (wX q d iX0 aX0 ++ wM r g iM1 aM1 lM1) 1391 [(3, .int 0), (2, .ref (r 0)), (1, .ref (q 0)), (0, .ref b)] [.int (-1), .int 0]
      exfalso; omega
  · show GW κ 4 82 21282 (wM r g iM1 aM1 lM1 ++ wX q d iX0 aX0) 1382 [(3, .int 0), (2, .ref (r 0)), (1, .ref (q 0)), (0, .ref b)] [.int (-1)]
    refine g_aload_n hk dL_law_1382 rfl ?_
    refine g_aload_n hk dL_law_1383 rfl ?_
    refine g_iload_n hk dL_law_1384 rfl ?_
    refine g_iconst (v := 1) hk dL_law_1385 (by decide) ?_
    refine g_iadd hk dL_law_1386 ?_
    refine g_norm (v := 1) (by decide) ?_
    refine g_sld (v := xs 1) hk hX (vp_in_iff.mpr ⟨by decide, by show (1 : Int) < (L : Int); omega⟩) rfl dL_law_1387 ?_
    refine g_callV hk (m193_X12_fired l D zt g r (xs 1)) (SP.pre _ _) (fun q h => List.mem_append_right _ h) gL_law_X12_fired rfl rfl rfl (by decide +kernel) ⟨Nat.le_of_ble_eq_true rfl, Nat.le_of_ble_eq_true rfl⟩ 0 rfl rfl rfl rfl (Nat.le_of_ble_eq_true rfl) ⟨Nat.le_of_ble_eq_true rfl, Nat.le_of_ble_eq_true rfl⟩ dL_law_1388 (fun v ty' w' hp hk' => ?_)
    rcases hp with ⟨c3505, rfl, rfl⟩ | ⟨c3506, rfl, rfl⟩
    · show GW κ 4 82 21282 (wX q d iX0 aX0 ++ wM r g iM1 (up2 aM1 18 (cp (aM1 17) (aM1 18) 165)) lM1) 1391 [(3, .int 0), (2, .ref (r 0)), (1, .ref (q 0)), (0, .ref b)] [.int 0, .int (-1)]
      exfalso; omega
    · show GW κ 4 82 21282 (wX q d iX0 aX0 ++ wM r g iM1 aM1 lM1) 1391 [(3, .int 0), (2, .ref (r 0)), (1, .ref (q 0)), (0, .ref b)] [.int (-1), .int (-1)]
      refine g_icmp_eq (tgt := 1465) (a := (-1)) (b := (-1)) hk dL_law_1391 (by decide) rfl rfl (fun _ => ?_) (fun z9 => absurd (show (-1) = (-1) from by decide) z9)
      exact tail _
set_option maxHeartbeats 4000000 in
set_option maxRecDepth 100000 in
theorem law_38 {κ : Cx} {l : Launch} {D : va_G} {zt : Nat × Nat × Nat} {q r : Nat → Nat} {d g : Nat → ClassId} {b L : Nat} {xs : Nat → Int32} (hk : GC κ l D zt code 4 RL wsL_law (tyX d ++ tyM g) room_1) (hX : GX κ b L xs) (hL6 : L = 6) (tail : ∀ ws, GW κ 4 82 21282 ws 1465 [(3, .int 0), (2, .ref (r 0)), (1, .ref (q 0)), (0, .ref b)] []) : GW κ 4 82 21282 (wX q d iX0 aX0 ++ wM r g iM1 aM1 lM1) 1396 [(3, .int 0), (2, .ref (r 0)), (1, .ref (q 0)), (0, .ref b)] [] := by
  refine g_aload_n hk dL_law_1396 rfl ?_
  refine g_aload_n hk dL_law_1397 rfl ?_
  refine g_iload_n hk dL_law_1398 rfl ?_
  refine g_iconst (v := 1) hk dL_law_1399 (by decide) ?_
  refine g_iadd hk dL_law_1400 ?_
  refine g_norm (v := 1) (by decide) ?_
  refine g_sld (v := xs 1) hk hX (vp_in_iff.mpr ⟨by decide, by show (1 : Int) < (L : Int); omega⟩) rfl dL_law_1401 ?_
  refine g_callV hk (m318_X11_hold l D zt d q (xs 1)) (SP.pre _ _) (fun q h => List.mem_append_left _ h) gL_law_X11_hold rfl rfl rfl (by decide +kernel) ⟨Nat.le_of_ble_eq_true rfl, Nat.le_of_ble_eq_true rfl⟩ 0 rfl rfl rfl rfl (Nat.le_of_ble_eq_true rfl) ⟨Nat.le_of_ble_eq_true rfl, Nat.le_of_ble_eq_true rfl⟩ dL_law_1402 (fun v ty' w' hp hk' => ?_)
  rcases hp with ⟨c3507, rfl, rfl⟩ | ⟨c3508, c3509, c3510, rfl, rfl⟩ | ⟨c3511, c3512, c3513, c3514, rfl, rfl⟩ | ⟨c3515, c3516, c3517, c3518, c3519, rfl, rfl⟩ | ⟨c3520, c3521, rfl, rfl⟩
  · show GW κ 4 82 21282 (wM r g iM1 aM1 lM1 ++ wX q d iX0 aX0) 1405 [(3, .int 0), (2, .ref (r 0)), (1, .ref (q 0)), (0, .ref b)] [.int 0]
    refine g_aload_n hk dL_law_1405 rfl ?_
    refine g_aload_n hk dL_law_1406 rfl ?_
    refine g_iload_n hk dL_law_1407 rfl ?_
    refine g_iconst (v := 1) hk dL_law_1408 (by decide) ?_
    refine g_iadd hk dL_law_1409 ?_
    refine g_norm (v := 1) (by decide) ?_
    refine g_sld (v := xs 1) hk hX (vp_in_iff.mpr ⟨by decide, by show (1 : Int) < (L : Int); omega⟩) rfl dL_law_1410 ?_
    refine g_callV hk (m194_X12_hold l D zt g r (xs 1)) (SP.pre _ _) (fun q h => List.mem_append_right _ h) gL_law_X12_hold rfl rfl rfl (by decide +kernel) ⟨Nat.le_of_ble_eq_true rfl, Nat.le_of_ble_eq_true rfl⟩ 0 rfl rfl rfl rfl (Nat.le_of_ble_eq_true rfl) ⟨Nat.le_of_ble_eq_true rfl, Nat.le_of_ble_eq_true rfl⟩ dL_law_1411 (fun v ty' w' hp hk' => ?_)
    rcases hp with ⟨c3522, rfl, rfl⟩ | ⟨c3523, c3524, rfl, rfl⟩ | ⟨y3525, c3526, c3527, c3528, rfl, rfl⟩ | ⟨y3529, c3530, c3531, c3532, c3533, rfl, rfl⟩ | ⟨y3534, c3535, c3536, c3537, c3538, c3539, rfl, rfl⟩
    · show GW κ 4 82 21282 (wX q d iX0 aX0 ++ wM r g iM1 aM1 lM1) 1414 [(3, .int 0), (2, .ref (r 0)), (1, .ref (q 0)), (0, .ref b)] [.int 0, .int 0]
      refine g_icmp_eq (tgt := 1465) (a := 0) (b := 0) hk dL_law_1414 (by decide) rfl rfl (fun _ => ?_) (fun z9 => absurd (show 0 = 0 from by decide) z9)
      exact tail _
    · show GW κ 4 82 21282 (wX q d iX0 aX0 ++ wM r g iM1 aM1 lM1) 1414 [(3, .int 0), (2, .ref (r 0)), (1, .ref (q 0)), (0, .ref b)] [.int 0, .int 0]
      exfalso; omega
    · show GW κ 4 82 21282 (wX q d iX0 aX0 ++ wM r g iM1 (up2 (up3 aM1 27 0 1) 28 y3525) lM1) 1414 [(3, .int 0), (2, .ref (r 0)), (1, .ref (q 0)), (0, .ref b)] [.int 1, .int 0]
      exfalso; omega
    · show GW κ 4 82 21282 (wX q d iX0 aX0 ++ wM r g iM1 (up2 (up3 aM1 27 1 1) 28 y3529) lM1) 1414 [(3, .int 0), (2, .ref (r 0)), (1, .ref (q 0)), (0, .ref b)] [.int 1, .int 0]
      exfalso; omega
    · show GW κ 4 82 21282 (wX q d iX0 aX0 ++ wM r g iM1 (up2 (up3 aM1 27 2 1) 28 y3534) lM1) 1414 [(3, .int 0), (2, .ref (r 0)), (1, .ref (q 0)), (0, .ref b)] [.int 1, .int 0]
      exfalso; omega
  · show GW κ 4 82 21282 (wM r g iM1 aM1 lM1 ++ wX q d (upd iX0 23 1) aX0) 1405 [(3, .int 0), (2, .ref (r 0)), (1, .ref (q 0)), (0, .ref b)] [.int 1]
    refine g_aload_n hk dL_law_1405 rfl ?_
    refine g_aload_n hk dL_law_1406 rfl ?_
    refine g_iload_n hk dL_law_1407 rfl ?_
    refine g_iconst (v := 1) hk dL_law_1408 (by decide) ?_
    refine g_iadd hk dL_law_1409 ?_
    refine g_norm (v := 1) (by decide) ?_
    refine g_sld (v := xs 1) hk hX (vp_in_iff.mpr ⟨by decide, by show (1 : Int) < (L : Int); omega⟩) rfl dL_law_1410 ?_
    refine g_callV hk (m194_X12_hold l D zt g r (xs 1)) (SP.pre _ _) (fun q h => List.mem_append_right _ h) gL_law_X12_hold rfl rfl rfl (by decide +kernel) ⟨Nat.le_of_ble_eq_true rfl, Nat.le_of_ble_eq_true rfl⟩ 0 rfl rfl rfl rfl (Nat.le_of_ble_eq_true rfl) ⟨Nat.le_of_ble_eq_true rfl, Nat.le_of_ble_eq_true rfl⟩ dL_law_1411 (fun v ty' w' hp hk' => ?_)
    rcases hp with ⟨c3540, rfl, rfl⟩ | ⟨c3541, c3542, rfl, rfl⟩ | ⟨y3543, c3544, c3545, c3546, rfl, rfl⟩ | ⟨y3547, c3548, c3549, c3550, c3551, rfl, rfl⟩ | ⟨y3552, c3553, c3554, c3555, c3556, c3557, rfl, rfl⟩
    · show GW κ 4 82 21282 (wX q d (upd iX0 23 1) aX0 ++ wM r g iM1 aM1 lM1) 1414 [(3, .int 0), (2, .ref (r 0)), (1, .ref (q 0)), (0, .ref b)] [.int 0, .int 1]
      exfalso; omega
    · show GW κ 4 82 21282 (wX q d (upd iX0 23 1) aX0 ++ wM r g iM1 aM1 lM1) 1414 [(3, .int 0), (2, .ref (r 0)), (1, .ref (q 0)), (0, .ref b)] [.int 0, .int 1]
      exfalso; omega
    · show GW κ 4 82 21282 (wX q d (upd iX0 23 1) aX0 ++ wM r g iM1 (up2 (up3 aM1 27 0 1) 28 y3543) lM1) 1414 [(3, .int 0), (2, .ref (r 0)), (1, .ref (q 0)), (0, .ref b)] [.int 1, .int 1]
      refine g_icmp_eq (tgt := 1465) (a := 1) (b := 1) hk dL_law_1414 (by decide) rfl rfl (fun _ => ?_) (fun z9 => absurd (show 1 = 1 from by decide) z9)
      exact tail _
    · show GW κ 4 82 21282 (wX q d (upd iX0 23 1) aX0 ++ wM r g iM1 (up2 (up3 aM1 27 1 1) 28 y3547) lM1) 1414 [(3, .int 0), (2, .ref (r 0)), (1, .ref (q 0)), (0, .ref b)] [.int 1, .int 1]
      exfalso; omega
    · show GW κ 4 82 21282 (wX q d (upd iX0 23 1) aX0 ++ wM r g iM1 (up2 (up3 aM1 27 2 1) 28 y3552) lM1) 1414 [(3, .int 0), (2, .ref (r 0)), (1, .ref (q 0)), (0, .ref b)] [.int 1, .int 1]
      exfalso; omega
  · show GW κ 4 82 21282 (wM r g iM1 aM1 lM1 ++ wX q d (upd iX0 25 1) aX0) 1405 [(3, .int 0), (2, .ref (r 0)), (1, .ref (q 0)), (0, .ref b)] [.int 1]
    refine g_aload_n hk dL_law_1405 rfl ?_
    refine g_aload_n hk dL_law_1406 rfl ?_
    refine g_iload_n hk dL_law_1407 rfl ?_
    refine g_iconst (v := 1) hk dL_law_1408 (by decide) ?_
    refine g_iadd hk dL_law_1409 ?_
    refine g_norm (v := 1) (by decide) ?_
    refine g_sld (v := xs 1) hk hX (vp_in_iff.mpr ⟨by decide, by show (1 : Int) < (L : Int); omega⟩) rfl dL_law_1410 ?_
    refine g_callV hk (m194_X12_hold l D zt g r (xs 1)) (SP.pre _ _) (fun q h => List.mem_append_right _ h) gL_law_X12_hold rfl rfl rfl (by decide +kernel) ⟨Nat.le_of_ble_eq_true rfl, Nat.le_of_ble_eq_true rfl⟩ 0 rfl rfl rfl rfl (Nat.le_of_ble_eq_true rfl) ⟨Nat.le_of_ble_eq_true rfl, Nat.le_of_ble_eq_true rfl⟩ dL_law_1411 (fun v ty' w' hp hk' => ?_)
    rcases hp with ⟨c3558, rfl, rfl⟩ | ⟨c3559, c3560, rfl, rfl⟩ | ⟨y3561, c3562, c3563, c3564, rfl, rfl⟩ | ⟨y3565, c3566, c3567, c3568, c3569, rfl, rfl⟩ | ⟨y3570, c3571, c3572, c3573, c3574, c3575, rfl, rfl⟩
    · show GW κ 4 82 21282 (wX q d (upd iX0 25 1) aX0 ++ wM r g iM1 aM1 lM1) 1414 [(3, .int 0), (2, .ref (r 0)), (1, .ref (q 0)), (0, .ref b)] [.int 0, .int 1]
      exfalso; omega
    · show GW κ 4 82 21282 (wX q d (upd iX0 25 1) aX0 ++ wM r g iM1 aM1 lM1) 1414 [(3, .int 0), (2, .ref (r 0)), (1, .ref (q 0)), (0, .ref b)] [.int 0, .int 1]
      exfalso; omega
    · show GW κ 4 82 21282 (wX q d (upd iX0 25 1) aX0 ++ wM r g iM1 (up2 (up3 aM1 27 0 1) 28 y3561) lM1) 1414 [(3, .int 0), (2, .ref (r 0)), (1, .ref (q 0)), (0, .ref b)] [.int 1, .int 1]
      exfalso; omega
    · show GW κ 4 82 21282 (wX q d (upd iX0 25 1) aX0 ++ wM r g iM1 (up2 (up3 aM1 27 1 1) 28 y3565) lM1) 1414 [(3, .int 0), (2, .ref (r 0)), (1, .ref (q 0)), (0, .ref b)] [.int 1, .int 1]
      refine g_icmp_eq (tgt := 1465) (a := 1) (b := 1) hk dL_law_1414 (by decide) rfl rfl (fun _ => ?_) (fun z9 => absurd (show 1 = 1 from by decide) z9)
      exact tail _
    · show GW κ 4 82 21282 (wX q d (upd iX0 25 1) aX0 ++ wM r g iM1 (up2 (up3 aM1 27 2 1) 28 y3570) lM1) 1414 [(3, .int 0), (2, .ref (r 0)), (1, .ref (q 0)), (0, .ref b)] [.int 1, .int 1]
      exfalso; omega
  · show GW κ 4 82 21282 (wM r g iM1 aM1 lM1 ++ wX q d (upd iX0 27 1) aX0) 1405 [(3, .int 0), (2, .ref (r 0)), (1, .ref (q 0)), (0, .ref b)] [.int 1]
    refine g_aload_n hk dL_law_1405 rfl ?_
    refine g_aload_n hk dL_law_1406 rfl ?_
    refine g_iload_n hk dL_law_1407 rfl ?_
    refine g_iconst (v := 1) hk dL_law_1408 (by decide) ?_
    refine g_iadd hk dL_law_1409 ?_
    refine g_norm (v := 1) (by decide) ?_
    refine g_sld (v := xs 1) hk hX (vp_in_iff.mpr ⟨by decide, by show (1 : Int) < (L : Int); omega⟩) rfl dL_law_1410 ?_
    refine g_callV hk (m194_X12_hold l D zt g r (xs 1)) (SP.pre _ _) (fun q h => List.mem_append_right _ h) gL_law_X12_hold rfl rfl rfl (by decide +kernel) ⟨Nat.le_of_ble_eq_true rfl, Nat.le_of_ble_eq_true rfl⟩ 0 rfl rfl rfl rfl (Nat.le_of_ble_eq_true rfl) ⟨Nat.le_of_ble_eq_true rfl, Nat.le_of_ble_eq_true rfl⟩ dL_law_1411 (fun v ty' w' hp hk' => ?_)
    rcases hp with ⟨c3576, rfl, rfl⟩ | ⟨c3577, c3578, rfl, rfl⟩ | ⟨y3579, c3580, c3581, c3582, rfl, rfl⟩ | ⟨y3583, c3584, c3585, c3586, c3587, rfl, rfl⟩ | ⟨y3588, c3589, c3590, c3591, c3592, c3593, rfl, rfl⟩
    · show GW κ 4 82 21282 (wX q d (upd iX0 27 1) aX0 ++ wM r g iM1 aM1 lM1) 1414 [(3, .int 0), (2, .ref (r 0)), (1, .ref (q 0)), (0, .ref b)] [.int 0, .int 1]
      exfalso; omega
    · show GW κ 4 82 21282 (wX q d (upd iX0 27 1) aX0 ++ wM r g iM1 aM1 lM1) 1414 [(3, .int 0), (2, .ref (r 0)), (1, .ref (q 0)), (0, .ref b)] [.int 0, .int 1]
      exfalso; omega
    · show GW κ 4 82 21282 (wX q d (upd iX0 27 1) aX0 ++ wM r g iM1 (up2 (up3 aM1 27 0 1) 28 y3579) lM1) 1414 [(3, .int 0), (2, .ref (r 0)), (1, .ref (q 0)), (0, .ref b)] [.int 1, .int 1]
      exfalso; omega
    · show GW κ 4 82 21282 (wX q d (upd iX0 27 1) aX0 ++ wM r g iM1 (up2 (up3 aM1 27 1 1) 28 y3583) lM1) 1414 [(3, .int 0), (2, .ref (r 0)), (1, .ref (q 0)), (0, .ref b)] [.int 1, .int 1]
      exfalso; omega
    · show GW κ 4 82 21282 (wX q d (upd iX0 27 1) aX0 ++ wM r g iM1 (up2 (up3 aM1 27 2 1) 28 y3588) lM1) 1414 [(3, .int 0), (2, .ref (r 0)), (1, .ref (q 0)), (0, .ref b)] [.int 1, .int 1]
      refine g_icmp_eq (tgt := 1465) (a := 1) (b := 1) hk dL_law_1414 (by decide) rfl rfl (fun _ => ?_) (fun z9 => absurd (show 1 = 1 from by decide) z9)
      exact tail _
  · show GW κ 4 82 21282 (wM r g iM1 aM1 lM1 ++ wX q d iX0 aX0) 1405 [(3, .int 0), (2, .ref (r 0)), (1, .ref (q 0)), (0, .ref b)] [.int 0]
    refine g_aload_n hk dL_law_1405 rfl ?_
    refine g_aload_n hk dL_law_1406 rfl ?_
    refine g_iload_n hk dL_law_1407 rfl ?_
    refine g_iconst (v := 1) hk dL_law_1408 (by decide) ?_
    refine g_iadd hk dL_law_1409 ?_
    refine g_norm (v := 1) (by decide) ?_
    refine g_sld (v := xs 1) hk hX (vp_in_iff.mpr ⟨by decide, by show (1 : Int) < (L : Int); omega⟩) rfl dL_law_1410 ?_
    refine g_callV hk (m194_X12_hold l D zt g r (xs 1)) (SP.pre _ _) (fun q h => List.mem_append_right _ h) gL_law_X12_hold rfl rfl rfl (by decide +kernel) ⟨Nat.le_of_ble_eq_true rfl, Nat.le_of_ble_eq_true rfl⟩ 0 rfl rfl rfl rfl (Nat.le_of_ble_eq_true rfl) ⟨Nat.le_of_ble_eq_true rfl, Nat.le_of_ble_eq_true rfl⟩ dL_law_1411 (fun v ty' w' hp hk' => ?_)
    rcases hp with ⟨c3594, rfl, rfl⟩ | ⟨c3595, c3596, rfl, rfl⟩ | ⟨y3597, c3598, c3599, c3600, rfl, rfl⟩ | ⟨y3601, c3602, c3603, c3604, c3605, rfl, rfl⟩ | ⟨y3606, c3607, c3608, c3609, c3610, c3611, rfl, rfl⟩
    · show GW κ 4 82 21282 (wX q d iX0 aX0 ++ wM r g iM1 aM1 lM1) 1414 [(3, .int 0), (2, .ref (r 0)), (1, .ref (q 0)), (0, .ref b)] [.int 0, .int 0]
      exfalso; omega
    · show GW κ 4 82 21282 (wX q d iX0 aX0 ++ wM r g iM1 aM1 lM1) 1414 [(3, .int 0), (2, .ref (r 0)), (1, .ref (q 0)), (0, .ref b)] [.int 0, .int 0]
      refine g_icmp_eq (tgt := 1465) (a := 0) (b := 0) hk dL_law_1414 (by decide) rfl rfl (fun _ => ?_) (fun z9 => absurd (show 0 = 0 from by decide) z9)
      exact tail _
    · show GW κ 4 82 21282 (wX q d iX0 aX0 ++ wM r g iM1 (up2 (up3 aM1 27 0 1) 28 y3597) lM1) 1414 [(3, .int 0), (2, .ref (r 0)), (1, .ref (q 0)), (0, .ref b)] [.int 1, .int 0]
      exfalso; omega
    · show GW κ 4 82 21282 (wX q d iX0 aX0 ++ wM r g iM1 (up2 (up3 aM1 27 1 1) 28 y3601) lM1) 1414 [(3, .int 0), (2, .ref (r 0)), (1, .ref (q 0)), (0, .ref b)] [.int 1, .int 0]
      exfalso; omega
    · show GW κ 4 82 21282 (wX q d iX0 aX0 ++ wM r g iM1 (up2 (up3 aM1 27 2 1) 28 y3606) lM1) 1414 [(3, .int 0), (2, .ref (r 0)), (1, .ref (q 0)), (0, .ref b)] [.int 1, .int 0]
      exfalso; omega
set_option maxHeartbeats 4000000 in
set_option maxRecDepth 100000 in
theorem law_39 {κ : Cx} {l : Launch} {D : va_G} {zt : Nat × Nat × Nat} {q r : Nat → Nat} {d g : Nat → ClassId} {b L : Nat} {xs : Nat → Int32} (hk : GC κ l D zt code 4 RL wsL_law (tyX d ++ tyM g) room_1) (hX : GX κ b L xs) (hL6 : L = 6) (tail : ∀ ws, GW κ 4 82 21282 ws 1465 [(3, .int 0), (2, .ref (r 0)), (1, .ref (q 0)), (0, .ref b)] []) : GW κ 4 82 21282 (wX q d iX0 aX0 ++ wM r g iM1 aM1 lM1) 1419 [(3, .int 0), (2, .ref (r 0)), (1, .ref (q 0)), (0, .ref b)] [] := by
  refine g_aload_n hk dL_law_1419 rfl ?_
  refine g_aload_n hk dL_law_1420 rfl ?_
  refine g_iload_n hk dL_law_1421 rfl ?_
  refine g_iconst (v := 1) hk dL_law_1422 (by decide) ?_
  refine g_iadd hk dL_law_1423 ?_
  refine g_norm (v := 1) (by decide) ?_
  refine g_sld (v := xs 1) hk hX (vp_in_iff.mpr ⟨by decide, by show (1 : Int) < (L : Int); omega⟩) rfl dL_law_1424 ?_
  refine g_callV hk (m319_X11_restore l D zt d q (xs 1)) (SP.pre _ _) (fun q h => List.mem_append_left _ h) gL_law_X11_restore rfl rfl rfl (by decide +kernel) ⟨Nat.le_of_ble_eq_true rfl, Nat.le_of_ble_eq_true rfl⟩ 0 rfl rfl rfl rfl (Nat.le_of_ble_eq_true rfl) ⟨Nat.le_of_ble_eq_true rfl, Nat.le_of_ble_eq_true rfl⟩ dL_law_1425 (fun v ty' w' hp hk' => ?_)
  obtain ⟨rfl, rfl⟩ := hp
  show GW κ 4 82 21282 (wM r g iM1 aM1 lM1 ++ wX q d iX0 aX0) 1428 [(3, .int 0), (2, .ref (r 0)), (1, .ref (q 0)), (0, .ref b)] [.int 0]
  refine g_aload_n hk dL_law_1428 rfl ?_
  refine g_aload_n hk dL_law_1429 rfl ?_
  refine g_iload_n hk dL_law_1430 rfl ?_
  refine g_iconst (v := 1) hk dL_law_1431 (by decide) ?_
  refine g_iadd hk dL_law_1432 ?_
  refine g_norm (v := 1) (by decide) ?_
  refine g_sld (v := xs 1) hk hX (vp_in_iff.mpr ⟨by decide, by show (1 : Int) < (L : Int); omega⟩) rfl dL_law_1433 ?_
  refine g_callV hk (m195_X12_restore l D zt g r (xs 1)) (SP.pre _ _) (fun q h => List.mem_append_right _ h) gL_law_X12_restore rfl rfl rfl (by decide +kernel) ⟨Nat.le_of_ble_eq_true rfl, Nat.le_of_ble_eq_true rfl⟩ 0 rfl rfl rfl rfl (Nat.le_of_ble_eq_true rfl) ⟨Nat.le_of_ble_eq_true rfl, Nat.le_of_ble_eq_true rfl⟩ dL_law_1434 (fun v ty' w' hp hk' => ?_)
  obtain ⟨rfl, rfl⟩ := hp
  show GW κ 4 82 21282 (wX q d iX0 aX0 ++ wM r g iM1 aM1 lM1) 1437 [(3, .int 0), (2, .ref (r 0)), (1, .ref (q 0)), (0, .ref b)] [.int 0, .int 0]
  refine g_icmp_eq (tgt := 1465) (a := 0) (b := 0) hk dL_law_1437 (by decide) rfl rfl (fun _ => ?_) (fun z9 => absurd (show 0 = 0 from by decide) z9)
  exact tail _
