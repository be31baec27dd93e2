set_option maxRecDepth 20000 in
theorem wl_r1 : GoodIn lw_tbl wsL_law_r1 := goodIn_p _ [125, 128] (by decide +kernel) (by decide +kernel)
set_option maxRecDepth 20000 in
theorem wl_r2 : GoodIn lw_tbl wsL_law_r2 := goodIn_p _ [] (by decide +kernel) (by decide +kernel)
set_option maxRecDepth 20000 in
theorem wl_r3 : GoodIn lw_tbl wsL_law_r3 := goodIn_p _ [133, 167] (by decide +kernel) (by decide +kernel)
set_option maxRecDepth 20000 in
theorem wl_r4 : GoodIn lw_tbl wsL_law_r4 := goodIn_p _ [173, 179, 215, 278] (by decide +kernel) (by decide +kernel)
set_option maxRecDepth 20000 in
theorem wl_r5 : GoodIn lw_tbl wsL_law_r5 := goodIn_p _ [300, 326, 332] (by decide +kernel) (by decide +kernel)
set_option maxRecDepth 20000 in
theorem wl_r6 : GoodIn lw_tbl wsL_law_r6 := goodIn_p _ [400, 444] (by decide +kernel) (by decide +kernel)
set_option maxRecDepth 20000 in
theorem wl_r7 : GoodIn lw_tbl wsL_law_r7 := goodIn_p _ [1359] (by decide +kernel) (by decide +kernel)
set_option maxRecDepth 20000 in
theorem wl_r8 : GoodIn lw_tbl wsL_law_r8 := goodIn_p _ [1364, 1367] (by decide +kernel) (by decide +kernel)
set_option maxRecDepth 20000 in
theorem wl_r9 : GoodIn lw_tbl wsL_law_r9 := goodIn_p _ [1370, 1375, 1379, 521, 525] (by decide +kernel) (by decide +kernel)
set_option maxRecDepth 20000 in
theorem wl_r10 : GoodIn lw_tbl wsL_law_r10 := goodIn_p _ [1548, 1552, 529, 1556, 533] (by decide +kernel) (by decide +kernel)
set_option maxRecDepth 20000 in
theorem wl_r11 : GoodIn lw_tbl wsL_law_r11 := goodIn_p _ [537, 541, 545, 549, 553] (by decide +kernel) (by decide +kernel)
set_option maxRecDepth 20000 in
theorem wl_r12 : GoodIn lw_tbl wsL_law_r12 := goodIn_p _ [557, 561, 565, 569, 572] (by decide +kernel) (by decide +kernel)
set_option maxRecDepth 20000 in
theorem wl_r13 : GoodIn lw_tbl wsL_law_r13 := goodIn_p _ [576, 579, 583, 587, 591, 596] (by decide +kernel) (by decide +kernel)
set_option maxRecDepth 20000 in
theorem wl_r14 : GoodIn lw_tbl wsL_law_r14 := goodIn_p _ [600, 604, 608, 614, 618] (by decide +kernel) (by decide +kernel)
set_option maxRecDepth 20000 in
theorem wl_r15 : GoodIn lw_tbl wsL_law_r15 := goodIn_p _ [621, 624, 629, 632, 635, 638] (by decide +kernel) (by decide +kernel)
set_option maxRecDepth 20000 in
theorem wl_r16 : GoodIn lw_tbl wsL_law_r16 := goodIn_p _ [642, 657, 662, 666, 674, 680] (by decide +kernel) (by decide +kernel)
set_option maxRecDepth 20000 in
theorem wl_r17 : GoodIn lw_tbl wsL_law_r17 := goodIn_p _ [684, 688, 692, 696] (by decide +kernel) (by decide +kernel)
set_option maxRecDepth 20000 in
theorem wl_r18 : GoodIn lw_tbl wsL_law_r18 := goodIn_p _ [700, 704, 708, 712, 717, 721] (by decide +kernel) (by decide +kernel)
set_option maxRecDepth 20000 in
theorem wl_r19 : GoodIn lw_tbl wsL_law_r19 := goodIn_p _ [724, 733, 737, 741, 745] (by decide +kernel) (by decide +kernel)
set_option maxRecDepth 20000 in
theorem wl_r20 : GoodIn lw_tbl wsL_law_r20 := goodIn_p _ [749, 754, 759, 763, 768] (by decide +kernel) (by decide +kernel)
set_option maxRecDepth 20000 in
theorem wl_r21 : GoodIn lw_tbl wsL_law_r21 := goodIn_p _ [772, 776, 780, 784, 788] (by decide +kernel) (by decide +kernel)
set_option maxRecDepth 20000 in
theorem wl_r22 : GoodIn lw_tbl wsL_law_r22 := goodIn_p _ [792, 1560, 1564] (by decide +kernel) (by decide +kernel)
set_option maxRecDepth 20000 in
theorem wl_r23 : GoodIn lw_tbl wsL_law_r23 := goodIn_p _ [1568, 1572, 1575, 1578, 1582, 1586] (by decide +kernel) (by decide +kernel)
set_option maxRecDepth 20000 in
theorem wl_r24 : GoodIn lw_tbl wsL_law_r24 := goodIn_p _ [1590, 1594, 1598, 1602, 1606, 1611] (by decide +kernel) (by decide +kernel)
set_option maxRecDepth 20000 in
theorem wl_r25 : GoodIn lw_tbl wsL_law_r25 := goodIn_p _ [1615, 1619, 1623, 1627, 1631, 1635] (by decide +kernel) (by decide +kernel)
set_option maxRecDepth 20000 in
theorem wl_r26 : GoodIn lw_tbl wsL_law_r26 := goodIn_p _ [797, 1639, 801, 1643, 805, 809] (by decide +kernel) (by decide +kernel)
set_option maxRecDepth 20000 in
theorem wl_r27 : GoodIn lw_tbl wsL_law_r27 := goodIn_p _ [1647, 1651, 1655, 1658, 813, 1662] (by decide +kernel) (by decide +kernel)
set_option maxRecDepth 20000 in
theorem wl_r28 : GoodIn lw_tbl wsL_law_r28 := goodIn_p _ [1666, 1670, 818, 822, 827] (by decide +kernel) (by decide +kernel)
set_option maxRecDepth 20000 in
theorem wl_r29 : GoodIn lw_tbl wsL_law_r29 := goodIn_p _ [830, 1674, 1678, 1682, 1686, 834] (by decide +kernel) (by decide +kernel)
set_option maxRecDepth 20000 in
theorem wl_r30 : GoodIn lw_tbl wsL_law_r30 := goodIn_p _ [1690, 838, 842, 846, 850, 1694] (by decide +kernel) (by decide +kernel)
set_option maxRecDepth 20000 in
theorem wl_r31 : GoodIn lw_tbl wsL_law_r31 := goodIn_p _ [1697, 854, 858, 1701, 862] (by decide +kernel) (by decide +kernel)
set_option maxRecDepth 20000 in
theorem wl_r32 : GoodIn lw_tbl wsL_law_r32 := goodIn_p _ [1705, 869, 873, 877, 880, 884] (by decide +kernel) (by decide +kernel)
