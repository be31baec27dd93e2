set_option maxRecDepth 20000 in
theorem wl_r33 : GoodIn lw_tbl wsL_law_r33 := goodIn_p _ [888, 892, 896, 1709, 900, 904] (by decide +kernel) (by decide +kernel)
set_option maxRecDepth 20000 in
theorem wl_r34 : GoodIn lw_tbl wsL_law_r34 := goodIn_p _ [910, 914, 918, 921, 1713, 1717] (by decide +kernel) (by decide +kernel)
set_option maxRecDepth 20000 in
theorem wl_r35 : GoodIn lw_tbl wsL_law_r35 := goodIn_p _ [1722, 1726, 1730, 925, 928, 932] (by decide +kernel) (by decide +kernel)
set_option maxRecDepth 20000 in
theorem wl_r36 : GoodIn lw_tbl wsL_law_r36 := goodIn_p _ [937, 941, 947, 951] (by decide +kernel) (by decide +kernel)
set_option maxRecDepth 20000 in
theorem wl_r37 : GoodIn lw_tbl wsL_law_r37 := goodIn_p _ [955, 960, 964, 1734, 1738, 1742] (by decide +kernel) (by decide +kernel)
set_option maxRecDepth 20000 in
theorem wl_r38 : GoodIn lw_tbl wsL_law_r38 := goodIn_p _ [968, 972, 976, 983, 987] (by decide +kernel) (by decide +kernel)
set_option maxRecDepth 20000 in
theorem wl_r39 : GoodIn lw_tbl wsL_law_r39 := goodIn_p _ [991, 995, 1000, 1004, 1008] (by decide +kernel) (by decide +kernel)
set_option maxRecDepth 20000 in
theorem wl_r40 : GoodIn lw_tbl wsL_law_r40 := goodIn_p _ [1012, 1016, 1754, 1758, 1762, 1766] (by decide +kernel) (by decide +kernel)
set_option maxRecDepth 20000 in
theorem wl_r41 : GoodIn lw_tbl wsL_law_r41 := goodIn_p _ [1770, 1774, 1779, 1783, 1787] (by decide +kernel) (by decide +kernel)
set_option maxRecDepth 20000 in
theorem wl_r42 : GoodIn lw_tbl wsL_law_r42 := goodIn_p _ [1791, 1794, 1798, 1020, 1024, 1028] (by decide +kernel) (by decide +kernel)
set_option maxRecDepth 20000 in
theorem wl_r43 : GoodIn lw_tbl wsL_law_r43 := goodIn_p _ [1032, 1036, 1040, 1802, 1806, 1810] (by decide +kernel) (by decide +kernel)
set_option maxRecDepth 20000 in
theorem wl_r44 : GoodIn lw_tbl wsL_law_r44 := goodIn_p _ [1815, 1044, 1048, 1819, 1823] (by decide +kernel) (by decide +kernel)
set_option maxRecDepth 20000 in
theorem wl_r45 : GoodIn lw_tbl wsL_law_r45 := goodIn_p _ [1116, 1120, 1127] (by decide +kernel) (by decide +kernel)
set_option maxRecDepth 20000 in
theorem wl_r46 : GoodIn lw_tbl wsL_law_r46 := goodIn_p _ [1843, 1847, 1851, 1132, 1136] (by decide +kernel) (by decide +kernel)
set_option maxRecDepth 20000 in
theorem wl_r47 : GoodIn lw_tbl wsL_law_r47 := goodIn_p _ [1142, 1859, 1863, 1146, 1150] (by decide +kernel) (by decide +kernel)
set_option maxRecDepth 20000 in
theorem wl_r48 : GoodIn lw_tbl wsL_law_r48 := goodIn_p _ [1154, 1158, 1162, 1077, 1167, 1171] (by decide +kernel) (by decide +kernel)
set_option maxRecDepth 20000 in
theorem wl_r49 : GoodIn lw_tbl wsL_law_r49 := goodIn_p _ [1867, 1871, 1875, 1175, 1179] (by decide +kernel) (by decide +kernel)
set_option maxRecDepth 20000 in
theorem wl_r50 : GoodIn lw_tbl wsL_law_r50 := goodIn_p _ [1879, 1053, 1057, 1061, 1065, 1831] (by decide +kernel) (by decide +kernel)
set_option maxRecDepth 20000 in
theorem wl_r51 : GoodIn lw_tbl wsL_law_r51 := goodIn_p _ [1835, 1197, 1202, 1855, 1085] (by decide +kernel) (by decide +kernel)
set_option maxRecDepth 20000 in
theorem wl_r52 : GoodIn lw_tbl wsL_law_r52 := goodIn_p _ [1092, 1827, 1250, 1254, 1258] (by decide +kernel) (by decide +kernel)
set_option maxRecDepth 20000 in
theorem wl_r53 : GoodIn lw_tbl wsL_law_r53 := goodIn_p _ [1264, 1268, 1272, 1277] (by decide +kernel) (by decide +kernel)
set_option maxRecDepth 20000 in
theorem wl_r54 : GoodIn lw_tbl wsL_law_r54 := goodIn_p _ [1282, 1918, 1922, 1926, 1288] (by decide +kernel) (by decide +kernel)
set_option maxRecDepth 20000 in
theorem wl_r55 : GoodIn lw_tbl wsL_law_r55 := goodIn_p _ [1292, 1296, 1930, 1300, 1304] (by decide +kernel) (by decide +kernel)
set_option maxRecDepth 20000 in
theorem wl_r56 : GoodIn lw_tbl wsL_law_r56 := goodIn_p _ [1934, 1184, 1188, 1193, 1883] (by decide +kernel) (by decide +kernel)
set_option maxRecDepth 20000 in
theorem wl_r57 : GoodIn lw_tbl wsL_law_r57 := goodIn_p _ [1069, 1073, 1081, 1839, 1096] (by decide +kernel) (by decide +kernel)
set_option maxRecDepth 20000 in
theorem wl_r58 : GoodIn lw_tbl wsL_law_r58 := goodIn_p _ [1100, 1914, 1207, 1212, 1216, 1887] (by decide +kernel) (by decide +kernel)
set_option maxRecDepth 20000 in
theorem wl_r59 : GoodIn lw_tbl wsL_law_r59 := goodIn_p _ [1891, 1220, 1224, 1895, 1230] (by decide +kernel) (by decide +kernel)
set_option maxRecDepth 20000 in
theorem wl_r60 : GoodIn lw_tbl wsL_law_r60 := goodIn_p _ [1234, 1899, 1902, 1242, 1246] (by decide +kernel) (by decide +kernel)
set_option maxRecDepth 20000 in
theorem wl_r61 : GoodIn lw_tbl wsL_law_r61 := goodIn_p _ [1906, 1308, 1312, 1746, 1316, 1320] (by decide +kernel) (by decide +kernel)
set_option maxRecDepth 20000 in
theorem wl_r62 : GoodIn lw_tbl wsL_law_r62 := goodIn_p _ [1324, 1750, 1108, 1112, 1910, 1329] (by decide +kernel) (by decide +kernel)
set_option maxRecDepth 20000 in
theorem wl_r63 : GoodIn lw_tbl wsL_law_r63 := goodIn_p _ [1333, 1938, 1338, 1942, 1342] (by decide +kernel) (by decide +kernel)
set_option maxRecDepth 20000 in
theorem wl_r64 : GoodIn lw_tbl wsL_law_r64 := goodIn_p _ [1346, 1350, 1354, 1946, 1950] (by decide +kernel) (by decide +kernel)
set_option maxRecDepth 20000 in
theorem wl_wsX110 : GoodIn lw_tbl wsX110 := goodIn_p _ [] (by decide +kernel) (by decide +kernel)
set_option maxRecDepth 20000 in
theorem wl_wsX120 : GoodIn lw_tbl wsX120 := goodIn_p _ [] (by decide +kernel) (by decide +kernel)
set_option maxRecDepth 20000 in
theorem wl_wsX100 : GoodIn lw_tbl wsX100 := goodIn_p _ [] (by decide +kernel) (by decide +kernel)
set_option maxRecDepth 20000 in
theorem wl_wsX50 : GoodIn lw_tbl wsX50 := goodIn_p _ [] (by decide +kernel) (by decide +kernel)
set_option maxRecDepth 20000 in
theorem wl_wsX60 : GoodIn lw_tbl wsX60 := goodIn_p _ [] (by decide +kernel) (by decide +kernel)
set_option maxRecDepth 20000 in
theorem wl_wsX40 : GoodIn lw_tbl wsX40 := goodIn_p _ [] (by decide +kernel) (by decide +kernel)
set_option maxRecDepth 20000 in
theorem wl_wsX70 : GoodIn lw_tbl wsX70 := goodIn_p _ [] (by decide +kernel) (by decide +kernel)
set_option maxRecDepth 20000 in
theorem wl_wsX30 : GoodIn lw_tbl wsX30 := goodIn_p _ [] (by decide +kernel) (by decide +kernel)
set_option maxRecDepth 20000 in
theorem wl_wsX80 : GoodIn lw_tbl wsX80 := goodIn_p _ [] (by decide +kernel) (by decide +kernel)
set_option maxRecDepth 20000 in
theorem wl_wsX00 : GoodIn lw_tbl wsX00 := goodIn_p _ [] (by decide +kernel) (by decide +kernel)
set_option maxRecDepth 20000 in
theorem wl_wsX10 : GoodIn lw_tbl wsX10 := goodIn_p _ [] (by decide +kernel) (by decide +kernel)
set_option maxRecDepth 20000 in
theorem wl_wsX90 : GoodIn lw_tbl wsX90 := goodIn_p _ [] (by decide +kernel) (by decide +kernel)
set_option maxRecDepth 20000 in
theorem wl_wsX20 : GoodIn lw_tbl wsX20 := goodIn_p _ [] (by decide +kernel) (by decide +kernel)
theorem wsL_law_in : ∀ w ∈ wsL_law, w ∈ lw_tbl := fun w h => ((goodIn_app (goodIn_app (goodIn_app (goodIn_app (goodIn_app (goodIn_app (goodIn_app (goodIn_app (goodIn_app (goodIn_app (goodIn_app (goodIn_app (goodIn_app (goodIn_app (goodIn_app wl_r1 (goodIn_app wl_r2 (goodIn_app wl_r3 (goodIn_app wl_r4 (goodIn_app wl_r5 (goodIn_app wl_r6 (goodIn_app wl_r7 (goodIn_app wl_r8 (goodIn_app wl_r9 (goodIn_app wl_r10 (goodIn_app wl_r11 (goodIn_app wl_r12 (goodIn_app wl_r13 (goodIn_app wl_r14 (goodIn_app wl_r15 (goodIn_app wl_r16 (goodIn_app wl_r17 (goodIn_app wl_r18 (goodIn_app wl_r19 (goodIn_app wl_r20 (goodIn_app wl_r21 (goodIn_app wl_r22 (goodIn_app wl_r23 (goodIn_app wl_r24 (goodIn_app wl_r25 (goodIn_app wl_r26 (goodIn_app wl_r27 (goodIn_app wl_r28 (goodIn_app wl_r29 (goodIn_app wl_r30 (goodIn_app wl_r31 (goodIn_app wl_r32 (goodIn_app wl_r33 (goodIn_app wl_r34 (goodIn_app wl_r35 (goodIn_app wl_r36 (goodIn_app wl_r37 (goodIn_app wl_r38 (goodIn_app wl_r39 (goodIn_app wl_r40 (goodIn_app wl_r41 (goodIn_app wl_r42 (goodIn_app wl_r43 (goodIn_app wl_r44 (goodIn_app wl_r45 (goodIn_app wl_r46 (goodIn_app wl_r47 (goodIn_app wl_r48 (goodIn_app wl_r49 (goodIn_app wl_r50 (goodIn_app wl_r51 (goodIn_app wl_r52 (goodIn_app wl_r53 (goodIn_app wl_r54 (goodIn_app wl_r55 (goodIn_app wl_r56 (goodIn_app wl_r57 (goodIn_app wl_r58 (goodIn_app wl_r59 (goodIn_app wl_r60 (goodIn_app wl_r61 (goodIn_app wl_r62 (goodIn_app wl_r63 (wl_r64)))))))))))))))))))))))))))))))))))))))))))))))))))))))))))))))) wl_wsX110) wl_wsX120) wl_wsX100) wl_wsX50) wl_wsX60) wl_wsX40) wl_wsX70) wl_wsX30) wl_wsX80) wl_wsX00) wl_wsX10) wl_wsX90) wl_wsX20) (fun _ h => absurd h List.not_mem_nil)) w h).1
