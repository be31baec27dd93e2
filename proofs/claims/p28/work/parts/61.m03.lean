noncomputable def bM12_tellQuery_84 (I : Nat → Int32) (A : Nat → Nat → Int32) (y16821 : Int32) : ((Nat → Int32) → (Nat → Nat → Int32) → (Nat → Nat → Int64) → (Int32 × (Nat → Int32) × (Nat → Nat → Int32) × (Nat → Nat → Int64))) → (Nat → Int32) → (Nat → Nat → Int32) → (Nat → Nat → Int64) → (Int32 × (Nat → Int32) × (Nat → Nat → Int32) × (Nat → Nat → Int64)) := fun kk20769 I20481 A20481 L20481 => if fM12_isReading I20481 A20481 L20481 = 0 then if fM12_is I20481 A20481 L20481 4 = 0 then f_bdM (fM12_must I20481 A20481 L20481 4) fun _ I20782 A20782 L20782 => if (I20782 6).toInt ≤ 0 then f_lt (L20782 5 ((I 4).toNatClampNeg)) fun y20796 => f_lt ((I 17) + (1 : Int32)) fun y20797 => if (I 16).toInt = 0 then f_lt ((A 10 0) + (1 : Int32)) fun y20799 => (0, (upd (upd I20782 11 (-2)) 17 y20797), (up3 A20782 10 0 y20799), (up3L L20782 7 ((I 17).toNatClampNeg) y20796)) else dfM else (0, I20782, A20782, L20782) else if 2 ≤ (A20481 11 y16821.toNatClampNeg).toInt then f_bdM (fM12_must I20481 A20481 L20481 4) fun _ I20813 A20813 L20813 => if (I20813 6).toInt ≤ 0 then f_lt (L20813 5 ((I 4).toNatClampNeg)) fun y20827 => f_lt ((I 17) + (1 : Int32)) fun y20828 => if (I 16).toInt = 0 then f_lt ((A 10 0) + (1 : Int32)) fun y20830 => (0, (upd (upd I20813 11 (-2)) 17 y20828), (up3 A20813 10 0 y20830), (up3L L20813 7 ((I 17).toNatClampNeg) y20827)) else dfM else (0, I20813, A20813, L20813) else f_bdM (fM12_wrong I20481 A20481 L20481 6 (I20481 4)) fun _ I20843 A20843 L20843 => f_bdM (fM12_must I20843 A20843 L20843 4) fun _ I20849 A20849 L20849 => if (I20849 6).toInt ≤ 0 then f_lt (L20849 5 ((I 4).toNatClampNeg)) fun y20863 => f_lt ((I 17) + (1 : Int32)) fun y20864 => if (I 16).toInt = 0 then f_lt ((A 10 0) + (1 : Int32)) fun y20866 => (0, (upd (upd I20849 11 (-2)) 17 y20864), (up3 A20849 10 0 y20866), (up3L L20849 7 ((I 17).toNatClampNeg) y20863)) else dfM else (0, I20849, A20849, L20849) else if (A20481 11 y16821.toNatClampNeg).toInt ≠ 16 then if (I20481 6).toInt ≤ 0 then f_lt ((16 : Int32) * y16821) fun y20880 => f_lt (y20880 + (A20481 11 y16821.toNatClampNeg)) fun y20881 => f_bdM (fM12_readingTold I20481 A20481 L20481) fun y20882 I20883 A20883 L20883 => if (I20883 6).toInt ≤ 0 then f_lt ((A20481 11 y16821.toNatClampNeg) + (1 : Int32)) fun y20892 => f_lt ((I20481 11) + (1 : Int32)) fun y20895 => kk20769 (upd I20883 11 y20895) (up3 (up3 A20883 12 (y20881.toNatClampNeg) y20882) 11 (y16821.toNatClampNeg) y20892) L20883 else (0, I20883, (up3 A20883 12 (y20881.toNatClampNeg) y20882), L20883) else (0, I20481, A20481, L20481) else f_bdM (fM12_fail I20481 A20481 L20481 2) fun _ I20906 A20906 L20906 => if (I20906 6).toInt ≤ 0 then f_lt ((16 : Int32) * y16821) fun y20912 => f_lt (y20912 + (A20481 11 y16821.toNatClampNeg)) fun y20913 => f_bdM (fM12_readingTold I20906 A20906 L20906) fun y20914 I20915 A20915 L20915 => if (I20915 6).toInt ≤ 0 then f_lt ((A20481 11 y16821.toNatClampNeg) + (1 : Int32)) fun y20924 => f_lt ((I20481 11) + (1 : Int32)) fun y20927 => kk20769 (upd I20915 11 y20927) (up3 (up3 A20915 12 (y20913.toNatClampNeg) y20914) 11 (y16821.toNatClampNeg) y20924) L20915 else (0, I20915, (up3 A20915 12 (y20913.toNatClampNeg) y20914), L20915) else (0, I20906, A20906, L20906)
noncomputable def bM12_tellQuery_84x (I : Nat → Int32) (A : Nat → Nat → Int32) (y16821 : Int32) : ((Nat → Int32) → (Nat → Nat → Int32) → (Nat → Nat → Int64) → (Int32 × (Nat → Int32) × (Nat → Nat → Int32) × (Nat → Nat → Int64))) → (Nat → Int32) → (Nat → Nat → Int32) → (Nat → Nat → Int64) → (Int32 × (Nat → Int32) × (Nat → Nat → Int32) × (Nat → Nat → Int64)) := fun kk21224 I20955 A20955 L20955 => if fM12_isReading I20955 A20955 L20955 = 0 then if fM12_is I20955 A20955 L20955 4 = 0 then f_bdM (fM12_must I20955 A20955 L20955 4) fun _ I21237 A21237 L21237 => if (I21237 6).toInt ≤ 0 then f_lt (L21237 5 ((I 4).toNatClampNeg)) fun y21251 => f_lt ((I 17) + (1 : Int32)) fun y21252 => if (I 16).toInt = 0 then f_lt ((A 10 0) + (1 : Int32)) fun y21254 => (0, (upd (upd I21237 11 (-2)) 17 y21252), (up3 A21237 10 0 y21254), (up3L L21237 7 ((I 17).toNatClampNeg) y21251)) else dfM else (0, I21237, A21237, L21237) else if 2 ≤ (A20955 11 y16821.toNatClampNeg).toInt then f_bdM (fM12_must I20955 A20955 L20955 4) fun _ I21268 A21268 L21268 => if (I21268 6).toInt ≤ 0 then f_lt (L21268 5 ((I 4).toNatClampNeg)) fun y21282 => f_lt ((I 17) + (1 : Int32)) fun y21283 => if (I 16).toInt = 0 then f_lt ((A 10 0) + (1 : Int32)) fun y21285 => (0, (upd (upd I21268 11 (-2)) 17 y21283), (up3 A21268 10 0 y21285), (up3L L21268 7 ((I 17).toNatClampNeg) y21282)) else dfM else (0, I21268, A21268, L21268) else f_bdM (fM12_wrong I20955 A20955 L20955 6 (I20955 4)) fun _ I21298 A21298 L21298 => f_bdM (fM12_must I21298 A21298 L21298 4) fun _ I21304 A21304 L21304 => if (I21304 6).toInt ≤ 0 then f_lt (L21304 5 ((I 4).toNatClampNeg)) fun y21318 => f_lt ((I 17) + (1 : Int32)) fun y21319 => if (I 16).toInt = 0 then f_lt ((A 10 0) + (1 : Int32)) fun y21321 => (0, (upd (upd I21304 11 (-2)) 17 y21319), (up3 A21304 10 0 y21321), (up3L L21304 7 ((I 17).toNatClampNeg) y21318)) else dfM else (0, I21304, A21304, L21304) else if (A20955 11 y16821.toNatClampNeg).toInt ≠ 16 then if (I20955 6).toInt ≤ 0 then f_lt ((16 : Int32) * y16821) fun y21335 => f_lt (y21335 + (A20955 11 y16821.toNatClampNeg)) fun y21336 => f_bdM (fM12_readingTold I20955 A20955 L20955) fun y21337 I21338 A21338 L21338 => if (I21338 6).toInt ≤ 0 then f_lt ((A20955 11 y16821.toNatClampNeg) + (1 : Int32)) fun y21347 => f_lt ((I20955 11) + (1 : Int32)) fun y21350 => kk21224 (upd I21338 11 y21350) (up3 (up3 A21338 12 (y21336.toNatClampNeg) y21337) 11 (y16821.toNatClampNeg) y21347) L21338 else (0, I21338, (up3 A21338 12 (y21336.toNatClampNeg) y21337), L21338) else (0, I20955, A20955, L20955) else f_bdM (fM12_fail I20955 A20955 L20955 2) fun _ I21361 A21361 L21361 => if (I21361 6).toInt ≤ 0 then f_lt ((16 : Int32) * y16821) fun y21367 => f_lt (y21367 + (A20955 11 y16821.toNatClampNeg)) fun y21368 => f_bdM (fM12_readingTold I21361 A21361 L21361) fun y21369 I21370 A21370 L21370 => if (I21370 6).toInt ≤ 0 then f_lt ((A20955 11 y16821.toNatClampNeg) + (1 : Int32)) fun y21379 => f_lt ((I20955 11) + (1 : Int32)) fun y21382 => kk21224 (upd I21370 11 y21382) (up3 (up3 A21370 12 (y21368.toNatClampNeg) y21369) 11 (y16821.toNatClampNeg) y21379) L21370 else (0, I21370, (up3 A21370 12 (y21368.toNatClampNeg) y21369), L21370) else (0, I21361, A21361, L21361)
noncomputable def bM12_tellQuery_34 (I : Nat → Int32) (A : Nat → Nat → Int32) (y16821 : Int32) (I16825 : Nat → Int32) : (Int32 → (Nat → Int32) → (Nat → Nat → Int32) → (Nat → Nat → Int64) → (Int32 × (Nat → Int32) × (Nat → Nat → Int32) × (Nat → Nat → Int64))) → Int32 → (Nat → Int32) → (Nat → Nat → Int32) → (Nat → Nat → Int64) → (Int32 × (Nat → Int32) × (Nat → Nat → Int32) × (Nat → Nat → Int64)) := fun kk20470 x16835 I16839 A16839 L16839 => if (I 17).toInt ≤ x16835.toInt then itr_IAL dfM (bM12_tellQuery_84 I A y16821) FU I16839 (up3 A16839 11 (y16821.toNatClampNeg) 0) L16839 else if (I16825 6).toInt ≠ 0 then itr_IAL dfM (bM12_tellQuery_84x I A y16821) FU I16839 (up3 A16839 11 (y16821.toNatClampNeg) 0) L16839 else f_lt (L16839 7 (x16835.toNatClampNeg)) fun y21403 => f_lt (L16839 5 ((I 4).toNatClampNeg)) fun y21404 => f_lt (lg_cmp y21403 y21404) fun y21405 => if y21405.toInt ≠ 0 then f_lt (x16835 + Int32.ofInt 1) fun y21408 => kk20470 y21408 I16839 A16839 L16839 else f_bdM (fM12_wrong I16839 A16839 L16839 3 (I 4)) fun _ I21411 A21411 L21411 => f_lt (x16835 + Int32.ofInt 1) fun y21416 => kk20470 y21416 I21411 A21411 L21411
noncomputable def bM12_tellQuery_84xx (I : Nat → Int32) (A : Nat → Nat → Int32) (y21424 : Int32) : ((Nat → Int32) → (Nat → Nat → Int32) → (Nat → Nat → Int64) → (Int32 × (Nat → Int32) × (Nat → Nat → Int32) × (Nat → Nat → Int64))) → (Nat → Int32) → (Nat → Nat → Int32) → (Nat → Nat → Int64) → (Int32 × (Nat → Int32) × (Nat → Nat → Int32) × (Nat → Nat → Int64)) := fun kk25372 I25084 A25084 L25084 => if fM12_isReading I25084 A25084 L25084 = 0 then if fM12_is I25084 A25084 L25084 4 = 0 then f_bdM (fM12_must I25084 A25084 L25084 4) fun _ I25385 A25385 L25385 => if (I25385 6).toInt ≤ 0 then f_lt (L25385 5 ((I 4).toNatClampNeg)) fun y25399 => f_lt ((I 17) + (1 : Int32)) fun y25400 => if (I 16).toInt = 1 then f_lt ((A 10 1) + (1 : Int32)) fun y25402 => (0, (upd (upd I25385 11 (-2)) 17 y25400), (up3 A25385 10 1 y25402), (up3L L25385 7 ((I 17).toNatClampNeg) y25399)) else dfM else (0, I25385, A25385, L25385) else if 2 ≤ (A25084 11 y21424.toNatClampNeg).toInt then f_bdM (fM12_must I25084 A25084 L25084 4) fun _ I25416 A25416 L25416 => if (I25416 6).toInt ≤ 0 then f_lt (L25416 5 ((I 4).toNatClampNeg)) fun y25430 => f_lt ((I 17) + (1 : Int32)) fun y25431 => if (I 16).toInt = 1 then f_lt ((A 10 1) + (1 : Int32)) fun y25433 => (0, (upd (upd I25416 11 (-2)) 17 y25431), (up3 A25416 10 1 y25433), (up3L L25416 7 ((I 17).toNatClampNeg) y25430)) else dfM else (0, I25416, A25416, L25416) else f_bdM (fM12_wrong I25084 A25084 L25084 6 (I25084 4)) fun _ I25446 A25446 L25446 => f_bdM (fM12_must I25446 A25446 L25446 4) fun _ I25452 A25452 L25452 => if (I25452 6).toInt ≤ 0 then f_lt (L25452 5 ((I 4).toNatClampNeg)) fun y25466 => f_lt ((I 17) + (1 : Int32)) fun y25467 => if (I 16).toInt = 1 then f_lt ((A 10 1) + (1 : Int32)) fun y25469 => (0, (upd (upd I25452 11 (-2)) 17 y25467), (up3 A25452 10 1 y25469), (up3L L25452 7 ((I 17).toNatClampNeg) y25466)) else dfM else (0, I25452, A25452, L25452) else if (A25084 11 y21424.toNatClampNeg).toInt ≠ 16 then if (I25084 6).toInt ≤ 0 then f_lt ((16 : Int32) * y21424) fun y25483 => f_lt (y25483 + (A25084 11 y21424.toNatClampNeg)) fun y25484 => f_bdM (fM12_readingTold I25084 A25084 L25084) fun y25485 I25486 A25486 L25486 => if (I25486 6).toInt ≤ 0 then f_lt ((A25084 11 y21424.toNatClampNeg) + (1 : Int32)) fun y25495 => f_lt ((I25084 11) + (1 : Int32)) fun y25498 => kk25372 (upd I25486 11 y25498) (up3 (up3 A25486 12 (y25484.toNatClampNeg) y25485) 11 (y21424.toNatClampNeg) y25495) L25486 else (0, I25486, (up3 A25486 12 (y25484.toNatClampNeg) y25485), L25486) else (0, I25084, A25084, L25084) else f_bdM (fM12_fail I25084 A25084 L25084 2) fun _ I25509 A25509 L25509 => if (I25509 6).toInt ≤ 0 then f_lt ((16 : Int32) * y21424) fun y25515 => f_lt (y25515 + (A25084 11 y21424.toNatClampNeg)) fun y25516 => f_bdM (fM12_readingTold I25509 A25509 L25509) fun y25517 I25518 A25518 L25518 => if (I25518 6).toInt ≤ 0 then f_lt ((A25084 11 y21424.toNatClampNeg) + (1 : Int32)) fun y25527 => f_lt ((I25084 11) + (1 : Int32)) fun y25530 => kk25372 (upd I25518 11 y25530) (up3 (up3 A25518 12 (y25516.toNatClampNeg) y25517) 11 (y21424.toNatClampNeg) y25527) L25518 else (0, I25518, (up3 A25518 12 (y25516.toNatClampNeg) y25517), L25518) else (0, I25509, A25509, L25509)
noncomputable def bM12_tellQuery_84xxx (I : Nat → Int32) (A : Nat → Nat → Int32) (y21424 : Int32) : ((Nat → Int32) → (Nat → Nat → Int32) → (Nat → Nat → Int64) → (Int32 × (Nat → Int32) × (Nat → Nat → Int32) × (Nat → Nat → Int64))) → (Nat → Int32) → (Nat → Nat → Int32) → (Nat → Nat → Int64) → (Int32 × (Nat → Int32) × (Nat → Nat → Int32) × (Nat → Nat → Int64)) := fun kk25827 I25558 A25558 L25558 => if fM12_isReading I25558 A25558 L25558 = 0 then if fM12_is I25558 A25558 L25558 4 = 0 then f_bdM (fM12_must I25558 A25558 L25558 4) fun _ I25840 A25840 L25840 => if (I25840 6).toInt ≤ 0 then f_lt (L25840 5 ((I 4).toNatClampNeg)) fun y25854 => f_lt ((I 17) + (1 : Int32)) fun y25855 => if (I 16).toInt = 1 then f_lt ((A 10 1) + (1 : Int32)) fun y25857 => (0, (upd (upd I25840 11 (-2)) 17 y25855), (up3 A25840 10 1 y25857), (up3L L25840 7 ((I 17).toNatClampNeg) y25854)) else dfM else (0, I25840, A25840, L25840) else if 2 ≤ (A25558 11 y21424.toNatClampNeg).toInt then f_bdM (fM12_must I25558 A25558 L25558 4) fun _ I25871 A25871 L25871 => if (I25871 6).toInt ≤ 0 then f_lt (L25871 5 ((I 4).toNatClampNeg)) fun y25885 => f_lt ((I 17) + (1 : Int32)) fun y25886 => if (I 16).toInt = 1 then f_lt ((A 10 1) + (1 : Int32)) fun y25888 => (0, (upd (upd I25871 11 (-2)) 17 y25886), (up3 A25871 10 1 y25888), (up3L L25871 7 ((I 17).toNatClampNeg) y25885)) else dfM else (0, I25871, A25871, L25871) else f_bdM (fM12_wrong I25558 A25558 L25558 6 (I25558 4)) fun _ I25901 A25901 L25901 => f_bdM (fM12_must I25901 A25901 L25901 4) fun _ I25907 A25907 L25907 => if (I25907 6).toInt ≤ 0 then f_lt (L25907 5 ((I 4).toNatClampNeg)) fun y25921 => f_lt ((I 17) + (1 : Int32)) fun y25922 => if (I 16).toInt = 1 then f_lt ((A 10 1) + (1 : Int32)) fun y25924 => (0, (upd (upd I25907 11 (-2)) 17 y25922), (up3 A25907 10 1 y25924), (up3L L25907 7 ((I 17).toNatClampNeg) y25921)) else dfM else (0, I25907, A25907, L25907) else if (A25558 11 y21424.toNatClampNeg).toInt ≠ 16 then if (I25558 6).toInt ≤ 0 then f_lt ((16 : Int32) * y21424) fun y25938 => f_lt (y25938 + (A25558 11 y21424.toNatClampNeg)) fun y25939 => f_bdM (fM12_readingTold I25558 A25558 L25558) fun y25940 I25941 A25941 L25941 => if (I25941 6).toInt ≤ 0 then f_lt ((A25558 11 y21424.toNatClampNeg) + (1 : Int32)) fun y25950 => f_lt ((I25558 11) + (1 : Int32)) fun y25953 => kk25827 (upd I25941 11 y25953) (up3 (up3 A25941 12 (y25939.toNatClampNeg) y25940) 11 (y21424.toNatClampNeg) y25950) L25941 else (0, I25941, (up3 A25941 12 (y25939.toNatClampNeg) y25940), L25941) else (0, I25558, A25558, L25558) else f_bdM (fM12_fail I25558 A25558 L25558 2) fun _ I25964 A25964 L25964 => if (I25964 6).toInt ≤ 0 then f_lt ((16 : Int32) * y21424) fun y25970 => f_lt (y25970 + (A25558 11 y21424.toNatClampNeg)) fun y25971 => f_bdM (fM12_readingTold I25964 A25964 L25964) fun y25972 I25973 A25973 L25973 => if (I25973 6).toInt ≤ 0 then f_lt ((A25558 11 y21424.toNatClampNeg) + (1 : Int32)) fun y25982 => f_lt ((I25558 11) + (1 : Int32)) fun y25985 => kk25827 (upd I25973 11 y25985) (up3 (up3 A25973 12 (y25971.toNatClampNeg) y25972) 11 (y21424.toNatClampNeg) y25982) L25973 else (0, I25973, (up3 A25973 12 (y25971.toNatClampNeg) y25972), L25973) else (0, I25964, A25964, L25964)
noncomputable def bM12_tellQuery_34x (I : Nat → Int32) (A : Nat → Nat → Int32) (y21424 : Int32) (I21428 : Nat → Int32) : (Int32 → (Nat → Int32) → (Nat → Nat → Int32) → (Nat → Nat → Int64) → (Int32 × (Nat → Int32) × (Nat → Nat → Int32) × (Nat → Nat → Int64))) → Int32 → (Nat → Int32) → (Nat → Nat → Int32) → (Nat → Nat → Int64) → (Int32 × (Nat → Int32) × (Nat → Nat → Int32) × (Nat → Nat → Int64)) := fun kk25073 x21438 I21442 A21442 L21442 => if (I 17).toInt ≤ x21438.toInt then itr_IAL dfM (bM12_tellQuery_84xx I A y21424) FU I21442 (up3 A21442 11 (y21424.toNatClampNeg) 0) L21442 else if (I21428 6).toInt ≠ 0 then itr_IAL dfM (bM12_tellQuery_84xxx I A y21424) FU I21442 (up3 A21442 11 (y21424.toNatClampNeg) 0) L21442 else f_lt (L21442 7 (x21438.toNatClampNeg)) fun y26006 => f_lt (L21442 5 ((I 4).toNatClampNeg)) fun y26007 => f_lt (lg_cmp y26006 y26007) fun y26008 => if y26008.toInt ≠ 0 then f_lt (x21438 + Int32.ofInt 1) fun y26011 => kk25073 y26011 I21442 A21442 L21442 else f_bdM (fM12_wrong I21442 A21442 L21442 3 (I 4)) fun _ I26014 A26014 L26014 => f_lt (x21438 + Int32.ofInt 1) fun y26019 => kk25073 y26019 I26014 A26014 L26014
noncomputable def fM12_tellQuery (I : Nat → Int32) (A : Nat → Nat → Int32) (L : Nat → Nat → Int64) : Int32 × (Nat → Int32) × (Nat → Nat → Int32) × (Nat → Nat → Int64) := if (I 16).toInt = 0 then if (I 16).toInt = 0 then f_lt ((0 : Int32) + (A 10 0)) fun y16821 => f_bdM (fM12_must (upd I 11 0) A L 1) fun _ I16825 A16825 L16825 => itr_iIAL dfM (bM12_tellQuery_34 I A y16821 I16825) FU 0 I16825 A16825 L16825 else dfM else if (I 16).toInt = 1 then if (I 16).toInt = 1 then f_lt ((5 : Int32) + (A 10 1)) fun y21424 => f_bdM (fM12_must (upd I 11 0) A L 1) fun _ I21428 A21428 L21428 => itr_iIAL dfM (bM12_tellQuery_34x I A y21424 I21428) FU 0 I21428 A21428 L21428 else dfM else dfM
def wo_j135_X12_tellQuery : List Cond := [Cond.fieldLink RX12 170 "WarpDeskModel" "here" "I", Cond.fieldLink RX12 200 "WarpDeskModel" "side" "I", Cond.fieldLink RX12 49 "WarpDeskModel" "queries" "[I", Cond.fieldLink RX12 164 "WarpDeskModel" "t" "I", Cond.methodLink RX12 216 yX12_must, Cond.instanceMethod yX12_must, Cond.selects RX12 yX12_must yX12_must, Cond.initialized RX12, Cond.fieldLink RX12 203 "WarpDeskModel" "names" "I", Cond.fieldLink RX12 52 "WarpDeskModel" "queryMany" "[I", Cond.methodLink RX12 235 yX12_isReading, Cond.instanceMethod yX12_isReading, Cond.selects RX12 yX12_isReading yX12_isReading, Cond.methodLink RX12 188 yX12_is, Cond.instanceMethod yX12_is, Cond.selects RX12 yX12_is yX12_is, Cond.fieldLink RX12 161 "WarpDeskModel" "fault" "I", Cond.fieldLink RX12 40 "WarpDeskModel" "nameOf" "[J", Cond.fieldLink RX12 30 "WarpDeskModel" "tName" "[J", Cond.methodLink RX12 231 yX12_wrong, Cond.instanceMethod yX12_wrong, Cond.selects RX12 yX12_wrong yX12_wrong, Cond.fieldLink RX12 55 "WarpDeskModel" "queryAt" "[I", Cond.methodLink RX12 240 yX12_readingTold, Cond.instanceMethod yX12_readingTold, Cond.selects RX12 yX12_readingTold yX12_readingTold, Cond.methodLink RX12 185 yX12_fail, Cond.instanceMethod yX12_fail, Cond.selects RX12 yX12_fail yX12_fail]
def wz_j135_X12_tellQuery : List Cond := .code yX12_tellQuery cX12_tellQuery 4 none :: (wo_j135_X12_tellQuery ++ (wsX120 ++ (wz_j131_X12_must ++ (wz_j130_X12_isReading ++ (wz_j125_X12_is ++ (wz_j134_X12_wrong ++ (wz_j132_X12_readingTold ++ (wz_j128_X12_fail ++ ([] : List Cond)))))))))
theorem zg_j135_X12_tellQuery : ∀ w ∈ wz_j135_X12_tellQuery, goodWord w = true := zg_cons rfl (zg_app (by decide +kernel) (zg_app zgU_wsX120 (zg_app zg_j131_X12_must (zg_app zg_j130_X12_isReading (zg_app zg_j125_X12_is (zg_app zg_j134_X12_wrong (zg_app zg_j132_X12_readingTold (zg_app zg_j128_X12_fail zg_nil))))))))
theorem zi_j135_X12_tellQuery : ∀ w ∈ wz_j135_X12_tellQuery, w ∈ lw_tbl := zi_cons zw_1627 (zi_app (zi_cons zw_1396 (zi_cons zw_1401 (zi_cons zw_1406 (zi_cons zw_1390 (zi_cons zw_1620 (zi_cons zw_1622 (zi_cons zw_61 (zi_cons zw_115 (zi_cons zw_1402 (zi_cons zw_1407 (zi_cons zw_1603 (zi_cons zw_1605 (zi_cons zw_57 (zi_cons zw_1583 (zi_cons zw_1585 (zi_cons zw_52 (zi_cons zw_1391 (zi_cons zw_1403 (zi_cons zw_1387 (zi_cons zw_1616 (zi_cons zw_1618 (zi_cons zw_60 (zi_cons zw_1408 (zi_cons zw_1608 (zi_cons zw_1610 (zi_cons zw_58 (zi_cons zw_1595 (zi_cons zw_1597 (zi_cons zw_55 zi_nil))))))))))))))))))))))))))))) (zi_app inX12 (zi_app zi_j131_X12_must (zi_app zi_j130_X12_isReading (zi_app zi_j125_X12_is (zi_app zi_j134_X12_wrong (zi_app zi_j132_X12_readingTold (zi_app zi_j128_X12_fail zi_nil))))))))
set_option maxHeartbeats 4000000 in
set_option maxRecDepth 100000 in
theorem j135_X12_tellQuery (l : Launch) (D : va_G) (zt : Nat × Nat × Nat × (Nat → Nat) × (Nat → Nat)) (r : Nat → Nat) (g : Nat → ClassId) (I : Nat → Int32) (A : Nat → Nat → Int32) (L : Nat → Nat → Int64) (hIv : IvM I A) (hp0 : (I 15).toInt + (I 16).toInt = 1) (hp1 : (I 16).toInt ≠ 0 ∨ (A 10 0).toInt ≤ 4) (hp2 : (I 16).toInt ≠ 1 ∨ (A 10 1).toInt ≤ 4) : GM l D zt (tyM g) yX12_tellQuery wz_j135_X12_tellQuery ({ frames := 4, cells := 0, slots := 0, locals := 86 } : Room) [.ref (r 0)] (wM r g I A L) (fun v _ w' => ∃ (I' : Nat → Int32) (A' : Nat → Nat → Int32) (L' : Nat → Nat → Int64), Md [4, 6, 7, 8, 9, 11, 12, 13, 17] I I' ∧ Md [10, 11, 12] A A' ∧ IvM I' A' ∧ ((I 4).toInt ≤ (I' 4).toInt) ∧ ((I 6).toInt ≤ (I' 6).toInt) ∧ ((I 8).toInt ≤ 9 * (I' 8).toInt) ∧ FE (fM12_tellQuery I A L) (0, I', A', L') ∧ v = none ∧ w' = wM r g I' A' L') 0 0 := by
  refine GM.of (cc := cX12_tellQuery) (maxL := 4) (ret := none) (own := RX12) (lv := [(0, .ref (r 0))]) (by decide) rfl rfl (Nat.le_of_ble_eq_true rfl) rfl (fun κ sz hk hR hN => ?_)
  have hin12 : ∀ w ∈ u_ws RX12 TX12 55, w ∈ wz_j135_X12_tellQuery := fun w h => (List.mem_cons_of_mem _ (List.mem_append_right _ (List.mem_append_left _ h)))
  have hF : FE (fM12_tellQuery I A L) (fM12_tellQuery I A L) := FE.rf
  refine g_aload_n hk dX12_tellQuery_0 rfl ?_
  refine g_iconst (v := 0) hk dX12_tellQuery_1 (by decide) ?_
  refine pM_i11 hk hin12 (List.mem_cons_of_mem _ (List.mem_append_left _ (List.mem_of_getElem? (i := 0) rfl))) dX12_tellQuery_2 ?_
  refine g_iconst (v := 5) hk dX12_tellQuery_5 (by decide) ?_
  refine g_aload_n hk dX12_tellQuery_6 rfl ?_
  refine gM_i16 (v := (I 16)) hk hin12 (List.mem_cons_of_mem _ (List.mem_append_left _ (List.mem_of_getElem? (i := 1) rfl))) dX12_tellQuery_7 rfl ?_
  have f16817 := IvM_f16 hIv
  by_cases c16818 : (I 16).toInt = 0
  · have ec16818 : (I 16) = 0 := Int32.toInt_inj.mp c16818
    replace hF := FE.pos hF c16818
    rw [ec16818]
    show GW κ 4 0 0 (wM r g (upd I 11 0) A L) 10 [(0, .ref (r 0))] [.int 0, .int 5]
    refine g_imul hk dX12_tellQuery_10 ?_
    refine g_norm (v := 0) (by decide) ?_
    refine g_aload_n hk dX12_tellQuery_11 rfl ?_
    refine gM_r0_28 hk hin12 (List.mem_cons_of_mem _ (List.mem_append_left _ (List.mem_of_getElem? (i := 2) rfl))) dX12_tellQuery_12 ?_
    refine g_aload_n hk dX12_tellQuery_15 rfl ?_
    refine gM_i16 (v := (I 16)) hk hin12 (List.mem_cons_of_mem _ (List.mem_append_left _ (List.mem_of_getElem? (i := 1) rfl))) dX12_tellQuery_16 rfl ?_
    by_cases c16819 : (I 16).toInt = 0
    · have ec16819 : (I 16) = 0 := Int32.toInt_inj.mp c16819
      replace hF := FE.pos hF c16819
      rw [ec16819]
      show GW κ 4 0 0 (wM r g (upd I 11 0) A L) 19 [(0, .ref (r 0))] [.int 0, .ref (r 11), .int 0]
      refine lM_10 (v := (A 10 0)) hk (vp_in_iff.mpr ⟨by decide, by decide⟩) rfl dX12_tellQuery_19 ?_
      have f16820 := IvM_s10_0 hIv
      refine g_iadd hk dX12_tellQuery_20 ?_
      refine g_topi (fun y16821 ey16821 => ?_)
      replace hF := FE.lt hF ey16821
      have hy16821 : y16821.toInt = 0 + (A 10 0).toInt := i32_add ey16821 rfl rfl (by omega) (by omega)
      refine g_istore_n (lv' := [(1, .int y16821), (0, .ref (r 0))]) hk dX12_tellQuery_21 (by decide) rfl ?_
      refine g_aload_n hk dX12_tellQuery_22 rfl ?_
      refine gM_i4 (v := (I 4)) hk hin12 (List.mem_cons_of_mem _ (List.mem_append_left _ (List.mem_of_getElem? (i := 3) rfl))) dX12_tellQuery_23 rfl ?_
      have f16822 := IvM_f4 hIv
      refine g_istore_n (lv' := [(2, .int (I 4)), (1, .int y16821), (0, .ref (r 0))]) hk dX12_tellQuery_26 (by decide) rfl ?_
      refine g_aload_n hk dX12_tellQuery_27 rfl ?_
      refine g_iconst (v := 1) hk dX12_tellQuery_28 (by decide) ?_
      have k16823 : (1 : Int32).toInt = 1 := rfl
      refine g_callV (n := 1) hk (j131_X12_must l D zt r g (upd I 11 0) A L 1 ⟨(IvM_f1 (I := I) (A := A) hIv), (IvM_f2 (I := I) (A := A) hIv), (IvM_f3 (I := I) (A := A) hIv), (IvM_f4 (I := I) (A := A) hIv), (IvM_f6 (I := I) (A := A) hIv), (IvM_f8 (I := I) (A := A) hIv), (IvM_f15 (I := I) (A := A) hIv), (IvM_f16 (I := I) (A := A) hIv), (IvM_f17 (I := I) (A := A) hIv), (IvM_f18 (I := I) (A := A) hIv), (IvM_f22 (I := I) (A := A) hIv), (IvM_f23 (I := I) (A := A) hIv), (IvM_f24 (I := I) (A := A) hIv), (IvM_a11 (I := I) (A := A) hIv), (IvM_a26 (I := I) (A := A) hIv), (IvM_s8_0 (I := I) (A := A) hIv), (IvM_s8_1 (I := I) (A := A) hIv), (IvM_s10_0 (I := I) (A := A) hIv), (IvM_s10_1 (I := I) (A := A) hIv), (IvM_s17_0 (I := I) (A := A) hIv), (IvM_s17_164 (I := I) (A := A) hIv), (IvM_lv (I := I) (A := A) hIv), (IvM_sd (I := I) (A := A) hIv), (IvM_nq (I := I) (A := A) hIv), (IvM_hr (I := I) (A := A) hIv), (IvM_hh (I := I) (A := A) hIv), trivial⟩) (SP.same _) (fun _ h => h) (gi_V (List.mem_cons_of_mem _ (List.mem_append_left _ (List.mem_of_getElem? (i := 4) rfl))) (List.mem_cons_of_mem _ (List.mem_append_left _ (List.mem_of_getElem? (i := 5) rfl))) (List.mem_cons_of_mem _ (List.mem_append_left _ (List.mem_of_getElem? (i := 6) rfl))) (List.mem_cons_of_mem _ (List.mem_append_left _ (List.mem_of_getElem? (i := 7) rfl))) (gi_sub (fun w h => (List.mem_cons_of_mem _ (List.mem_append_right _ (List.mem_append_right _ (List.mem_append_left _ h))))) zg_j131_X12_must)) rfl rfl rfl (by decide +kernel) ⟨Nat.le_of_ble_eq_true rfl, Nat.le_of_ble_eq_true rfl⟩ 0 rfl rfl rfl rfl (Nat.le_of_ble_eq_true rfl) ⟨Nat.le_of_ble_eq_true rfl, Nat.le_of_ble_eq_true rfl⟩ dX12_tellQuery_29 (fun v ty' w' hp hk' => ?_)
      obtain ⟨I16825, A16825, L16825, hI16825, hA16825, hV16825, r16826, r16827, r16828, r16829, r16830, hL16825, hC, rfl, rfl⟩ := hp
      replace hF := FE.bdM hF hC
      have f16831 := IvM_f4 hV16825
      rw [show ((upd I 11 0) 4) = (I 4) from rfl] at r16826
      have f16832 := IvM_f6 hIv
      have f16833 := IvM_f6 hV16825
      rw [show ((upd I 11 0) 6) = (I 6) from rfl] at r16827
      have f16834 := IvM_f8 hIv
      rw [show ((upd I 11 0) 8) = (I 8) from rfl, show (I16825 8) = (I 8) from (hI16825 8 rfl)] at r16828
      rw [show ((upd I 11 0) 4) = (I 4) from rfl] at r16829
      rw [show ((upd I 11 0) 6) = (I 6) from rfl, show (A 2 ((upd I 11 0) 4).toNatClampNeg) = (A 2 (I 4).toNatClampNeg) from rfl] at r16830
      show GW κ 4 0 0 (wM r g I16825 A16825 L16825) 32 [(2, .int (I 4)), (1, .int y16821), (0, .ref (r 0))] []
      refine g_iconst (v := 0) hk dX12_tellQuery_32 (by decide) ?_
      refine g_istore_n (lv' := [(3, .int 0), (2, .int (I 4)), (1, .int y16821), (0, .ref (r 0))]) hk dX12_tellQuery_33 (by decide) rfl ?_
      have f20459 := IvM_f4 hIv
      have f20460 := IvM_f6 hIv
      have f20461 := IvM_f8 hIv
      have lp20467 : ∀ (n20468 : Nat) (x16835 : Int32) (I16839 : Nat → Int32) (A16839 : Nat → Nat → Int32) (L16839 : Nat → Nat → Int64), (Md [8, 9, 13] I16825 I16839) → (Md [] A16825 A16839) → (IvM I16839 A16839) → (L16839 = L16825) → (0 ≤ x16835.toInt) → (x16835.toInt ≤ 5) → ((I 4).toInt ≤ (I16825 4).toInt) → ((I 6).toInt ≤ (I16825 6).toInt) → ((I 8).toInt ≤ 9 * (I16839 8).toInt) → (6 - x16835.toInt < (n20468 : Int)) → (0 < n20468) → (FE (fM12_tellQuery I A L) (itr_iIAL dfM (bM12_tellQuery_34 I A y16821 I16825) n20468 x16835 I16839 A16839 L16839)) → GW κ 4 0 0 (wM r g I16839 A16839 L16839) 34 [(3, .int x16835), (2, .int (I 4)), (1, .int y16821), (0, .ref (r 0))] [] := by
        intro n20468
        induction n20468 with
        | zero =>
          intro x16835 I16839 A16839 L16839 hI16839 hA16839 hV16839 hL16839 h20462 h20463 h20464 h20465 h20466 m20469 m20469z hF
          exact absurd m20469z (Nat.lt_irrefl 0)
        | succ n20468 ih20471 =>
          intro x16835 I16839 A16839 L16839 hI16839 hA16839 hV16839 hL16839 h20462 h20463 h20464 h20465 h20466 m20469 m20469z hF
          have f20472 := IvM_f8 hV16839
          replace hF := FE.itr_iIAL hF
          refine g_iload_n hk dX12_tellQuery_34 rfl ?_
          refine g_aload_n hk dX12_tellQuery_35 rfl ?_
          refine gM_i17 (v := (I 17)) hk hin12 (List.mem_cons_of_mem _ (List.mem_append_left _ (List.mem_of_getElem? (i := 8) rfl))) dX12_tellQuery_36 ((hI16839 17 rfl).trans (hI16825 17 rfl)) ?_
          have f20473 := IvM_f17 hIv
          refine g_icmp_ge (tgt := 77) (a := x16835.toInt) (b := (I 17).toInt) hk dX12_tellQuery_39 (by decide) rfl rfl (fun c20474 => ?_) (fun c20474 => ?_)
          · skip
            replace hF := FE.pos hF c20474
            refine g_aload_n hk dX12_tellQuery_77 rfl ?_
            refine gM_r0_29 hk hin12 (List.mem_cons_of_mem _ (List.mem_append_left _ (List.mem_of_getElem? (i := 9) rfl))) dX12_tellQuery_78 ?_
            refine g_iload_n hk dX12_tellQuery_81 rfl ?_
            refine g_iconst (v := 0) hk dX12_tellQuery_82 (by decide) ?_
            have k20475 : (0 : Int32).toInt = 0 := rfl
            refine sM_11 (j := y16821.toNatClampNeg) hk (vp_in_iff.mpr ⟨by omega, by omega⟩) rfl dX12_tellQuery_83 ?_
            have hA20476 : ∀ j, 0 ≤ ((up3 A16839 11 (y16821.toNatClampNeg) 0) 11 j).toInt ∧ ((up3 A16839 11 (y16821.toNatClampNeg) 0) 11 j).toInt ≤ 16 := ai_st ((IvM_a11 hV16839)) ⟨by omega, by omega⟩
            have f20760 := IvM_f4 hIv
            have f20761 := IvM_f6 hIv
            have f20762 := IvM_f8 hIv
            have lp20766 : ∀ (n20767 : Nat) (I20481 : Nat → Int32) (A20481 : Nat → Nat → Int32) (L20481 : Nat → Nat → Int64), (Md [4, 6, 7, 8, 9, 11, 12, 13] I16839 I20481) → (Md [11, 12] (up3 A16839 11 (y16821.toNatClampNeg) 0) A20481) → (IvM I20481 A20481) → (L20481 = L16839) → ((I 4).toInt ≤ (I20481 4).toInt) → ((I 6).toInt ≤ (I20481 6).toInt) → ((I 8).toInt ≤ 9 * (I20481 8).toInt) → (401 - (I20481 4).toInt < (n20767 : Int)) → (0 < n20767) → (FE (fM12_tellQuery I A L) (itr_IAL dfM (bM12_tellQuery_84 I A y16821) n20767 I20481 A20481 L20481)) → GW κ 4 0 0 (wM r g I20481 A20481 L20481) 84 [(3, .int x16835), (2, .int (I 4)), (1, .int y16821), (0, .ref (r 0))] [] := by
              intro n20767
              induction n20767 with
              | zero =>
                intro I20481 A20481 L20481 hI20481 hA20481 hV20481 hL20481 h20763 h20764 h20765 m20768 m20768z hF
                exact absurd m20768z (Nat.lt_irrefl 0)
              | succ n20767 ih20770 =>
                intro I20481 A20481 L20481 hI20481 hA20481 hV20481 hL20481 h20763 h20764 h20765 m20768 m20768z hF
                have f20771 := IvM_f4 hV20481
                have f20772 := IvM_f6 hV20481
                have f20773 := IvM_f8 hV20481
                replace hF := FE.itr_IAL hF
                refine g_aload_n hk dX12_tellQuery_84 rfl ?_
                refine g_callV (n := 0) hk (j130_X12_isReading l D zt r g I20481 A20481 L20481  hV20481) (SP.same _) (fun _ h => h) (gi_V (List.mem_cons_of_mem _ (List.mem_append_left _ (List.mem_of_getElem? (i := 10) rfl))) (List.mem_cons_of_mem _ (List.mem_append_left _ (List.mem_of_getElem? (i := 11) rfl))) (List.mem_cons_of_mem _ (List.mem_append_left _ (List.mem_of_getElem? (i := 12) rfl))) (List.mem_cons_of_mem _ (List.mem_append_left _ (List.mem_of_getElem? (i := 7) rfl))) (gi_sub (fun w h => (List.mem_cons_of_mem _ (List.mem_append_right _ (List.mem_append_right _ (List.mem_append_right _ (List.mem_append_left _ h)))))) zg_j130_X12_isReading)) rfl rfl rfl (by decide +kernel) ⟨Nat.le_of_ble_eq_true rfl, Nat.le_of_ble_eq_true rfl⟩ 0 rfl rfl rfl rfl (Nat.le_of_ble_eq_true rfl) ⟨Nat.le_of_ble_eq_true rfl, Nat.le_of_ble_eq_true rfl⟩ dX12_tellQuery_85 (fun v ty' w' hp hk' => ?_)
                rcases hp with ⟨hC, rfl, rfl⟩ | ⟨hC, rfl, rfl⟩
                · skip
                  replace hF := FE.pos hF hC
                  show GW κ 4 0 0 (wM r g I20481 A20481 L20481) 88 [(3, .int x16835), (2, .int (I 4)), (1, .int y16821), (0, .ref (r 0))] [.int 0]
                  refine g_if_eq (tgt := 166) (a := 0) hk dX12_tellQuery_88 (by decide) rfl (fun _ => ?_) (fun z9 => absurd (show (0 : Int) = (0 : Int) from by decide) z9)
                  refine g_aload_n hk dX12_tellQuery_166 rfl ?_
                  refine g_iconst (v := 4) hk dX12_tellQuery_167 (by decide) ?_
                  have k20776 : (4 : Int32).toInt = 4 := rfl
                  refine g_callV (n := 1) hk (j125_X12_is l D zt r g I20481 A20481 L20481 4 hV20481) (SP.same _) (fun _ h => h) (gi_V (List.mem_cons_of_mem _ (List.mem_append_left _ (List.mem_of_getElem? (i := 13) rfl))) (List.mem_cons_of_mem _ (List.mem_append_left _ (List.mem_of_getElem? (i := 14) rfl))) (List.mem_cons_of_mem _ (List.mem_append_left _ (List.mem_of_getElem? (i := 15) rfl))) (List.mem_cons_of_mem _ (List.mem_append_left _ (List.mem_of_getElem? (i := 7) rfl))) (gi_sub (fun w h => (List.mem_cons_of_mem _ (List.mem_append_right _ (List.mem_append_right _ (List.mem_append_right _ (List.mem_append_right _ (List.mem_append_left _ h))))))) zg_j125_X12_is)) rfl rfl rfl (by decide +kernel) ⟨Nat.le_of_ble_eq_true rfl, Nat.le_of_ble_eq_true rfl⟩ 0 rfl rfl rfl rfl (Nat.le_of_ble_eq_true rfl) ⟨Nat.le_of_ble_eq_true rfl, Nat.le_of_ble_eq_true rfl⟩ dX12_tellQuery_168 (fun v ty' w' hp hk' => ?_)
                  rcases hp with ⟨c20777, hC, rfl, rfl⟩ | ⟨c20779, hC, rfl, rfl⟩
                  · skip
                    replace hF := FE.pos hF hC
                    rw [show (A20481 2 (I20481 4).toNatClampNeg) = (A 2 (I20481 4).toNatClampNeg) from ((congrFun (hA20481 2 rfl) _).trans ((congrFun (hA16839 2 rfl) _).trans (congrFun (hA16825 2 rfl) _)))] at c20777
                    show GW κ 4 0 0 (wM r g I20481 A20481 L20481) 171 [(3, .int x16835), (2, .int (I 4)), (1, .int y16821), (0, .ref (r 0))] [.int 0]
                    refine g_if_eq (tgt := 194) (a := 0) hk dX12_tellQuery_171 (by decide) rfl (fun _ => ?_) (fun z9 => absurd (show (0 : Int) = (0 : Int) from by decide) z9)
                    refine g_aload_n hk dX12_tellQuery_194 rfl ?_
                    refine g_iconst (v := 4) hk dX12_tellQuery_195 (by decide) ?_
                    refine g_callV (n := 1) hk (j131_X12_must l D zt r g I20481 A20481 L20481 4 hV20481) (SP.same _) (fun _ h => h) (gi_V (List.mem_cons_of_mem _ (List.mem_append_left _ (List.mem_of_getElem? (i := 4) rfl))) (List.mem_cons_of_mem _ (List.mem_append_left _ (List.mem_of_getElem? (i := 5) rfl))) (List.mem_cons_of_mem _ (List.mem_append_left _ (List.mem_of_getElem? (i := 6) rfl))) (List.mem_cons_of_mem _ (List.mem_append_left _ (List.mem_of_getElem? (i := 7) rfl))) (gi_sub (fun w h => (List.mem_cons_of_mem _ (List.mem_append_right _ (List.mem_append_right _ (List.mem_append_left _ h))))) zg_j131_X12_must)) rfl rfl rfl (by decide +kernel) ⟨Nat.le_of_ble_eq_true rfl, Nat.le_of_ble_eq_true rfl⟩ 0 rfl rfl rfl rfl (Nat.le_of_ble_eq_true rfl) ⟨Nat.le_of_ble_eq_true rfl, Nat.le_of_ble_eq_true rfl⟩ dX12_tellQuery_196 (fun v ty' w' hp hk' => ?_)
                    obtain ⟨I20782, A20782, L20782, hI20782, hA20782, hV20782, r20783, r20784, r20785, r20786, r20787, hL20782, hC, rfl, rfl⟩ := hp
                    replace hF := FE.bdM hF hC
                    have f20788 := IvM_f4 hV20782
                    have f20789 := IvM_f6 hV20782
                    rw [show (I20782 8) = (I20481 8) from (hI20782 8 rfl)] at r20785
                    rw [show (A20481 2 (I20481 4).toNatClampNeg) = (A 2 (I20481 4).toNatClampNeg) from ((congrFun (hA20481 2 rfl) _).trans ((congrFun (hA16839 2 rfl) _).trans (congrFun (hA16825 2 rfl) _)))] at r20787
                    show GW κ 4 0 0 (wM r g I20782 A20782 L20782) 199 [(3, .int x16835), (2, .int (I 4)), (1, .int y16821), (0, .ref (r 0))] []
                    refine g_aload_n hk dX12_tellQuery_199 rfl ?_
                    refine gM_i6 (v := (I20782 6)) hk hin12 (List.mem_cons_of_mem _ (List.mem_append_left _ (List.mem_of_getElem? (i := 16) rfl))) dX12_tellQuery_200 rfl ?_
                    refine g_if_le (tgt := 207) (a := (I20782 6).toInt) hk dX12_tellQuery_203 (by decide) rfl (fun c20790 => ?_) (fun c20790 => ?_)
                    · skip
                      replace hF := FE.pos hF c20790
                      refine g_aload_n hk dX12_tellQuery_207 rfl ?_
                      refine g_bipush (v := (-2)) hk dX12_tellQuery_208 (by decide) ?_
                      refine pM_i11 hk hin12 (List.mem_cons_of_mem _ (List.mem_append_left _ (List.mem_of_getElem? (i := 0) rfl))) dX12_tellQuery_210 ?_
                      refine g_aload_n hk dX12_tellQuery_213 rfl ?_
                      refine gM_r0_25 hk hin12 (List.mem_cons_of_mem _ (List.mem_append_left _ (List.mem_of_getElem? (i := 17) rfl))) dX12_tellQuery_214 ?_
                      refine g_aload_n hk dX12_tellQuery_217 rfl ?_
                      refine gM_i17 (v := (I 17)) hk hin12 (List.mem_cons_of_mem _ (List.mem_append_left _ (List.mem_of_getElem? (i := 8) rfl))) dX12_tellQuery_218 ((hI20782 17 rfl).trans ((hI20481 17 rfl).trans ((hI16839 17 rfl).trans (hI16825 17 rfl)))) ?_
                      have g20791 : (I20782 16).toInt = (I 16).toInt := by rw [show (I20782 16) = (I 16) from ((hI20782 16 rfl).trans ((hI20481 16 rfl).trans ((hI16839 16 rfl).trans (hI16825 16 rfl))))]
                      have g20792 : (I20782 17).toInt = (I 17).toInt := by rw [show (I20782 17) = (I 17) from ((hI20782 17 rfl).trans ((hI20481 17 rfl).trans ((hI16839 17 rfl).trans (hI16825 17 rfl))))]
                      have g20793 : (A20782 10 0).toInt = (A 10 0).toInt := by rw [show (A20782 10 0) = (A 10 0) from ((congrFun (hA20782 10 rfl) _).trans ((congrFun (hA20481 10 rfl) _).trans ((congrFun (hA16839 10 rfl) _).trans (congrFun (hA16825 10 rfl) _))))]
                      have g20794 : (A20782 10 1).toInt = (A 10 1).toInt := by rw [show (A20782 10 1) = (A 10 1) from ((congrFun (hA20782 10 rfl) _).trans ((congrFun (hA20481 10 rfl) _).trans ((congrFun (hA16839 10 rfl) _).trans (congrFun (hA16825 10 rfl) _))))]
                      have g20795 := (IvM_nq (I := I20782) (A := A20782) hV20782).1 (by omega)
                      refine g_aload_n hk dX12_tellQuery_221 rfl ?_
                      refine gM_r0_8 hk hin12 (List.mem_cons_of_mem _ (List.mem_append_left _ (List.mem_of_getElem? (i := 18) rfl))) dX12_tellQuery_222 ?_
                      refine g_iload_n hk dX12_tellQuery_225 rfl ?_
                      refine lM_5 hk (vp_in_iff.mpr ⟨by omega, by omega⟩) rfl dX12_tellQuery_226 ?_
                      refine g_topl (fun y20796 ey20796 => ?_)
                      replace hF := FE.lt hF ey20796
                      refine sM_7 (j := (I 17).toNatClampNeg) hk (vp_in_iff.mpr ⟨by omega, by omega⟩) rfl dX12_tellQuery_227 ?_
                      refine g_aload_n hk dX12_tellQuery_228 rfl ?_
                      refine g_dup hk dX12_tellQuery_229 rfl ?_
                      refine gM_i17 (v := (I 17)) hk hin12 (List.mem_cons_of_mem _ (List.mem_append_left _ (List.mem_of_getElem? (i := 8) rfl))) dX12_tellQuery_230 ((hI20782 17 rfl).trans ((hI20481 17 rfl).trans ((hI16839 17 rfl).trans (hI16825 17 rfl)))) ?_
                      refine g_iconst (v := 1) hk dX12_tellQuery_233 (by decide) ?_
                      refine g_iadd hk dX12_tellQuery_234 ?_
                      refine g_topi (fun y20797 ey20797 => ?_)
                      replace hF := FE.lt hF ey20797
                      have hy20797 : y20797.toInt = (I 17).toInt + 1 := i32_add ey20797 rfl rfl (by omega) (by omega)
                      refine pM_i17 hk hin12 (List.mem_cons_of_mem _ (List.mem_append_left _ (List.mem_of_getElem? (i := 8) rfl))) dX12_tellQuery_235 ?_
                      refine g_aload_n hk dX12_tellQuery_238 rfl ?_
                      refine gM_r0_28 hk hin12 (List.mem_cons_of_mem _ (List.mem_append_left _ (List.mem_of_getElem? (i := 2) rfl))) dX12_tellQuery_239 ?_
                      refine g_aload_n hk dX12_tellQuery_242 rfl ?_
                      refine gM_i16 (v := (I 16)) hk hin12 (List.mem_cons_of_mem _ (List.mem_append_left _ (List.mem_of_getElem? (i := 1) rfl))) dX12_tellQuery_243 ((hI20782 16 rfl).trans ((hI20481 16 rfl).trans ((hI16839 16 rfl).trans (hI16825 16 rfl)))) ?_
                      by_cases c20798 : (I 16).toInt = 0
                      · have ec20798 : (I 16) = 0 := Int32.toInt_inj.mp c20798
                        replace hF := FE.pos hF c20798
                        rw [ec20798]
                        show GW κ 4 0 0 (wM r g (upd (upd I20782 11 (-2)) 17 y20797) A20782 (up3L L20782 7 ((I 17).toNatClampNeg) y20796)) 246 [(3, .int x16835), (2, .int (I 4)), (1, .int y16821), (0, .ref (r 0))] [.int 0, .ref (r 11)]
                        refine g_dup2 hk dX12_tellQuery_246 rfl rfl ?_
                        refine lM_10 (v := (A 10 0)) hk (vp_in_iff.mpr ⟨by decide, by decide⟩) ((congrFun (hA20782 10 rfl) _).trans ((congrFun (hA20481 10 rfl) _).trans ((congrFun (hA16839 10 rfl) _).trans (congrFun (hA16825 10 rfl) _)))) dX12_tellQuery_247 ?_
                        refine g_iconst (v := 1) hk dX12_tellQuery_248 (by decide) ?_
                        refine g_iadd hk dX12_tellQuery_249 ?_
                        refine g_topi (fun y20799 ey20799 => ?_)
                        replace hF := FE.lt hF ey20799
                        have hy20799 : y20799.toInt = (A 10 0).toInt + 1 := i32_add ey20799 rfl rfl (by omega) (by omega)
                        refine sM_10 (j := 0) hk (vp_in_iff.mpr ⟨by decide, by decide⟩) (by decide) dX12_tellQuery_250 ?_
                        have f20800 := IvM_s10_0 hV20782
                        have f20801 := IvM_s10_1 hV20782
                        have g20802 : (I20782 15).toInt = (I 15).toInt := by rw [show (I20782 15) = (I 15) from ((hI20782 15 rfl).trans ((hI20481 15 rfl).trans ((hI16839 15 rfl).trans (hI16825 15 rfl))))]
                        have g20803 := IvM_s10_0 (I := I20782) (A := A20782) hV20782
                        have g20804 := IvM_s10_1 (I := I20782) (A := A20782) hV20782
                        have g20805 : (I20782 8).toInt = (I20481 8).toInt := by rw [show (I20782 8) = (I20481 8) from (hI20782 8 rfl)]
                        have q20806 := cl_int (y := y16821) (by omega)
                        have g20807 : (A20782 11 y16821.toNatClampNeg).toInt = (A20481 11 y16821.toNatClampNeg).toInt := by rw [show (A20782 11 y16821.toNatClampNeg) = (A20481 11 y16821.toNatClampNeg) from (congrFun (hA20782 11 rfl) _)]
                        have u20808 : (I20481 6).toInt ≠ 0 ∨ (A 2 (I20481 4).toNatClampNeg).toInt ≠ (4 : Int32).toInt := c20777
                        have u20809 : 0 < (I20782 6).toInt ∨ ((I20481 6).toInt = 0 ∧ (A 2 (I20481 4).toNatClampNeg).toInt = (4 : Int32).toInt) := r20787
                        exact g_vret hk hR ⟨(upd (upd I20782 11 (-2)) 17 y20797), (up3 A20782 10 0 y20799), (up3L L20782 7 ((I 17).toNatClampNeg) y20796), (show Md [4, 6, 7, 8, 9, 11, 12, 13, 17] I (upd (upd I20782 11 (-2)) 17 y20797) from (Md.up (Md.up (Md.tr (Md.tr (Md.tr (Md.tr (Md.up Md.rf rfl) hI16825 rfl) hI16839 rfl) hI20481 rfl) hI20782 rfl) rfl) rfl)), (show Md [10, 11, 12] A (up3 A20782 10 0 y20799) from (Md.up3 (Md.tr (Md.tr (Md.up3 (Md.tr (Md.tr Md.rf hA16825 rfl) hA16839 rfl) rfl) hA20481 rfl) hA20782 rfl) rfl)), ⟨(IvM_f1 (I := I20782) (A := A20782) hV20782), (IvM_f2 (I := I20782) (A := A20782) hV20782), (IvM_f3 (I := I20782) (A := A20782) hV20782), (IvM_f4 (I := I20782) (A := A20782) hV20782), (IvM_f6 (I := I20782) (A := A20782) hV20782), (IvM_f8 (I := I20782) (A := A20782) hV20782), (IvM_f15 (I := I20782) (A := A20782) hV20782), (IvM_f16 (I := I20782) (A := A20782) hV20782), (show 0 ≤ y20797.toInt ∧ y20797.toInt ≤ 5 from ⟨by omega, by omega⟩), (IvM_f18 (I := I20782) (A := A20782) hV20782), (IvM_f22 (I := I20782) (A := A20782) hV20782), (IvM_f23 (I := I20782) (A := A20782) hV20782), (IvM_f24 (I := I20782) (A := A20782) hV20782), (IvM_a11 (I := I20782) (A := A20782) hV20782), (IvM_a26 (I := I20782) (A := A20782) hV20782), (IvM_s8_0 (I := I20782) (A := A20782) hV20782), (IvM_s8_1 (I := I20782) (A := A20782) hV20782), (show 0 ≤ ((up3 A20782 10 0 y20799) 10 0).toInt ∧ ((up3 A20782 10 0 y20799) 10 0).toInt ≤ 5 from by rw [show (up3 A20782 10 0 y20799) 10 0 = y20799 from rfl]; exact ⟨by omega, by omega⟩), (show 0 ≤ ((up3 A20782 10 0 y20799) 10 1).toInt ∧ ((up3 A20782 10 0 y20799) 10 1).toInt ≤ 5 from by rw [show (up3 A20782 10 0 y20799) 10 1 = (A20782 10 1) from rfl]; exact (IvM_s10_1 (I := I20782) (A := A20782) hV20782)), (IvM_s17_0 (I := I20782) (A := A20782) hV20782), (IvM_s17_164 (I := I20782) (A := A20782) hV20782), ⟨fun e => by have e : (I20782 15).toInt = 0 := e; first | exact (IvM_lv (I := I20782) (A := A20782) hV20782).1 e | (exfalso; omega), fun e => by have e : (I20782 15).toInt = 1 := e; first | exact (IvM_lv (I := I20782) (A := A20782) hV20782).2 e | (exfalso; omega)⟩, (by first | (exfalso; omega) | (by_cases g8 : (I20782 8).toInt ≠ 0; exact Or.inr (Or.inl g8); rcases (IvM_sd (I := I20782) (A := A20782) hV20782) with h9 | h9 | h9; exact absurd h9 (by omega); exact absurd h9 g8; exact Or.inr (Or.inr ⟨fun e => by have e : (I20782 16).toInt = 0 := e; first | exact ghf_add (n := (A20782 10 0)) (f := (A20782 11)) (n2 := y20799) (p := y16821.toNatClampNeg) (h9.1 e) (by omega) (by omega) (by omega) | (exfalso; omega), fun e => by have e : (I20782 16).toInt = 1 := e; first | exact ghf_add (n := (A20782 10 1)) (f := (A20782 11)) (n2 := y20799) (p := y16821.toNatClampNeg) (h9.2 e) (by omega) (by omega) (by omega) | (exfalso; omega)⟩))), ⟨fun e => by have e : (I20782 16).toInt = 0 := e; first | (exfalso; omega) | (show y20797.toInt = y20799.toInt; omega), fun e => by have e : (I20782 16).toInt = 1 := e; first | (exfalso; omega) | (show y20797.toInt = (A20782 10 1).toInt; omega)⟩, (IvM_hr (I := I20782) (A := A20782) hV20782), (IvM_hh (I := I20782) (A := A20782) hV20782), trivial⟩, (by rw [show ((upd (upd I20782 11 (-2)) 17 y20797) 4) = (I20782 4) from rfl] <;> omega), (by rw [show ((upd (upd I20782 11 (-2)) 17 y20797) 6) = (I20782 6) from rfl] <;> omega), (by rw [show ((upd (upd I20782 11 (-2)) 17 y20797) 8) = (I20481 8) from (hI20782 8 rfl)] <;> omega), hF, rfl, rfl⟩ dX12_tellQuery_251
                      replace hF := FE.neg hF c20798
                      exfalso; omega
                    · skip
                      replace hF := FE.neg hF c20790
                      exact g_vret hk hR ⟨I20782, A20782, L20782, (show Md [4, 6, 7, 8, 9, 11, 12, 13, 17] I I20782 from (Md.tr (Md.tr (Md.tr (Md.tr (Md.up Md.rf rfl) hI16825 rfl) hI16839 rfl) hI20481 rfl) hI20782 rfl)), (show Md [10, 11, 12] A A20782 from (Md.tr (Md.tr (Md.up3 (Md.tr (Md.tr Md.rf hA16825 rfl) hA16839 rfl) rfl) hA20481 rfl) hA20782 rfl)), hV20782, (by omega), (by omega), (by rw [show (I20782 8) = (I20481 8) from (hI20782 8 rfl)] <;> omega), hF, rfl, rfl⟩ dX12_tellQuery_206
                  · skip
                    replace hF := FE.neg hF (fe_ne hC (by decide))
                    rw [show (A20481 2 (I20481 4).toNatClampNeg) = (A 2 (I20481 4).toNatClampNeg) from ((congrFun (hA20481 2 rfl) _).trans ((congrFun (hA16839 2 rfl) _).trans (congrFun (hA16825 2 rfl) _)))] at c20779
                    show GW κ 4 0 0 (wM r g I20481 A20481 L20481) 171 [(3, .int x16835), (2, .int (I 4)), (1, .int y16821), (0, .ref (r 0))] [.int 1]
                    refine g_if_eq (tgt := 194) (a := 1) hk dX12_tellQuery_171 (by decide) rfl (fun z9 => absurd z9 (show ¬ ((1 : Int) = (0 : Int)) from by decide)) (fun _ => ?_)
                    refine g_aload_n hk dX12_tellQuery_174 rfl ?_
                    refine gM_r0_29 hk hin12 (List.mem_cons_of_mem _ (List.mem_append_left _ (List.mem_of_getElem? (i := 9) rfl))) dX12_tellQuery_175 ?_
                    refine g_iload_n hk dX12_tellQuery_178 rfl ?_
                    refine lM_11 (v := (A20481 11 y16821.toNatClampNeg)) hk (vp_in_iff.mpr ⟨by omega, by omega⟩) rfl dX12_tellQuery_179 ?_
                    have f20810 := IvM_a11 hV20481 (y16821.toNatClampNeg)
                    refine g_iconst (v := 2) hk dX12_tellQuery_180 (by decide) ?_
                    refine g_icmp_ge (tgt := 194) (a := (A20481 11 y16821.toNatClampNeg).toInt) (b := 2) hk dX12_tellQuery_181 (by decide) rfl rfl (fun c20811 => ?_) (fun c20811 => ?_)
                    · skip
                      replace hF := FE.pos hF c20811
                      refine g_aload_n hk dX12_tellQuery_194 rfl ?_
                      refine g_iconst (v := 4) hk dX12_tellQuery_195 (by decide) ?_
                      refine g_callV (n := 1) hk (j131_X12_must l D zt r g I20481 A20481 L20481 4 hV20481) (SP.same _) (fun _ h => h) (gi_V (List.mem_cons_of_mem _ (List.mem_append_left _ (List.mem_of_getElem? (i := 4) rfl))) (List.mem_cons_of_mem _ (List.mem_append_left _ (List.mem_of_getElem? (i := 5) rfl))) (List.mem_cons_of_mem _ (List.mem_append_left _ (List.mem_of_getElem? (i := 6) rfl))) (List.mem_cons_of_mem _ (List.mem_append_left _ (List.mem_of_getElem? (i := 7) rfl))) (gi_sub (fun w h => (List.mem_cons_of_mem _ (List.mem_append_right _ (List.mem_append_right _ (List.mem_append_left _ h))))) zg_j131_X12_must)) rfl rfl rfl (by decide +kernel) ⟨Nat.le_of_ble_eq_true rfl, Nat.le_of_ble_eq_true rfl⟩ 0 rfl rfl rfl rfl (Nat.le_of_ble_eq_true rfl) ⟨Nat.le_of_ble_eq_true rfl, Nat.le_of_ble_eq_true rfl⟩ dX12_tellQuery_196 (fun v ty' w' hp hk' => ?_)
                      obtain ⟨I20813, A20813, L20813, hI20813, hA20813, hV20813, r20814, r20815, r20816, r20817, r20818, hL20813, hC, rfl, rfl⟩ := hp
                      replace hF := FE.bdM hF hC
                      have f20819 := IvM_f4 hV20813
                      have f20820 := IvM_f6 hV20813
                      rw [show (I20813 8) = (I20481 8) from (hI20813 8 rfl)] at r20816
                      rw [show (A20481 2 (I20481 4).toNatClampNeg) = (A 2 (I20481 4).toNatClampNeg) from ((congrFun (hA20481 2 rfl) _).trans ((congrFun (hA16839 2 rfl) _).trans (congrFun (hA16825 2 rfl) _)))] at r20818
                      show GW κ 4 0 0 (wM r g I20813 A20813 L20813) 199 [(3, .int x16835), (2, .int (I 4)), (1, .int y16821), (0, .ref (r 0))] []
                      refine g_aload_n hk dX12_tellQuery_199 rfl ?_
                      refine gM_i6 (v := (I20813 6)) hk hin12 (List.mem_cons_of_mem _ (List.mem_append_left _ (List.mem_of_getElem? (i := 16) rfl))) dX12_tellQuery_200 rfl ?_
                      refine g_if_le (tgt := 207) (a := (I20813 6).toInt) hk dX12_tellQuery_203 (by decide) rfl (fun c20821 => ?_) (fun c20821 => ?_)
                      · skip
                        replace hF := FE.pos hF c20821
                        refine g_aload_n hk dX12_tellQuery_207 rfl ?_
                        refine g_bipush (v := (-2)) hk dX12_tellQuery_208 (by decide) ?_
                        refine pM_i11 hk hin12 (List.mem_cons_of_mem _ (List.mem_append_left _ (List.mem_of_getElem? (i := 0) rfl))) dX12_tellQuery_210 ?_
                        refine g_aload_n hk dX12_tellQuery_213 rfl ?_
                        refine gM_r0_25 hk hin12 (List.mem_cons_of_mem _ (List.mem_append_left _ (List.mem_of_getElem? (i := 17) rfl))) dX12_tellQuery_214 ?_
                        refine g_aload_n hk dX12_tellQuery_217 rfl ?_
                        refine gM_i17 (v := (I 17)) hk hin12 (List.mem_cons_of_mem _ (List.mem_append_left _ (List.mem_of_getElem? (i := 8) rfl))) dX12_tellQuery_218 ((hI20813 17 rfl).trans ((hI20481 17 rfl).trans ((hI16839 17 rfl).trans (hI16825 17 rfl)))) ?_
                        have g20822 : (I20813 16).toInt = (I 16).toInt := by rw [show (I20813 16) = (I 16) from ((hI20813 16 rfl).trans ((hI20481 16 rfl).trans ((hI16839 16 rfl).trans (hI16825 16 rfl))))]
                        have g20823 : (I20813 17).toInt = (I 17).toInt := by rw [show (I20813 17) = (I 17) from ((hI20813 17 rfl).trans ((hI20481 17 rfl).trans ((hI16839 17 rfl).trans (hI16825 17 rfl))))]
                        have g20824 : (A20813 10 0).toInt = (A 10 0).toInt := by rw [show (A20813 10 0) = (A 10 0) from ((congrFun (hA20813 10 rfl) _).trans ((congrFun (hA20481 10 rfl) _).trans ((congrFun (hA16839 10 rfl) _).trans (congrFun (hA16825 10 rfl) _))))]
                        have g20825 : (A20813 10 1).toInt = (A 10 1).toInt := by rw [show (A20813 10 1) = (A 10 1) from ((congrFun (hA20813 10 rfl) _).trans ((congrFun (hA20481 10 rfl) _).trans ((congrFun (hA16839 10 rfl) _).trans (congrFun (hA16825 10 rfl) _))))]
                        have g20826 := (IvM_nq (I := I20813) (A := A20813) hV20813).1 (by omega)
                        refine g_aload_n hk dX12_tellQuery_221 rfl ?_
                        refine gM_r0_8 hk hin12 (List.mem_cons_of_mem _ (List.mem_append_left _ (List.mem_of_getElem? (i := 18) rfl))) dX12_tellQuery_222 ?_
                        refine g_iload_n hk dX12_tellQuery_225 rfl ?_
                        refine lM_5 hk (vp_in_iff.mpr ⟨by omega, by omega⟩) rfl dX12_tellQuery_226 ?_
                        refine g_topl (fun y20827 ey20827 => ?_)
                        replace hF := FE.lt hF ey20827
                        refine sM_7 (j := (I 17).toNatClampNeg) hk (vp_in_iff.mpr ⟨by omega, by omega⟩) rfl dX12_tellQuery_227 ?_
                        refine g_aload_n hk dX12_tellQuery_228 rfl ?_
                        refine g_dup hk dX12_tellQuery_229 rfl ?_
                        refine gM_i17 (v := (I 17)) hk hin12 (List.mem_cons_of_mem _ (List.mem_append_left _ (List.mem_of_getElem? (i := 8) rfl))) dX12_tellQuery_230 ((hI20813 17 rfl).trans ((hI20481 17 rfl).trans ((hI16839 17 rfl).trans (hI16825 17 rfl)))) ?_
                        refine g_iconst (v := 1) hk dX12_tellQuery_233 (by decide) ?_
                        refine g_iadd hk dX12_tellQuery_234 ?_
                        refine g_topi (fun y20828 ey20828 => ?_)
                        replace hF := FE.lt hF ey20828
                        have hy20828 : y20828.toInt = (I 17).toInt + 1 := i32_add ey20828 rfl rfl (by omega) (by omega)
                        refine pM_i17 hk hin12 (List.mem_cons_of_mem _ (List.mem_append_left _ (List.mem_of_getElem? (i := 8) rfl))) dX12_tellQuery_235 ?_
                        refine g_aload_n hk dX12_tellQuery_238 rfl ?_
                        refine gM_r0_28 hk hin12 (List.mem_cons_of_mem _ (List.mem_append_left _ (List.mem_of_getElem? (i := 2) rfl))) dX12_tellQuery_239 ?_
                        refine g_aload_n hk dX12_tellQuery_242 rfl ?_
                        refine gM_i16 (v := (I 16)) hk hin12 (List.mem_cons_of_mem _ (List.mem_append_left _ (List.mem_of_getElem? (i := 1) rfl))) dX12_tellQuery_243 ((hI20813 16 rfl).trans ((hI20481 16 rfl).trans ((hI16839 16 rfl).trans (hI16825 16 rfl)))) ?_
                        by_cases c20829 : (I 16).toInt = 0
                        · have ec20829 : (I 16) = 0 := Int32.toInt_inj.mp c20829
                          replace hF := FE.pos hF c20829
                          rw [ec20829]
                          show GW κ 4 0 0 (wM r g (upd (upd I20813 11 (-2)) 17 y20828) A20813 (up3L L20813 7 ((I 17).toNatClampNeg) y20827)) 246 [(3, .int x16835), (2, .int (I 4)), (1, .int y16821), (0, .ref (r 0))] [.int 0, .ref (r 11)]
                          refine g_dup2 hk dX12_tellQuery_246 rfl rfl ?_
                          refine lM_10 (v := (A 10 0)) hk (vp_in_iff.mpr ⟨by decide, by decide⟩) ((congrFun (hA20813 10 rfl) _).trans ((congrFun (hA20481 10 rfl) _).trans ((congrFun (hA16839 10 rfl) _).trans (congrFun (hA16825 10 rfl) _)))) dX12_tellQuery_247 ?_
                          refine g_iconst (v := 1) hk dX12_tellQuery_248 (by decide) ?_
                          refine g_iadd hk dX12_tellQuery_249 ?_
                          refine g_topi (fun y20830 ey20830 => ?_)
                          replace hF := FE.lt hF ey20830
                          have hy20830 : y20830.toInt = (A 10 0).toInt + 1 := i32_add ey20830 rfl rfl (by omega) (by omega)
                          refine sM_10 (j := 0) hk (vp_in_iff.mpr ⟨by decide, by decide⟩) (by decide) dX12_tellQuery_250 ?_
                          have f20831 := IvM_s10_0 hV20813
                          have f20832 := IvM_s10_1 hV20813
                          have g20833 : (I20813 15).toInt = (I 15).toInt := by rw [show (I20813 15) = (I 15) from ((hI20813 15 rfl).trans ((hI20481 15 rfl).trans ((hI16839 15 rfl).trans (hI16825 15 rfl))))]
                          have g20834 := IvM_s10_0 (I := I20813) (A := A20813) hV20813
                          have g20835 := IvM_s10_1 (I := I20813) (A := A20813) hV20813
                          have g20836 : (I20813 8).toInt = (I20481 8).toInt := by rw [show (I20813 8) = (I20481 8) from (hI20813 8 rfl)]
                          have q20837 := cl_int (y := y16821) (by omega)
                          have g20838 : (A20813 11 y16821.toNatClampNeg).toInt = (A20481 11 y16821.toNatClampNeg).toInt := by rw [show (A20813 11 y16821.toNatClampNeg) = (A20481 11 y16821.toNatClampNeg) from (congrFun (hA20813 11 rfl) _)]
                          have u20839 : 0 < (I16825 6).toInt ∨ ((I 6).toInt = 0 ∧ (A 2 (I 4).toNatClampNeg).toInt = (1 : Int32).toInt) := r16830
                          have u20840 : 0 < (I20813 6).toInt ∨ ((I20481 6).toInt = 0 ∧ (A 2 (I20481 4).toNatClampNeg).toInt = (4 : Int32).toInt) := r20818
                          exact g_vret hk hR ⟨(upd (upd I20813 11 (-2)) 17 y20828), (up3 A20813 10 0 y20830), (up3L L20813 7 ((I 17).toNatClampNeg) y20827), (show Md [4, 6, 7, 8, 9, 11, 12, 13, 17] I (upd (upd I20813 11 (-2)) 17 y20828) from (Md.up (Md.up (Md.tr (Md.tr (Md.tr (Md.tr (Md.up Md.rf rfl) hI16825 rfl) hI16839 rfl) hI20481 rfl) hI20813 rfl) rfl) rfl)), (show Md [10, 11, 12] A (up3 A20813 10 0 y20830) from (Md.up3 (Md.tr (Md.tr (Md.up3 (Md.tr (Md.tr Md.rf hA16825 rfl) hA16839 rfl) rfl) hA20481 rfl) hA20813 rfl) rfl)), ⟨(IvM_f1 (I := I20813) (A := A20813) hV20813), (IvM_f2 (I := I20813) (A := A20813) hV20813), (IvM_f3 (I := I20813) (A := A20813) hV20813), (IvM_f4 (I := I20813) (A := A20813) hV20813), (IvM_f6 (I := I20813) (A := A20813) hV20813), (IvM_f8 (I := I20813) (A := A20813) hV20813), (IvM_f15 (I := I20813) (A := A20813) hV20813), (IvM_f16 (I := I20813) (A := A20813) hV20813), (show 0 ≤ y20828.toInt ∧ y20828.toInt ≤ 5 from ⟨by omega, by omega⟩), (IvM_f18 (I := I20813) (A := A20813) hV20813), (IvM_f22 (I := I20813) (A := A20813) hV20813), (IvM_f23 (I := I20813) (A := A20813) hV20813), (IvM_f24 (I := I20813) (A := A20813) hV20813), (IvM_a11 (I := I20813) (A := A20813) hV20813), (IvM_a26 (I := I20813) (A := A20813) hV20813), (IvM_s8_0 (I := I20813) (A := A20813) hV20813), (IvM_s8_1 (I := I20813) (A := A20813) hV20813), (show 0 ≤ ((up3 A20813 10 0 y20830) 10 0).toInt ∧ ((up3 A20813 10 0 y20830) 10 0).toInt ≤ 5 from by rw [show (up3 A20813 10 0 y20830) 10 0 = y20830 from rfl]; exact ⟨by omega, by omega⟩), (show 0 ≤ ((up3 A20813 10 0 y20830) 10 1).toInt ∧ ((up3 A20813 10 0 y20830) 10 1).toInt ≤ 5 from by rw [show (up3 A20813 10 0 y20830) 10 1 = (A20813 10 1) from rfl]; exact (IvM_s10_1 (I := I20813) (A := A20813) hV20813)), (IvM_s17_0 (I := I20813) (A := A20813) hV20813), (IvM_s17_164 (I := I20813) (A := A20813) hV20813), ⟨fun e => by have e : (I20813 15).toInt = 0 := e; first | exact (IvM_lv (I := I20813) (A := A20813) hV20813).1 e | (exfalso; omega), fun e => by have e : (I20813 15).toInt = 1 := e; first | exact (IvM_lv (I := I20813) (A := A20813) hV20813).2 e | (exfalso; omega)⟩, (by first | (exfalso; omega) | (by_cases g8 : (I20813 8).toInt ≠ 0; exact Or.inr (Or.inl g8); rcases (IvM_sd (I := I20813) (A := A20813) hV20813) with h9 | h9 | h9; exact absurd h9 (by omega); exact absurd h9 g8; exact Or.inr (Or.inr ⟨fun e => by have e : (I20813 16).toInt = 0 := e; first | exact ghf_add (n := (A20813 10 0)) (f := (A20813 11)) (n2 := y20830) (p := y16821.toNatClampNeg) (h9.1 e) (by omega) (by omega) (by omega) | (exfalso; omega), fun e => by have e : (I20813 16).toInt = 1 := e; first | exact ghf_add (n := (A20813 10 1)) (f := (A20813 11)) (n2 := y20830) (p := y16821.toNatClampNeg) (h9.2 e) (by omega) (by omega) (by omega) | (exfalso; omega)⟩))), ⟨fun e => by have e : (I20813 16).toInt = 0 := e; first | (exfalso; omega) | (show y20828.toInt = y20830.toInt; omega), fun e => by have e : (I20813 16).toInt = 1 := e; first | (exfalso; omega) | (show y20828.toInt = (A20813 10 1).toInt; omega)⟩, (IvM_hr (I := I20813) (A := A20813) hV20813), (IvM_hh (I := I20813) (A := A20813) hV20813), trivial⟩, (by rw [show ((upd (upd I20813 11 (-2)) 17 y20828) 4) = (I20813 4) from rfl] <;> omega), (by rw [show ((upd (upd I20813 11 (-2)) 17 y20828) 6) = (I20813 6) from rfl] <;> omega), (by rw [show ((upd (upd I20813 11 (-2)) 17 y20828) 8) = (I20481 8) from (hI20813 8 rfl)] <;> omega), hF, rfl, rfl⟩ dX12_tellQuery_251
                        replace hF := FE.neg hF c20829
                        exfalso; omega
                      · skip
                        replace hF := FE.neg hF c20821
                        exact g_vret hk hR ⟨I20813, A20813, L20813, (show Md [4, 6, 7, 8, 9, 11, 12, 13, 17] I I20813 from (Md.tr (Md.tr (Md.tr (Md.tr (Md.up Md.rf rfl) hI16825 rfl) hI16839 rfl) hI20481 rfl) hI20813 rfl)), (show Md [10, 11, 12] A A20813 from (Md.tr (Md.tr (Md.up3 (Md.tr (Md.tr Md.rf hA16825 rfl) hA16839 rfl) rfl) hA20481 rfl) hA20813 rfl)), hV20813, (by omega), (by omega), (by rw [show (I20813 8) = (I20481 8) from (hI20813 8 rfl)] <;> omega), hF, rfl, rfl⟩ dX12_tellQuery_206
                    · skip
                      replace hF := FE.neg hF c20811
                      refine g_aload_n hk dX12_tellQuery_184 rfl ?_
                      refine g_bipush (v := 6) hk dX12_tellQuery_185 (by decide) ?_
                      refine g_aload_n hk dX12_tellQuery_187 rfl ?_
                      refine gM_i4 (v := (I20481 4)) hk hin12 (List.mem_cons_of_mem _ (List.mem_append_left _ (List.mem_of_getElem? (i := 3) rfl))) dX12_tellQuery_188 rfl ?_
                      have k20841 : (6 : Int32).toInt = 6 := rfl
                      refine g_callV (n := 2) hk (j134_X12_wrong l D zt r g I20481 A20481 L20481 6 (I20481 4) hV20481 (by decide) (by decide) (by omega) (by omega)) (SP.same _) (fun _ h => h) (gi_V (List.mem_cons_of_mem _ (List.mem_append_left _ (List.mem_of_getElem? (i := 19) rfl))) (List.mem_cons_of_mem _ (List.mem_append_left _ (List.mem_of_getElem? (i := 20) rfl))) (List.mem_cons_of_mem _ (List.mem_append_left _ (List.mem_of_getElem? (i := 21) rfl))) (List.mem_cons_of_mem _ (List.mem_append_left _ (List.mem_of_getElem? (i := 7) rfl))) (gi_sub (fun w h => (List.mem_cons_of_mem _ (List.mem_append_right _ (List.mem_append_right _ (List.mem_append_right _ (List.mem_append_right _ (List.mem_append_right _ (List.mem_append_left _ h)))))))) zg_j134_X12_wrong)) rfl rfl rfl (by decide +kernel) ⟨Nat.le_of_ble_eq_true rfl, Nat.le_of_ble_eq_true rfl⟩ 0 rfl rfl rfl rfl (Nat.le_of_ble_eq_true rfl) ⟨Nat.le_of_ble_eq_true rfl, Nat.le_of_ble_eq_true rfl⟩ dX12_tellQuery_191 (fun v ty' w' hp hk' => ?_)
                      obtain ⟨I20843, A20843, L20843, hI20843, hA20843, hV20843, r20844, r20845, r20846, hL20843, hC, rfl, rfl⟩ := hp
                      replace hF := FE.bdM hF hC
                      rw [show (I20843 6) = (I20481 6) from (hI20843 6 rfl)] at r20844
                      have f20847 := IvM_f8 hV20843
                      rw [show (I20843 6) = (I20481 6) from (hI20843 6 rfl)] at r20846
                      show GW κ 4 0 0 (wM r g I20843 A20843 L20843) 194 [(3, .int x16835), (2, .int (I 4)), (1, .int y16821), (0, .ref (r 0))] []
                      refine g_aload_n hk dX12_tellQuery_194 rfl ?_
                      refine g_iconst (v := 4) hk dX12_tellQuery_195 (by decide) ?_
                      refine g_callV (n := 1) hk (j131_X12_must l D zt r g I20843 A20843 L20843 4 hV20843) (SP.same _) (fun _ h => h) (gi_V (List.mem_cons_of_mem _ (List.mem_append_left _ (List.mem_of_getElem? (i := 4) rfl))) (List.mem_cons_of_mem _ (List.mem_append_left _ (List.mem_of_getElem? (i := 5) rfl))) (List.mem_cons_of_mem _ (List.mem_append_left _ (List.mem_of_getElem? (i := 6) rfl))) (List.mem_cons_of_mem _ (List.mem_append_left _ (List.mem_of_getElem? (i := 7) rfl))) (gi_sub (fun w h => (List.mem_cons_of_mem _ (List.mem_append_right _ (List.mem_append_right _ (List.mem_append_left _ h))))) zg_j131_X12_must)) rfl rfl rfl (by decide +kernel) ⟨Nat.le_of_ble_eq_true rfl, Nat.le_of_ble_eq_true rfl⟩ 0 rfl rfl rfl rfl (Nat.le_of_ble_eq_true rfl) ⟨Nat.le_of_ble_eq_true rfl, Nat.le_of_ble_eq_true rfl⟩ dX12_tellQuery_196 (fun v ty' w' hp hk' => ?_)
                      obtain ⟨I20849, A20849, L20849, hI20849, hA20849, hV20849, r20850, r20851, r20852, r20853, r20854, hL20849, hC, rfl, rfl⟩ := hp
                      replace hF := FE.bdM hF hC
                      have f20855 := IvM_f4 hV20849
                      rw [show (I20843 4) = (I20481 4) from (hI20843 4 rfl)] at r20850
                      have f20856 := IvM_f6 hV20849
                      rw [show (I20843 6) = (I20481 6) from (hI20843 6 rfl)] at r20851
                      rw [show (I20849 8) = (I20843 8) from (hI20849 8 rfl)] at r20852
                      rw [show (I20843 4) = (I20481 4) from (hI20843 4 rfl)] at r20853
                      rw [show (I20843 6) = (I20481 6) from (hI20843 6 rfl), show (A20843 2 (I20843 4).toNatClampNeg) = (A 2 (I20481 4).toNatClampNeg) from (by rw [show I20843 4 = (I20481 4) from (hI20843 4 rfl)]; exact ((congrFun (hA20843 2 rfl) _).trans ((congrFun (hA20481 2 rfl) _).trans ((congrFun (hA16839 2 rfl) _).trans (congrFun (hA16825 2 rfl) _)))))] at r20854
                      show GW κ 4 0 0 (wM r g I20849 A20849 L20849) 199 [(3, .int x16835), (2, .int (I 4)), (1, .int y16821), (0, .ref (r 0))] []
                      refine g_aload_n hk dX12_tellQuery_199 rfl ?_
                      refine gM_i6 (v := (I20849 6)) hk hin12 (List.mem_cons_of_mem _ (List.mem_append_left _ (List.mem_of_getElem? (i := 16) rfl))) dX12_tellQuery_200 rfl ?_
                      refine g_if_le (tgt := 207) (a := (I20849 6).toInt) hk dX12_tellQuery_203 (by decide) rfl (fun c20857 => ?_) (fun c20857 => ?_)
                      · skip
                        replace hF := FE.pos hF c20857
                        refine g_aload_n hk dX12_tellQuery_207 rfl ?_
                        refine g_bipush (v := (-2)) hk dX12_tellQuery_208 (by decide) ?_
                        refine pM_i11 hk hin12 (List.mem_cons_of_mem _ (List.mem_append_left _ (List.mem_of_getElem? (i := 0) rfl))) dX12_tellQuery_210 ?_
                        refine g_aload_n hk dX12_tellQuery_213 rfl ?_
                        refine gM_r0_25 hk hin12 (List.mem_cons_of_mem _ (List.mem_append_left _ (List.mem_of_getElem? (i := 17) rfl))) dX12_tellQuery_214 ?_
                        refine g_aload_n hk dX12_tellQuery_217 rfl ?_
                        refine gM_i17 (v := (I 17)) hk hin12 (List.mem_cons_of_mem _ (List.mem_append_left _ (List.mem_of_getElem? (i := 8) rfl))) dX12_tellQuery_218 ((hI20849 17 rfl).trans ((hI20843 17 rfl).trans ((hI20481 17 rfl).trans ((hI16839 17 rfl).trans (hI16825 17 rfl))))) ?_
                        have g20858 : (I20849 16).toInt = (I 16).toInt := by rw [show (I20849 16) = (I 16) from ((hI20849 16 rfl).trans ((hI20843 16 rfl).trans ((hI20481 16 rfl).trans ((hI16839 16 rfl).trans (hI16825 16 rfl)))))]
                        have g20859 : (I20849 17).toInt = (I 17).toInt := by rw [show (I20849 17) = (I 17) from ((hI20849 17 rfl).trans ((hI20843 17 rfl).trans ((hI20481 17 rfl).trans ((hI16839 17 rfl).trans (hI16825 17 rfl)))))]
                        have g20860 : (A20849 10 0).toInt = (A 10 0).toInt := by rw [show (A20849 10 0) = (A 10 0) from ((congrFun (hA20849 10 rfl) _).trans ((congrFun (hA20843 10 rfl) _).trans ((congrFun (hA20481 10 rfl) _).trans ((congrFun (hA16839 10 rfl) _).trans (congrFun (hA16825 10 rfl) _)))))]
                        have g20861 : (A20849 10 1).toInt = (A 10 1).toInt := by rw [show (A20849 10 1) = (A 10 1) from ((congrFun (hA20849 10 rfl) _).trans ((congrFun (hA20843 10 rfl) _).trans ((congrFun (hA20481 10 rfl) _).trans ((congrFun (hA16839 10 rfl) _).trans (congrFun (hA16825 10 rfl) _)))))]
                        have g20862 := (IvM_nq (I := I20849) (A := A20849) hV20849).1 (by omega)
                        refine g_aload_n hk dX12_tellQuery_221 rfl ?_
                        refine gM_r0_8 hk hin12 (List.mem_cons_of_mem _ (List.mem_append_left _ (List.mem_of_getElem? (i := 18) rfl))) dX12_tellQuery_222 ?_
                        refine g_iload_n hk dX12_tellQuery_225 rfl ?_
                        refine lM_5 hk (vp_in_iff.mpr ⟨by omega, by omega⟩) rfl dX12_tellQuery_226 ?_
                        refine g_topl (fun y20863 ey20863 => ?_)
                        replace hF := FE.lt hF ey20863
                        refine sM_7 (j := (I 17).toNatClampNeg) hk (vp_in_iff.mpr ⟨by omega, by omega⟩) rfl dX12_tellQuery_227 ?_
                        refine g_aload_n hk dX12_tellQuery_228 rfl ?_
                        refine g_dup hk dX12_tellQuery_229 rfl ?_
                        refine gM_i17 (v := (I 17)) hk hin12 (List.mem_cons_of_mem _ (List.mem_append_left _ (List.mem_of_getElem? (i := 8) rfl))) dX12_tellQuery_230 ((hI20849 17 rfl).trans ((hI20843 17 rfl).trans ((hI20481 17 rfl).trans ((hI16839 17 rfl).trans (hI16825 17 rfl))))) ?_
                        refine g_iconst (v := 1) hk dX12_tellQuery_233 (by decide) ?_
                        refine g_iadd hk dX12_tellQuery_234 ?_
                        refine g_topi (fun y20864 ey20864 => ?_)
                        replace hF := FE.lt hF ey20864
                        have hy20864 : y20864.toInt = (I 17).toInt + 1 := i32_add ey20864 rfl rfl (by omega) (by omega)
                        refine pM_i17 hk hin12 (List.mem_cons_of_mem _ (List.mem_append_left _ (List.mem_of_getElem? (i := 8) rfl))) dX12_tellQuery_235 ?_
                        refine g_aload_n hk dX12_tellQuery_238 rfl ?_
                        refine gM_r0_28 hk hin12 (List.mem_cons_of_mem _ (List.mem_append_left _ (List.mem_of_getElem? (i := 2) rfl))) dX12_tellQuery_239 ?_
                        refine g_aload_n hk dX12_tellQuery_242 rfl ?_
                        refine gM_i16 (v := (I 16)) hk hin12 (List.mem_cons_of_mem _ (List.mem_append_left _ (List.mem_of_getElem? (i := 1) rfl))) dX12_tellQuery_243 ((hI20849 16 rfl).trans ((hI20843 16 rfl).trans ((hI20481 16 rfl).trans ((hI16839 16 rfl).trans (hI16825 16 rfl))))) ?_
                        by_cases c20865 : (I 16).toInt = 0
                        · have ec20865 : (I 16) = 0 := Int32.toInt_inj.mp c20865
                          replace hF := FE.pos hF c20865
                          rw [ec20865]
                          show GW κ 4 0 0 (wM r g (upd (upd I20849 11 (-2)) 17 y20864) A20849 (up3L L20849 7 ((I 17).toNatClampNeg) y20863)) 246 [(3, .int x16835), (2, .int (I 4)), (1, .int y16821), (0, .ref (r 0))] [.int 0, .ref (r 11)]
                          refine g_dup2 hk dX12_tellQuery_246 rfl rfl ?_
                          refine lM_10 (v := (A 10 0)) hk (vp_in_iff.mpr ⟨by decide, by decide⟩) ((congrFun (hA20849 10 rfl) _).trans ((congrFun (hA20843 10 rfl) _).trans ((congrFun (hA20481 10 rfl) _).trans ((congrFun (hA16839 10 rfl) _).trans (congrFun (hA16825 10 rfl) _))))) dX12_tellQuery_247 ?_
                          refine g_iconst (v := 1) hk dX12_tellQuery_248 (by decide) ?_
                          refine g_iadd hk dX12_tellQuery_249 ?_
                          refine g_topi (fun y20866 ey20866 => ?_)
                          replace hF := FE.lt hF ey20866
                          have hy20866 : y20866.toInt = (A 10 0).toInt + 1 := i32_add ey20866 rfl rfl (by omega) (by omega)
                          refine sM_10 (j := 0) hk (vp_in_iff.mpr ⟨by decide, by decide⟩) (by decide) dX12_tellQuery_250 ?_
                          have f20867 := IvM_s10_0 hV20849
                          have f20868 := IvM_s10_1 hV20849
                          have g20869 : (I20849 15).toInt = (I 15).toInt := by rw [show (I20849 15) = (I 15) from ((hI20849 15 rfl).trans ((hI20843 15 rfl).trans ((hI20481 15 rfl).trans ((hI16839 15 rfl).trans (hI16825 15 rfl)))))]
                          have g20870 := IvM_s10_0 (I := I20849) (A := A20849) hV20849
                          have g20871 := IvM_s10_1 (I := I20849) (A := A20849) hV20849
                          have g20872 : (I20849 8).toInt = (I20843 8).toInt := by rw [show (I20849 8) = (I20843 8) from (hI20849 8 rfl)]
                          have q20873 := cl_int (y := y16821) (by omega)
                          have g20874 : (A20849 11 y16821.toNatClampNeg).toInt = (A20481 11 y16821.toNatClampNeg).toInt := by rw [show (A20849 11 y16821.toNatClampNeg) = (A20481 11 y16821.toNatClampNeg) from ((congrFun (hA20849 11 rfl) _).trans (congrFun (hA20843 11 rfl) _))]
                          have u20875 : 0 < (I16825 6).toInt ∨ ((I 6).toInt = 0 ∧ (A 2 (I 4).toNatClampNeg).toInt = (1 : Int32).toInt) := r16830
                          have u20876 : 0 < (I20849 6).toInt ∨ ((I20481 6).toInt = 0 ∧ (A 2 (I20481 4).toNatClampNeg).toInt = (4 : Int32).toInt) := r20854
                          exact g_vret hk hR ⟨(upd (upd I20849 11 (-2)) 17 y20864), (up3 A20849 10 0 y20866), (up3L L20849 7 ((I 17).toNatClampNeg) y20863), (show Md [4, 6, 7, 8, 9, 11, 12, 13, 17] I (upd (upd I20849 11 (-2)) 17 y20864) from (Md.up (Md.up (Md.tr (Md.tr (Md.tr (Md.tr (Md.tr (Md.up Md.rf rfl) hI16825 rfl) hI16839 rfl) hI20481 rfl) hI20843 rfl) hI20849 rfl) rfl) rfl)), (show Md [10, 11, 12] A (up3 A20849 10 0 y20866) from (Md.up3 (Md.tr (Md.tr (Md.tr (Md.up3 (Md.tr (Md.tr Md.rf hA16825 rfl) hA16839 rfl) rfl) hA20481 rfl) hA20843 rfl) hA20849 rfl) rfl)), ⟨(IvM_f1 (I := I20849) (A := A20849) hV20849), (IvM_f2 (I := I20849) (A := A20849) hV20849), (IvM_f3 (I := I20849) (A := A20849) hV20849), (IvM_f4 (I := I20849) (A := A20849) hV20849), (IvM_f6 (I := I20849) (A := A20849) hV20849), (IvM_f8 (I := I20849) (A := A20849) hV20849), (IvM_f15 (I := I20849) (A := A20849) hV20849), (IvM_f16 (I := I20849) (A := A20849) hV20849), (show 0 ≤ y20864.toInt ∧ y20864.toInt ≤ 5 from ⟨by omega, by omega⟩), (IvM_f18 (I := I20849) (A := A20849) hV20849), (IvM_f22 (I := I20849) (A := A20849) hV20849), (IvM_f23 (I := I20849) (A := A20849) hV20849), (IvM_f24 (I := I20849) (A := A20849) hV20849), (IvM_a11 (I := I20849) (A := A20849) hV20849), (IvM_a26 (I := I20849) (A := A20849) hV20849), (IvM_s8_0 (I := I20849) (A := A20849) hV20849), (IvM_s8_1 (I := I20849) (A := A20849) hV20849), (show 0 ≤ ((up3 A20849 10 0 y20866) 10 0).toInt ∧ ((up3 A20849 10 0 y20866) 10 0).toInt ≤ 5 from by rw [show (up3 A20849 10 0 y20866) 10 0 = y20866 from rfl]; exact ⟨by omega, by omega⟩), (show 0 ≤ ((up3 A20849 10 0 y20866) 10 1).toInt ∧ ((up3 A20849 10 0 y20866) 10 1).toInt ≤ 5 from by rw [show (up3 A20849 10 0 y20866) 10 1 = (A20849 10 1) from rfl]; exact (IvM_s10_1 (I := I20849) (A := A20849) hV20849)), (IvM_s17_0 (I := I20849) (A := A20849) hV20849), (IvM_s17_164 (I := I20849) (A := A20849) hV20849), ⟨fun e => by have e : (I20849 15).toInt = 0 := e; first | exact (IvM_lv (I := I20849) (A := A20849) hV20849).1 e | (exfalso; omega), fun e => by have e : (I20849 15).toInt = 1 := e; first | exact (IvM_lv (I := I20849) (A := A20849) hV20849).2 e | (exfalso; omega)⟩, (by first | (exfalso; omega) | (by_cases g8 : (I20849 8).toInt ≠ 0; exact Or.inr (Or.inl g8); rcases (IvM_sd (I := I20849) (A := A20849) hV20849) with h9 | h9 | h9; exact absurd h9 (by omega); exact absurd h9 g8; exact Or.inr (Or.inr ⟨fun e => by have e : (I20849 16).toInt = 0 := e; first | exact ghf_add (n := (A20849 10 0)) (f := (A20849 11)) (n2 := y20866) (p := y16821.toNatClampNeg) (h9.1 e) (by omega) (by omega) (by omega) | (exfalso; omega), fun e => by have e : (I20849 16).toInt = 1 := e; first | exact ghf_add (n := (A20849 10 1)) (f := (A20849 11)) (n2 := y20866) (p := y16821.toNatClampNeg) (h9.2 e) (by omega) (by omega) (by omega) | (exfalso; omega)⟩))), ⟨fun e => by have e : (I20849 16).toInt = 0 := e; first | (exfalso; omega) | (show y20864.toInt = y20866.toInt; omega), fun e => by have e : (I20849 16).toInt = 1 := e; first | (exfalso; omega) | (show y20864.toInt = (A20849 10 1).toInt; omega)⟩, (IvM_hr (I := I20849) (A := A20849) hV20849), (IvM_hh (I := I20849) (A := A20849) hV20849), trivial⟩, (by rw [show ((upd (upd I20849 11 (-2)) 17 y20864) 4) = (I20849 4) from rfl] <;> omega), (by rw [show ((upd (upd I20849 11 (-2)) 17 y20864) 6) = (I20849 6) from rfl] <;> omega), (by rw [show ((upd (upd I20849 11 (-2)) 17 y20864) 8) = (I20843 8) from (hI20849 8 rfl)] <;> omega), hF, rfl, rfl⟩ dX12_tellQuery_251
                        replace hF := FE.neg hF c20865
                        exfalso; omega
                      · skip
                        replace hF := FE.neg hF c20857
                        exact g_vret hk hR ⟨I20849, A20849, L20849, (show Md [4, 6, 7, 8, 9, 11, 12, 13, 17] I I20849 from (Md.tr (Md.tr (Md.tr (Md.tr (Md.tr (Md.up Md.rf rfl) hI16825 rfl) hI16839 rfl) hI20481 rfl) hI20843 rfl) hI20849 rfl)), (show Md [10, 11, 12] A A20849 from (Md.tr (Md.tr (Md.tr (Md.up3 (Md.tr (Md.tr Md.rf hA16825 rfl) hA16839 rfl) rfl) hA20481 rfl) hA20843 rfl) hA20849 rfl)), hV20849, (by omega), (by omega), (by rw [show (I20849 8) = (I20843 8) from (hI20849 8 rfl)] <;> omega), hF, rfl, rfl⟩ dX12_tellQuery_206
                · skip
                  replace hF := FE.neg hF (fe_ne hC (by decide))
                  show GW κ 4 0 0 (wM r g I20481 A20481 L20481) 88 [(3, .int x16835), (2, .int (I 4)), (1, .int y16821), (0, .ref (r 0))] [.int 1]
                  refine g_if_eq (tgt := 166) (a := 1) hk dX12_tellQuery_88 (by decide) rfl (fun z9 => absurd z9 (show ¬ ((1 : Int) = (0 : Int)) from by decide)) (fun _ => ?_)
                  refine g_aload_n hk dX12_tellQuery_91 rfl ?_
                  refine gM_r0_29 hk hin12 (List.mem_cons_of_mem _ (List.mem_append_left _ (List.mem_of_getElem? (i := 9) rfl))) dX12_tellQuery_92 ?_
                  refine g_iload_n hk dX12_tellQuery_95 rfl ?_
                  refine lM_11 (v := (A20481 11 y16821.toNatClampNeg)) hk (vp_in_iff.mpr ⟨by omega, by omega⟩) rfl dX12_tellQuery_96 ?_
                  have f20877 := IvM_a11 hV20481 (y16821.toNatClampNeg)
                  refine g_bipush (v := 16) hk dX12_tellQuery_97 (by decide) ?_
                  refine g_icmp_ne (tgt := 107) (a := (A20481 11 y16821.toNatClampNeg).toInt) (b := 16) hk dX12_tellQuery_99 (by decide) rfl rfl (fun c20878 => ?_) (fun c20878 => ?_)
                  · skip
                    replace hF := FE.pos hF c20878
                    refine g_aload_n hk dX12_tellQuery_107 rfl ?_
                    refine gM_i6 (v := (I20481 6)) hk hin12 (List.mem_cons_of_mem _ (List.mem_append_left _ (List.mem_of_getElem? (i := 16) rfl))) dX12_tellQuery_108 rfl ?_
                    refine g_if_le (tgt := 115) (a := (I20481 6).toInt) hk dX12_tellQuery_111 (by decide) rfl (fun c20879 => ?_) (fun c20879 => ?_)
                    · skip
                      replace hF := FE.pos hF c20879
                      refine g_aload_n hk dX12_tellQuery_115 rfl ?_
                      refine gM_r0_30 hk hin12 (List.mem_cons_of_mem _ (List.mem_append_left _ (List.mem_of_getElem? (i := 22) rfl))) dX12_tellQuery_116 ?_
                      refine g_bipush (v := 16) hk dX12_tellQuery_119 (by decide) ?_
                      refine g_iload_n hk dX12_tellQuery_121 rfl ?_
                      refine g_imul hk dX12_tellQuery_122 ?_
                      refine g_topi (fun y20880 ey20880 => ?_)
                      replace hF := FE.lt hF ey20880
                      have hy20880 : y20880.toInt = 16 * y16821.toInt := i32_mul ey20880 rfl rfl (by omega) (by omega)
                      refine g_aload_n hk dX12_tellQuery_123 rfl ?_
                      refine gM_r0_29 hk hin12 (List.mem_cons_of_mem _ (List.mem_append_left _ (List.mem_of_getElem? (i := 9) rfl))) dX12_tellQuery_124 ?_
                      refine g_iload_n hk dX12_tellQuery_127 rfl ?_
                      refine lM_11 (v := (A20481 11 y16821.toNatClampNeg)) hk (vp_in_iff.mpr ⟨by omega, by omega⟩) rfl dX12_tellQuery_128 ?_
                      refine g_iadd hk dX12_tellQuery_129 ?_
                      refine g_topi (fun y20881 ey20881 => ?_)
                      replace hF := FE.lt hF ey20881
                      have hy20881 : y20881.toInt = y20880.toInt + (A20481 11 y16821.toNatClampNeg).toInt := i32_add ey20881 rfl rfl (by omega) (by omega)
                      refine g_aload_n hk dX12_tellQuery_130 rfl ?_
                      refine g_callV (n := 0) hk (j132_X12_readingTold l D zt r g I20481 A20481 L20481  hV20481) (SP.same _) (fun _ h => h) (gi_V (List.mem_cons_of_mem _ (List.mem_append_left _ (List.mem_of_getElem? (i := 23) rfl))) (List.mem_cons_of_mem _ (List.mem_append_left _ (List.mem_of_getElem? (i := 24) rfl))) (List.mem_cons_of_mem _ (List.mem_append_left _ (List.mem_of_getElem? (i := 25) rfl))) (List.mem_cons_of_mem _ (List.mem_append_left _ (List.mem_of_getElem? (i := 7) rfl))) (gi_sub (fun w h => (List.mem_cons_of_mem _ (List.mem_append_right _ (List.mem_append_right _ (List.mem_append_right _ (List.mem_append_right _ (List.mem_append_right _ (List.mem_append_right _ (List.mem_append_left _ h))))))))) zg_j132_X12_readingTold)) rfl rfl rfl (by decide +kernel) ⟨Nat.le_of_ble_eq_true rfl, Nat.le_of_ble_eq_true rfl⟩ 0 rfl rfl rfl rfl (Nat.le_of_ble_eq_true rfl) ⟨Nat.le_of_ble_eq_true rfl, Nat.le_of_ble_eq_true rfl⟩ dX12_tellQuery_131 (fun v ty' w' hp hk' => ?_)
                      obtain ⟨I20883, A20883, L20883, hI20883, hA20883, hV20883, y20882, r20884, r20885, r20886, r20887, hL20883, hC, rfl, rfl⟩ := hp
                      replace hF := FE.bdM hF hC
                      have f20888 := IvM_f4 hV20883
                      have f20889 := IvM_f6 hV20883
                      have f20890 := IvM_f8 hV20883
                      show GW κ 4 0 0 (wM r g I20883 A20883 L20883) 134 [(3, .int x16835), (2, .int (I 4)), (1, .int y16821), (0, .ref (r 0))] [.int y20882, .int y20881, .ref (r 13)]
                      refine sM_12 (j := y20881.toNatClampNeg) hk (vp_in_iff.mpr ⟨by omega, by omega⟩) rfl dX12_tellQuery_134 ?_
                      refine g_aload_n hk dX12_tellQuery_135 rfl ?_
                      refine gM_i6 (v := (I20883 6)) hk hin12 (List.mem_cons_of_mem _ (List.mem_append_left _ (List.mem_of_getElem? (i := 16) rfl))) dX12_tellQuery_136 rfl ?_
                      refine g_if_le (tgt := 143) (a := (I20883 6).toInt) hk dX12_tellQuery_139 (by decide) rfl (fun c20891 => ?_) (fun c20891 => ?_)
                      · skip
                        replace hF := FE.pos hF c20891
                        refine g_aload_n hk dX12_tellQuery_143 rfl ?_
                        refine gM_r0_29 hk hin12 (List.mem_cons_of_mem _ (List.mem_append_left _ (List.mem_of_getElem? (i := 9) rfl))) dX12_tellQuery_144 ?_
                        refine g_iload_n hk dX12_tellQuery_147 rfl ?_
                        refine g_dup2 hk dX12_tellQuery_148 rfl rfl ?_
                        refine lM_11 (v := (A20481 11 y16821.toNatClampNeg)) hk (vp_in_iff.mpr ⟨by omega, by omega⟩) (congrFun (hA20883 11 rfl) _) dX12_tellQuery_149 ?_
                        refine g_iconst (v := 1) hk dX12_tellQuery_150 (by decide) ?_
                        refine g_iadd hk dX12_tellQuery_151 ?_
                        refine g_topi (fun y20892 ey20892 => ?_)
                        replace hF := FE.lt hF ey20892
                        have hy20892 : y20892.toInt = (A20481 11 y16821.toNatClampNeg).toInt + 1 := i32_add ey20892 rfl rfl (by omega) (by omega)
                        refine sM_11 (j := y16821.toNatClampNeg) hk (vp_in_iff.mpr ⟨by omega, by omega⟩) rfl dX12_tellQuery_152 ?_
                        have hA20893 : ∀ j, 0 ≤ ((up3 (up3 A20883 12 (y20881.toNatClampNeg) y20882) 11 (y16821.toNatClampNeg) y20892) 11 j).toInt ∧ ((up3 (up3 A20883 12 (y20881.toNatClampNeg) y20882) 11 (y16821.toNatClampNeg) y20892) 11 j).toInt ≤ 16 := ai_st ((IvM_a11 hV20883)) ⟨by omega, by omega⟩
                        refine g_aload_n hk dX12_tellQuery_153 rfl ?_
                        refine g_dup hk dX12_tellQuery_154 rfl ?_
                        refine gM_i11 (v := (I20481 11)) hk hin12 (List.mem_cons_of_mem _ (List.mem_append_left _ (List.mem_of_getElem? (i := 0) rfl))) dX12_tellQuery_155 (hI20883 11 rfl) ?_
                        refine g_iconst (v := 1) hk dX12_tellQuery_158 (by decide) ?_
                        have b20894l := Int32.le_toInt (I20481 11)
                        have b20894h := Int32.toInt_lt (I20481 11)
                        refine g_iadd hk dX12_tellQuery_159 ?_
                        refine g_topi (fun y20895 ey20895 => ?_)
                        replace hF := FE.lt hF ey20895
                        refine pM_i11 hk hin12 (List.mem_cons_of_mem _ (List.mem_append_left _ (List.mem_of_getElem? (i := 0) rfl))) dX12_tellQuery_160 ?_
                        refine g_goto (tgt := 84) hk dX12_tellQuery_163 (by decide) ?_
                        have g20896 : (I20883 15).toInt = (I 15).toInt := by rw [show (I20883 15) = (I 15) from ((hI20883 15 rfl).trans ((hI20481 15 rfl).trans ((hI16839 15 rfl).trans (hI16825 15 rfl))))]
                        have g20897 : (I20883 16).toInt = (I 16).toInt := by rw [show (I20883 16) = (I 16) from ((hI20883 16 rfl).trans ((hI20481 16 rfl).trans ((hI16839 16 rfl).trans (hI16825 16 rfl))))]
                        have g20898 := IvM_s10_0 (I := I20883) (A := A20883) hV20883
                        have g20899 := IvM_s10_1 (I := I20883) (A := A20883) hV20883
                        have q20900 := cl_int (y := y16821) (by omega)
                        have g20901 : (A20883 10 0).toInt = (A 10 0).toInt := by rw [show (A20883 10 0) = (A 10 0) from ((congrFun (hA20883 10 rfl) _).trans ((congrFun (hA20481 10 rfl) _).trans ((congrFun (hA16839 10 rfl) _).trans (congrFun (hA16825 10 rfl) _))))]
                        have g20902 : (A20883 10 1).toInt = (A 10 1).toInt := by rw [show (A20883 10 1) = (A 10 1) from ((congrFun (hA20883 10 rfl) _).trans ((congrFun (hA20481 10 rfl) _).trans ((congrFun (hA16839 10 rfl) _).trans (congrFun (hA16825 10 rfl) _))))]
                        have q20903 := cl_int (y := y16821) (by omega)
                        exact g_lv (List.forall_mem_cons.mpr ⟨List.mem_of_getElem? (i := 0) rfl, (List.forall_mem_cons.mpr ⟨List.mem_of_getElem? (i := 1) rfl, (List.forall_mem_cons.mpr ⟨List.mem_of_getElem? (i := 2) rfl, (List.forall_mem_cons.mpr ⟨List.mem_of_getElem? (i := 3) rfl, (fun _ h => absurd h List.not_mem_nil)⟩)⟩)⟩)⟩) (ih20770 (upd I20883 11 y20895) (up3 (up3 A20883 12 (y20881.toNatClampNeg) y20882) 11 (y16821.toNatClampNeg) y20892) L20883 (show Md [4, 6, 7, 8, 9, 11, 12, 13] I16839 (upd I20883 11 y20895) from Md.tr hI20481 (show Md [4, 6, 7, 8, 9, 11, 12, 13] I20481 (upd I20883 11 y20895) from (Md.up (Md.tr Md.rf hI20883 rfl) rfl)) rfl) (show Md [11, 12] (up3 A16839 11 (y16821.toNatClampNeg) 0) (up3 (up3 A20883 12 (y20881.toNatClampNeg) y20882) 11 (y16821.toNatClampNeg) y20892) from Md.tr hA20481 (show Md [11, 12] A20481 (up3 (up3 A20883 12 (y20881.toNatClampNeg) y20882) 11 (y16821.toNatClampNeg) y20892) from (Md.up3 (Md.up3 (Md.tr Md.rf hA20883 rfl) rfl) rfl)) rfl) ⟨(IvM_f1 (I := I20883) (A := A20883) hV20883), (IvM_f2 (I := I20883) (A := A20883) hV20883), (IvM_f3 (I := I20883) (A := A20883) hV20883), (IvM_f4 (I := I20883) (A := A20883) hV20883), (IvM_f6 (I := I20883) (A := A20883) hV20883), (IvM_f8 (I := I20883) (A := A20883) hV20883), (IvM_f15 (I := I20883) (A := A20883) hV20883), (IvM_f16 (I := I20883) (A := A20883) hV20883), (IvM_f17 (I := I20883) (A := A20883) hV20883), (IvM_f18 (I := I20883) (A := A20883) hV20883), (IvM_f22 (I := I20883) (A := A20883) hV20883), (IvM_f23 (I := I20883) (A := A20883) hV20883), (IvM_f24 (I := I20883) (A := A20883) hV20883), hA20893, (IvM_a26 (I := I20883) (A := A20883) hV20883), (IvM_s8_0 (I := I20883) (A := A20883) hV20883), (IvM_s8_1 (I := I20883) (A := A20883) hV20883), (IvM_s10_0 (I := I20883) (A := A20883) hV20883), (IvM_s10_1 (I := I20883) (A := A20883) hV20883), (IvM_s17_0 (I := I20883) (A := A20883) hV20883), (IvM_s17_164 (I := I20883) (A := A20883) hV20883), ⟨fun e => by have e : (I20883 15).toInt = 0 := e; first | exact ghf_upd (n := (A20883 10 0)) ((IvM_lv (I := I20883) (A := A20883) hV20883).1 e) (fun q hq => by omega) | (exfalso; omega), fun e => by have e : (I20883 15).toInt = 1 := e; first | exact ghf_upd (n := (A20883 10 1)) ((IvM_lv (I := I20883) (A := A20883) hV20883).2 e) (fun q hq => by omega) | (exfalso; omega)⟩, (by rcases (IvM_sd (I := I20883) (A := A20883) hV20883) with h9 | h9 | h9; exact Or.inl h9; exact Or.inr (Or.inl h9); exact Or.inr (Or.inr ⟨fun e => by have e : (I20883 16).toInt = 0 := e; first | exact ghf_upd (n := (A20883 10 0)) (h9.1 e) (fun q hq => by omega) | (exfalso; omega), fun e => by have e : (I20883 16).toInt = 1 := e; first | exact ghf_upd (n := (A20883 10 1)) (h9.2 e) (fun q hq => by omega) | (exfalso; omega)⟩)), (IvM_nq (I := I20883) (A := A20883) hV20883), (IvM_hr (I := I20883) (A := A20883) hV20883), (IvM_hh (I := I20883) (A := A20883) hV20883), trivial⟩ (show L20883 = L16839 from (hL20883.trans hL20481)) (by first | (rw [show ((upd I20883 11 y20895) 4) = (I20883 4) from rfl] <;> omega) | omega) (by first | (rw [show ((upd I20883 11 y20895) 6) = (I20883 6) from rfl] <;> omega) | omega) (by first | (rw [show ((upd I20883 11 y20895) 8) = (I20883 8) from rfl] <;> omega) | omega) (by first | (rw [show ((upd I20883 11 y20895) 4) = (I20883 4) from rfl] <;> omega) | omega) (by omega) hF)
                      · skip
                        replace hF := FE.neg hF c20891
                        exact g_vret hk hR ⟨I20883, (up3 A20883 12 (y20881.toNatClampNeg) y20882), L20883, (show Md [4, 6, 7, 8, 9, 11, 12, 13, 17] I I20883 from (Md.tr (Md.tr (Md.tr (Md.tr (Md.up Md.rf rfl) hI16825 rfl) hI16839 rfl) hI20481 rfl) hI20883 rfl)), (show Md [10, 11, 12] A (up3 A20883 12 (y20881.toNatClampNeg) y20882) from (Md.up3 (Md.tr (Md.tr (Md.up3 (Md.tr (Md.tr Md.rf hA16825 rfl) hA16839 rfl) rfl) hA20481 rfl) hA20883 rfl) rfl)), ⟨(IvM_f1 (I := I20883) (A := A20883) hV20883), (IvM_f2 (I := I20883) (A := A20883) hV20883), (IvM_f3 (I := I20883) (A := A20883) hV20883), (IvM_f4 (I := I20883) (A := A20883) hV20883), (IvM_f6 (I := I20883) (A := A20883) hV20883), (IvM_f8 (I := I20883) (A := A20883) hV20883), (IvM_f15 (I := I20883) (A := A20883) hV20883), (IvM_f16 (I := I20883) (A := A20883) hV20883), (IvM_f17 (I := I20883) (A := A20883) hV20883), (IvM_f18 (I := I20883) (A := A20883) hV20883), (IvM_f22 (I := I20883) (A := A20883) hV20883), (IvM_f23 (I := I20883) (A := A20883) hV20883), (IvM_f24 (I := I20883) (A := A20883) hV20883), (IvM_a11 (I := I20883) (A := A20883) hV20883), (IvM_a26 (I := I20883) (A := A20883) hV20883), (IvM_s8_0 (I := I20883) (A := A20883) hV20883), (IvM_s8_1 (I := I20883) (A := A20883) hV20883), (IvM_s10_0 (I := I20883) (A := A20883) hV20883), (IvM_s10_1 (I := I20883) (A := A20883) hV20883), (IvM_s17_0 (I := I20883) (A := A20883) hV20883), (IvM_s17_164 (I := I20883) (A := A20883) hV20883), (IvM_lv (I := I20883) (A := A20883) hV20883), (IvM_sd (I := I20883) (A := A20883) hV20883), (IvM_nq (I := I20883) (A := A20883) hV20883), (IvM_hr (I := I20883) (A := A20883) hV20883), (IvM_hh (I := I20883) (A := A20883) hV20883), trivial⟩, (by omega), (by omega), (by omega), hF, rfl, rfl⟩ dX12_tellQuery_142
                    · skip
                      replace hF := FE.neg hF c20879
                      exact g_vret hk hR ⟨I20481, A20481, L20481, (show Md [4, 6, 7, 8, 9, 11, 12, 13, 17] I I20481 from (Md.tr (Md.tr (Md.tr (Md.up Md.rf rfl) hI16825 rfl) hI16839 rfl) hI20481 rfl)), (show Md [10, 11, 12] A A20481 from (Md.tr (Md.up3 (Md.tr (Md.tr Md.rf hA16825 rfl) hA16839 rfl) rfl) hA20481 rfl)), hV20481, (by omega), (by omega), (by omega), hF, rfl, rfl⟩ dX12_tellQuery_114
                  · skip
                    replace hF := FE.neg hF c20878
                    refine g_aload_n hk dX12_tellQuery_102 rfl ?_
                    refine g_iconst (v := 2) hk dX12_tellQuery_103 (by decide) ?_
                    have k20904 : (2 : Int32).toInt = 2 := rfl
                    refine g_callV (n := 1) hk (j128_X12_fail l D zt r g I20481 A20481 L20481 2 hV20481 (by decide) (by decide)) (SP.same _) (fun _ h => h) (gi_V (List.mem_cons_of_mem _ (List.mem_append_left _ (List.mem_of_getElem? (i := 26) rfl))) (List.mem_cons_of_mem _ (List.mem_append_left _ (List.mem_of_getElem? (i := 27) rfl))) (List.mem_cons_of_mem _ (List.mem_append_left _ (List.mem_of_getElem? (i := 28) rfl))) (List.mem_cons_of_mem _ (List.mem_append_left _ (List.mem_of_getElem? (i := 7) rfl))) (gi_sub (fun w h => (List.mem_cons_of_mem _ (List.mem_append_right _ (List.mem_append_right _ (List.mem_append_right _ (List.mem_append_right _ (List.mem_append_right _ (List.mem_append_right _ (List.mem_append_right _ (List.mem_append_left _ h)))))))))) zg_j128_X12_fail)) rfl rfl rfl (by decide +kernel) ⟨Nat.le_of_ble_eq_true rfl, Nat.le_of_ble_eq_true rfl⟩ 0 rfl rfl rfl rfl (Nat.le_of_ble_eq_true rfl) ⟨Nat.le_of_ble_eq_true rfl, Nat.le_of_ble_eq_true rfl⟩ dX12_tellQuery_104 (fun v ty' w' hp hk' => ?_)
                    obtain ⟨I20906, A20906, L20906, hI20906, hA20906, hV20906, r20907, r20908, r20909, hL20906, hC, rfl, rfl⟩ := hp
                    replace hF := FE.bdM hF hC
                    have f20910 := IvM_f6 hV20906
                    rw [show (I20906 8) = (I20481 8) from (hI20906 8 rfl)] at r20908
                    show GW κ 4 0 0 (wM r g I20906 A20906 L20906) 107 [(3, .int x16835), (2, .int (I 4)), (1, .int y16821), (0, .ref (r 0))] []
                    refine g_aload_n hk dX12_tellQuery_107 rfl ?_
                    refine gM_i6 (v := (I20906 6)) hk hin12 (List.mem_cons_of_mem _ (List.mem_append_left _ (List.mem_of_getElem? (i := 16) rfl))) dX12_tellQuery_108 rfl ?_
                    refine g_if_le (tgt := 115) (a := (I20906 6).toInt) hk dX12_tellQuery_111 (by decide) rfl (fun c20911 => ?_) (fun c20911 => ?_)
                    · skip
                      replace hF := FE.pos hF c20911
                      refine g_aload_n hk dX12_tellQuery_115 rfl ?_
                      refine gM_r0_30 hk hin12 (List.mem_cons_of_mem _ (List.mem_append_left _ (List.mem_of_getElem? (i := 22) rfl))) dX12_tellQuery_116 ?_
                      refine g_bipush (v := 16) hk dX12_tellQuery_119 (by decide) ?_
                      refine g_iload_n hk dX12_tellQuery_121 rfl ?_
                      refine g_imul hk dX12_tellQuery_122 ?_
                      refine g_topi (fun y20912 ey20912 => ?_)
                      replace hF := FE.lt hF ey20912
                      have hy20912 : y20912.toInt = 16 * y16821.toInt := i32_mul ey20912 rfl rfl (by omega) (by omega)
                      refine g_aload_n hk dX12_tellQuery_123 rfl ?_
                      refine gM_r0_29 hk hin12 (List.mem_cons_of_mem _ (List.mem_append_left _ (List.mem_of_getElem? (i := 9) rfl))) dX12_tellQuery_124 ?_
                      refine g_iload_n hk dX12_tellQuery_127 rfl ?_
                      refine lM_11 (v := (A20481 11 y16821.toNatClampNeg)) hk (vp_in_iff.mpr ⟨by omega, by omega⟩) (congrFun (hA20906 11 rfl) _) dX12_tellQuery_128 ?_
                      refine g_iadd hk dX12_tellQuery_129 ?_
                      refine g_topi (fun y20913 ey20913 => ?_)
                      replace hF := FE.lt hF ey20913
                      have hy20913 : y20913.toInt = y20912.toInt + (A20481 11 y16821.toNatClampNeg).toInt := i32_add ey20913 rfl rfl (by omega) (by omega)
                      refine g_aload_n hk dX12_tellQuery_130 rfl ?_
                      refine g_callV (n := 0) hk (j132_X12_readingTold l D zt r g I20906 A20906 L20906  hV20906) (SP.same _) (fun _ h => h) (gi_V (List.mem_cons_of_mem _ (List.mem_append_left _ (List.mem_of_getElem? (i := 23) rfl))) (List.mem_cons_of_mem _ (List.mem_append_left _ (List.mem_of_getElem? (i := 24) rfl))) (List.mem_cons_of_mem _ (List.mem_append_left _ (List.mem_of_getElem? (i := 25) rfl))) (List.mem_cons_of_mem _ (List.mem_append_left _ (List.mem_of_getElem? (i := 7) rfl))) (gi_sub (fun w h => (List.mem_cons_of_mem _ (List.mem_append_right _ (List.mem_append_right _ (List.mem_append_right _ (List.mem_append_right _ (List.mem_append_right _ (List.mem_append_right _ (List.mem_append_left _ h))))))))) zg_j132_X12_readingTold)) rfl rfl rfl (by decide +kernel) ⟨Nat.le_of_ble_eq_true rfl, Nat.le_of_ble_eq_true rfl⟩ 0 rfl rfl rfl rfl (Nat.le_of_ble_eq_true rfl) ⟨Nat.le_of_ble_eq_true rfl, Nat.le_of_ble_eq_true rfl⟩ dX12_tellQuery_131 (fun v ty' w' hp hk' => ?_)
                      obtain ⟨I20915, A20915, L20915, hI20915, hA20915, hV20915, y20914, r20916, r20917, r20918, r20919, hL20915, hC, rfl, rfl⟩ := hp
                      replace hF := FE.bdM hF hC
                      have f20920 := IvM_f4 hV20915
                      rw [show (I20906 4) = (I20481 4) from (hI20906 4 rfl)] at r20916
                      have f20921 := IvM_f6 hV20915
                      have f20922 := IvM_f8 hV20915
                      rw [show (I20906 8) = (I20481 8) from (hI20906 8 rfl)] at r20918
                      rw [show (I20906 4) = (I20481 4) from (hI20906 4 rfl)] at r20919
                      show GW κ 4 0 0 (wM r g I20915 A20915 L20915) 134 [(3, .int x16835), (2, .int (I 4)), (1, .int y16821), (0, .ref (r 0))] [.int y20914, .int y20913, .ref (r 13)]
                      refine sM_12 (j := y20913.toNatClampNeg) hk (vp_in_iff.mpr ⟨by omega, by omega⟩) rfl dX12_tellQuery_134 ?_
                      refine g_aload_n hk dX12_tellQuery_135 rfl ?_
                      refine gM_i6 (v := (I20915 6)) hk hin12 (List.mem_cons_of_mem _ (List.mem_append_left _ (List.mem_of_getElem? (i := 16) rfl))) dX12_tellQuery_136 rfl ?_
                      refine g_if_le (tgt := 143) (a := (I20915 6).toInt) hk dX12_tellQuery_139 (by decide) rfl (fun c20923 => ?_) (fun c20923 => ?_)
                      · skip
                        replace hF := FE.pos hF c20923
                        refine g_aload_n hk dX12_tellQuery_143 rfl ?_
                        refine gM_r0_29 hk hin12 (List.mem_cons_of_mem _ (List.mem_append_left _ (List.mem_of_getElem? (i := 9) rfl))) dX12_tellQuery_144 ?_
                        refine g_iload_n hk dX12_tellQuery_147 rfl ?_
                        refine g_dup2 hk dX12_tellQuery_148 rfl rfl ?_
                        refine lM_11 (v := (A20481 11 y16821.toNatClampNeg)) hk (vp_in_iff.mpr ⟨by omega, by omega⟩) ((congrFun (hA20915 11 rfl) _).trans (congrFun (hA20906 11 rfl) _)) dX12_tellQuery_149 ?_
                        refine g_iconst (v := 1) hk dX12_tellQuery_150 (by decide) ?_
                        refine g_iadd hk dX12_tellQuery_151 ?_
                        refine g_topi (fun y20924 ey20924 => ?_)
                        replace hF := FE.lt hF ey20924
                        have hy20924 : y20924.toInt = (A20481 11 y16821.toNatClampNeg).toInt + 1 := i32_add ey20924 rfl rfl (by omega) (by omega)
                        refine sM_11 (j := y16821.toNatClampNeg) hk (vp_in_iff.mpr ⟨by omega, by omega⟩) rfl dX12_tellQuery_152 ?_
                        have hA20925 : ∀ j, 0 ≤ ((up3 (up3 A20915 12 (y20913.toNatClampNeg) y20914) 11 (y16821.toNatClampNeg) y20924) 11 j).toInt ∧ ((up3 (up3 A20915 12 (y20913.toNatClampNeg) y20914) 11 (y16821.toNatClampNeg) y20924) 11 j).toInt ≤ 16 := ai_st ((IvM_a11 hV20915)) ⟨by omega, by omega⟩
                        refine g_aload_n hk dX12_tellQuery_153 rfl ?_
                        refine g_dup hk dX12_tellQuery_154 rfl ?_
                        refine gM_i11 (v := (I20481 11)) hk hin12 (List.mem_cons_of_mem _ (List.mem_append_left _ (List.mem_of_getElem? (i := 0) rfl))) dX12_tellQuery_155 ((hI20915 11 rfl).trans (hI20906 11 rfl)) ?_
                        refine g_iconst (v := 1) hk dX12_tellQuery_158 (by decide) ?_
                        have b20926l := Int32.le_toInt (I20481 11)
                        have b20926h := Int32.toInt_lt (I20481 11)
                        refine g_iadd hk dX12_tellQuery_159 ?_
                        refine g_topi (fun y20927 ey20927 => ?_)
                        replace hF := FE.lt hF ey20927
                        refine pM_i11 hk hin12 (List.mem_cons_of_mem _ (List.mem_append_left _ (List.mem_of_getElem? (i := 0) rfl))) dX12_tellQuery_160 ?_
                        refine g_goto (tgt := 84) hk dX12_tellQuery_163 (by decide) ?_
                        have g20928 : (I20915 15).toInt = (I 15).toInt := by rw [show (I20915 15) = (I 15) from ((hI20915 15 rfl).trans ((hI20906 15 rfl).trans ((hI20481 15 rfl).trans ((hI16839 15 rfl).trans (hI16825 15 rfl)))))]
                        have g20929 : (I20915 16).toInt = (I 16).toInt := by rw [show (I20915 16) = (I 16) from ((hI20915 16 rfl).trans ((hI20906 16 rfl).trans ((hI20481 16 rfl).trans ((hI16839 16 rfl).trans (hI16825 16 rfl)))))]
                        have g20930 := IvM_s10_0 (I := I20915) (A := A20915) hV20915
                        have g20931 := IvM_s10_1 (I := I20915) (A := A20915) hV20915
                        have q20932 := cl_int (y := y16821) (by omega)
                        have g20933 : (A20915 10 0).toInt = (A 10 0).toInt := by rw [show (A20915 10 0) = (A 10 0) from ((congrFun (hA20915 10 rfl) _).trans ((congrFun (hA20906 10 rfl) _).trans ((congrFun (hA20481 10 rfl) _).trans ((congrFun (hA16839 10 rfl) _).trans (congrFun (hA16825 10 rfl) _)))))]
                        have g20934 : (A20915 10 1).toInt = (A 10 1).toInt := by rw [show (A20915 10 1) = (A 10 1) from ((congrFun (hA20915 10 rfl) _).trans ((congrFun (hA20906 10 rfl) _).trans ((congrFun (hA20481 10 rfl) _).trans ((congrFun (hA16839 10 rfl) _).trans (congrFun (hA16825 10 rfl) _)))))]
                        have q20935 := cl_int (y := y16821) (by omega)
                        exact g_lv (List.forall_mem_cons.mpr ⟨List.mem_of_getElem? (i := 0) rfl, (List.forall_mem_cons.mpr ⟨List.mem_of_getElem? (i := 1) rfl, (List.forall_mem_cons.mpr ⟨List.mem_of_getElem? (i := 2) rfl, (List.forall_mem_cons.mpr ⟨List.mem_of_getElem? (i := 3) rfl, (fun _ h => absurd h List.not_mem_nil)⟩)⟩)⟩)⟩) (ih20770 (upd I20915 11 y20927) (up3 (up3 A20915 12 (y20913.toNatClampNeg) y20914) 11 (y16821.toNatClampNeg) y20924) L20915 (show Md [4, 6, 7, 8, 9, 11, 12, 13] I16839 (upd I20915 11 y20927) from Md.tr hI20481 (show Md [4, 6, 7, 8, 9, 11, 12, 13] I20481 (upd I20915 11 y20927) from (Md.up (Md.tr (Md.tr Md.rf hI20906 rfl) hI20915 rfl) rfl)) rfl) (show Md [11, 12] (up3 A16839 11 (y16821.toNatClampNeg) 0) (up3 (up3 A20915 12 (y20913.toNatClampNeg) y20914) 11 (y16821.toNatClampNeg) y20924) from Md.tr hA20481 (show Md [11, 12] A20481 (up3 (up3 A20915 12 (y20913.toNatClampNeg) y20914) 11 (y16821.toNatClampNeg) y20924) from (Md.up3 (Md.up3 (Md.tr (Md.tr Md.rf hA20906 rfl) hA20915 rfl) rfl) rfl)) rfl) ⟨(IvM_f1 (I := I20915) (A := A20915) hV20915), (IvM_f2 (I := I20915) (A := A20915) hV20915), (IvM_f3 (I := I20915) (A := A20915) hV20915), (IvM_f4 (I := I20915) (A := A20915) hV20915), (IvM_f6 (I := I20915) (A := A20915) hV20915), (IvM_f8 (I := I20915) (A := A20915) hV20915), (IvM_f15 (I := I20915) (A := A20915) hV20915), (IvM_f16 (I := I20915) (A := A20915) hV20915), (IvM_f17 (I := I20915) (A := A20915) hV20915), (IvM_f18 (I := I20915) (A := A20915) hV20915), (IvM_f22 (I := I20915) (A := A20915) hV20915), (IvM_f23 (I := I20915) (A := A20915) hV20915), (IvM_f24 (I := I20915) (A := A20915) hV20915), hA20925, (IvM_a26 (I := I20915) (A := A20915) hV20915), (IvM_s8_0 (I := I20915) (A := A20915) hV20915), (IvM_s8_1 (I := I20915) (A := A20915) hV20915), (IvM_s10_0 (I := I20915) (A := A20915) hV20915), (IvM_s10_1 (I := I20915) (A := A20915) hV20915), (IvM_s17_0 (I := I20915) (A := A20915) hV20915), (IvM_s17_164 (I := I20915) (A := A20915) hV20915), ⟨fun e => by have e : (I20915 15).toInt = 0 := e; first | exact ghf_upd (n := (A20915 10 0)) ((IvM_lv (I := I20915) (A := A20915) hV20915).1 e) (fun q hq => by omega) | (exfalso; omega), fun e => by have e : (I20915 15).toInt = 1 := e; first | exact ghf_upd (n := (A20915 10 1)) ((IvM_lv (I := I20915) (A := A20915) hV20915).2 e) (fun q hq => by omega) | (exfalso; omega)⟩, (by rcases (IvM_sd (I := I20915) (A := A20915) hV20915) with h9 | h9 | h9; exact Or.inl h9; exact Or.inr (Or.inl h9); exact Or.inr (Or.inr ⟨fun e => by have e : (I20915 16).toInt = 0 := e; first | exact ghf_upd (n := (A20915 10 0)) (h9.1 e) (fun q hq => by omega) | (exfalso; omega), fun e => by have e : (I20915 16).toInt = 1 := e; first | exact ghf_upd (n := (A20915 10 1)) (h9.2 e) (fun q hq => by omega) | (exfalso; omega)⟩)), (IvM_nq (I := I20915) (A := A20915) hV20915), (IvM_hr (I := I20915) (A := A20915) hV20915), (IvM_hh (I := I20915) (A := A20915) hV20915), trivial⟩ (show L20915 = L16839 from ((hL20915.trans hL20906).trans hL20481)) (by first | (rw [show ((upd I20915 11 y20927) 4) = (I20915 4) from rfl] <;> omega) | omega) (by first | (rw [show ((upd I20915 11 y20927) 6) = (I20915 6) from rfl] <;> omega) | omega) (by first | (rw [show ((upd I20915 11 y20927) 8) = (I20915 8) from rfl] <;> omega) | omega) (by first | (rw [show ((upd I20915 11 y20927) 4) = (I20915 4) from rfl] <;> omega) | omega) (by omega) hF)
                      · skip
                        replace hF := FE.neg hF c20923
                        exact g_vret hk hR ⟨I20915, (up3 A20915 12 (y20913.toNatClampNeg) y20914), L20915, (show Md [4, 6, 7, 8, 9, 11, 12, 13, 17] I I20915 from (Md.tr (Md.tr (Md.tr (Md.tr (Md.tr (Md.up Md.rf rfl) hI16825 rfl) hI16839 rfl) hI20481 rfl) hI20906 rfl) hI20915 rfl)), (show Md [10, 11, 12] A (up3 A20915 12 (y20913.toNatClampNeg) y20914) from (Md.up3 (Md.tr (Md.tr (Md.tr (Md.up3 (Md.tr (Md.tr Md.rf hA16825 rfl) hA16839 rfl) rfl) hA20481 rfl) hA20906 rfl) hA20915 rfl) rfl)), ⟨(IvM_f1 (I := I20915) (A := A20915) hV20915), (IvM_f2 (I := I20915) (A := A20915) hV20915), (IvM_f3 (I := I20915) (A := A20915) hV20915), (IvM_f4 (I := I20915) (A := A20915) hV20915), (IvM_f6 (I := I20915) (A := A20915) hV20915), (IvM_f8 (I := I20915) (A := A20915) hV20915), (IvM_f15 (I := I20915) (A := A20915) hV20915), (IvM_f16 (I := I20915) (A := A20915) hV20915), (IvM_f17 (I := I20915) (A := A20915) hV20915), (IvM_f18 (I := I20915) (A := A20915) hV20915), (IvM_f22 (I := I20915) (A := A20915) hV20915), (IvM_f23 (I := I20915) (A := A20915) hV20915), (IvM_f24 (I := I20915) (A := A20915) hV20915), (IvM_a11 (I := I20915) (A := A20915) hV20915), (IvM_a26 (I := I20915) (A := A20915) hV20915), (IvM_s8_0 (I := I20915) (A := A20915) hV20915), (IvM_s8_1 (I := I20915) (A := A20915) hV20915), (IvM_s10_0 (I := I20915) (A := A20915) hV20915), (IvM_s10_1 (I := I20915) (A := A20915) hV20915), (IvM_s17_0 (I := I20915) (A := A20915) hV20915), (IvM_s17_164 (I := I20915) (A := A20915) hV20915), (IvM_lv (I := I20915) (A := A20915) hV20915), (IvM_sd (I := I20915) (A := A20915) hV20915), (IvM_nq (I := I20915) (A := A20915) hV20915), (IvM_hr (I := I20915) (A := A20915) hV20915), (IvM_hh (I := I20915) (A := A20915) hV20915), trivial⟩, (by omega), (by omega), (by omega), hF, rfl, rfl⟩ dX12_tellQuery_142
                    · skip
                      replace hF := FE.neg hF c20911
                      exact g_vret hk hR ⟨I20906, A20906, L20906, (show Md [4, 6, 7, 8, 9, 11, 12, 13, 17] I I20906 from (Md.tr (Md.tr (Md.tr (Md.tr (Md.up Md.rf rfl) hI16825 rfl) hI16839 rfl) hI20481 rfl) hI20906 rfl)), (show Md [10, 11, 12] A A20906 from (Md.tr (Md.tr (Md.up3 (Md.tr (Md.tr Md.rf hA16825 rfl) hA16839 rfl) rfl) hA20481 rfl) hA20906 rfl)), hV20906, (by rw [show (I20906 4) = (I20481 4) from (hI20906 4 rfl)] <;> omega), (by omega), (by rw [show (I20906 8) = (I20481 8) from (hI20906 8 rfl)] <;> omega), hF, rfl, rfl⟩ dX12_tellQuery_114
            have b20937 := Int32.le_toInt (I16825 4)
            have b20938 := Int32.toInt_lt (I16825 4)
            have n20936a : 401 - (I16825 4).toInt < (FU : Int) := by have := FU_eq; omega
            have n20936b : 0 < FU := by have := FU_eq; omega
            have g20939 : (I16839 15).toInt = (I 15).toInt := by rw [show (I16839 15) = (I 15) from ((hI16839 15 rfl).trans (hI16825 15 rfl))]
            have g20940 : (I16839 16).toInt = (I 16).toInt := by rw [show (I16839 16) = (I 16) from ((hI16839 16 rfl).trans (hI16825 16 rfl))]
            have g20941 := IvM_s10_0 (I := I16839) (A := A16839) hV16839
            have g20942 := IvM_s10_1 (I := I16839) (A := A16839) hV16839
            have q20943 := cl_int (y := y16821) (by omega)
            have g20944 : (A16839 10 0).toInt = (A 10 0).toInt := by rw [show (A16839 10 0) = (A 10 0) from ((congrFun (hA16839 10 rfl) _).trans (congrFun (hA16825 10 rfl) _))]
            have g20945 : (A16839 10 1).toInt = (A 10 1).toInt := by rw [show (A16839 10 1) = (A 10 1) from ((congrFun (hA16839 10 rfl) _).trans (congrFun (hA16825 10 rfl) _))]
            have g20946 : (I16839 6).toInt = (I16825 6).toInt := by rw [show (I16839 6) = (I16825 6) from (hI16839 6 rfl)]
            have q20947 := cl_int (y := y16821) (by omega)
            exact lp20766 FU I16839 (up3 A16839 11 (y16821.toNatClampNeg) 0) L16839 Md.rf Md.rf ⟨(IvM_f1 (I := I16839) (A := A16839) hV16839), (IvM_f2 (I := I16839) (A := A16839) hV16839), (IvM_f3 (I := I16839) (A := A16839) hV16839), (IvM_f4 (I := I16839) (A := A16839) hV16839), (IvM_f6 (I := I16839) (A := A16839) hV16839), (IvM_f8 (I := I16839) (A := A16839) hV16839), (IvM_f15 (I := I16839) (A := A16839) hV16839), (IvM_f16 (I := I16839) (A := A16839) hV16839), (IvM_f17 (I := I16839) (A := A16839) hV16839), (IvM_f18 (I := I16839) (A := A16839) hV16839), (IvM_f22 (I := I16839) (A := A16839) hV16839), (IvM_f23 (I := I16839) (A := A16839) hV16839), (IvM_f24 (I := I16839) (A := A16839) hV16839), hA20476, (IvM_a26 (I := I16839) (A := A16839) hV16839), (IvM_s8_0 (I := I16839) (A := A16839) hV16839), (IvM_s8_1 (I := I16839) (A := A16839) hV16839), (IvM_s10_0 (I := I16839) (A := A16839) hV16839), (IvM_s10_1 (I := I16839) (A := A16839) hV16839), (IvM_s17_0 (I := I16839) (A := A16839) hV16839), (IvM_s17_164 (I := I16839) (A := A16839) hV16839), ⟨fun e => by have e : (I16839 15).toInt = 0 := e; first | exact ghf_upd (n := (A16839 10 0)) ((IvM_lv (I := I16839) (A := A16839) hV16839).1 e) (fun q hq => by omega) | (exfalso; omega), fun e => by have e : (I16839 15).toInt = 1 := e; first | exact ghf_upd (n := (A16839 10 1)) ((IvM_lv (I := I16839) (A := A16839) hV16839).2 e) (fun q hq => by omega) | (exfalso; omega)⟩, (by rcases (IvM_sd (I := I16839) (A := A16839) hV16839) with h9 | h9 | h9; exact Or.inl h9; exact Or.inr (Or.inl h9); exact Or.inr (Or.inr ⟨fun e => by have e : (I16839 16).toInt = 0 := e; first | exact ghf_upd (n := (A16839 10 0)) (h9.1 e) (fun q hq => by omega) | (exfalso; omega), fun e => by have e : (I16839 16).toInt = 1 := e; first | exact ghf_upd (n := (A16839 10 1)) (h9.2 e) (fun q hq => by omega) | (exfalso; omega)⟩)), (IvM_nq (I := I16839) (A := A16839) hV16839), (IvM_hr (I := I16839) (A := A16839) hV16839), (IvM_hh (I := I16839) (A := A16839) hV16839), trivial⟩ rfl (by first | (rw [show (I16839 4) = (I16825 4) from (hI16839 4 rfl)] <;> omega) | omega) (by first | (rw [show (I16839 6) = (I16825 6) from (hI16839 6 rfl)] <;> omega) | omega) (by omega) (by first | exact n20936a | (rw [show (I16839 4) = (I16825 4) from (hI16839 4 rfl)] <;> exact n20936a)) n20936b hF
          · skip
            replace hF := FE.neg hF c20474
            refine g_aload_n hk dX12_tellQuery_42 rfl ?_
            refine gM_i6 (v := (I16825 6)) hk hin12 (List.mem_cons_of_mem _ (List.mem_append_left _ (List.mem_of_getElem? (i := 16) rfl))) dX12_tellQuery_43 (hI16839 6 rfl) ?_
            refine g_if_ne (tgt := 77) (a := (I16825 6).toInt) hk dX12_tellQuery_46 (by decide) rfl (fun c20948 => ?_) (fun c20948 => ?_)
            · skip
              replace hF := FE.pos hF c20948
              refine g_aload_n hk dX12_tellQuery_77 rfl ?_
              refine gM_r0_29 hk hin12 (List.mem_cons_of_mem _ (List.mem_append_left _ (List.mem_of_getElem? (i := 9) rfl))) dX12_tellQuery_78 ?_
              refine g_iload_n hk dX12_tellQuery_81 rfl ?_
              refine g_iconst (v := 0) hk dX12_tellQuery_82 (by decide) ?_
              have k20949 : (0 : Int32).toInt = 0 := rfl
              refine sM_11 (j := y16821.toNatClampNeg) hk (vp_in_iff.mpr ⟨by omega, by omega⟩) rfl dX12_tellQuery_83 ?_
              have hA20950 : ∀ j, 0 ≤ ((up3 A16839 11 (y16821.toNatClampNeg) 0) 11 j).toInt ∧ ((up3 A16839 11 (y16821.toNatClampNeg) 0) 11 j).toInt ≤ 16 := ai_st ((IvM_a11 hV16839)) ⟨by omega, by omega⟩
              have f21215 := IvM_f4 hIv
              have f21216 := IvM_f6 hIv
              have f21217 := IvM_f8 hIv
              have lp21221 : ∀ (n21222 : Nat) (I20955 : Nat → Int32) (A20955 : Nat → Nat → Int32) (L20955 : Nat → Nat → Int64), (Md [4, 6, 7, 8, 9, 11, 12, 13] I16839 I20955) → (Md [11, 12] (up3 A16839 11 (y16821.toNatClampNeg) 0) A20955) → (IvM I20955 A20955) → (L20955 = L16839) → ((I 4).toInt ≤ (I20955 4).toInt) → ((I 6).toInt ≤ (I20955 6).toInt) → ((I 8).toInt ≤ 9 * (I20955 8).toInt) → (401 - (I20955 4).toInt < (n21222 : Int)) → (0 < n21222) → (FE (fM12_tellQuery I A L) (itr_IAL dfM (bM12_tellQuery_84x I A y16821) n21222 I20955 A20955 L20955)) → GW κ 4 0 0 (wM r g I20955 A20955 L20955) 84 [(3, .int x16835), (2, .int (I 4)), (1, .int y16821), (0, .ref (r 0))] [] := by
                intro n21222
                induction n21222 with
                | zero =>
                  intro I20955 A20955 L20955 hI20955 hA20955 hV20955 hL20955 h21218 h21219 h21220 m21223 m21223z hF
                  exact absurd m21223z (Nat.lt_irrefl 0)
                | succ n21222 ih21225 =>
                  intro I20955 A20955 L20955 hI20955 hA20955 hV20955 hL20955 h21218 h21219 h21220 m21223 m21223z hF
                  have f21226 := IvM_f4 hV20955
                  have f21227 := IvM_f6 hV20955
                  have f21228 := IvM_f8 hV20955
                  replace hF := FE.itr_IAL hF
                  refine g_aload_n hk dX12_tellQuery_84 rfl ?_
                  refine g_callV (n := 0) hk (j130_X12_isReading l D zt r g I20955 A20955 L20955  hV20955) (SP.same _) (fun _ h => h) (gi_V (List.mem_cons_of_mem _ (List.mem_append_left _ (List.mem_of_getElem? (i := 10) rfl))) (List.mem_cons_of_mem _ (List.mem_append_left _ (List.mem_of_getElem? (i := 11) rfl))) (List.mem_cons_of_mem _ (List.mem_append_left _ (List.mem_of_getElem? (i := 12) rfl))) (List.mem_cons_of_mem _ (List.mem_append_left _ (List.mem_of_getElem? (i := 7) rfl))) (gi_sub (fun w h => (List.mem_cons_of_mem _ (List.mem_append_right _ (List.mem_append_right _ (List.mem_append_right _ (List.mem_append_left _ h)))))) zg_j130_X12_isReading)) rfl rfl rfl (by decide +kernel) ⟨Nat.le_of_ble_eq_true rfl, Nat.le_of_ble_eq_true rfl⟩ 0 rfl rfl rfl rfl (Nat.le_of_ble_eq_true rfl) ⟨Nat.le_of_ble_eq_true rfl, Nat.le_of_ble_eq_true rfl⟩ dX12_tellQuery_85 (fun v ty' w' hp hk' => ?_)
                  rcases hp with ⟨hC, rfl, rfl⟩ | ⟨hC, rfl, rfl⟩
                  · skip
                    replace hF := FE.pos hF hC
                    show GW κ 4 0 0 (wM r g I20955 A20955 L20955) 88 [(3, .int x16835), (2, .int (I 4)), (1, .int y16821), (0, .ref (r 0))] [.int 0]
                    refine g_if_eq (tgt := 166) (a := 0) hk dX12_tellQuery_88 (by decide) rfl (fun _ => ?_) (fun z9 => absurd (show (0 : Int) = (0 : Int) from by decide) z9)
                    refine g_aload_n hk dX12_tellQuery_166 rfl ?_
                    refine g_iconst (v := 4) hk dX12_tellQuery_167 (by decide) ?_
                    have k21231 : (4 : Int32).toInt = 4 := rfl
                    refine g_callV (n := 1) hk (j125_X12_is l D zt r g I20955 A20955 L20955 4 hV20955) (SP.same _) (fun _ h => h) (gi_V (List.mem_cons_of_mem _ (List.mem_append_left _ (List.mem_of_getElem? (i := 13) rfl))) (List.mem_cons_of_mem _ (List.mem_append_left _ (List.mem_of_getElem? (i := 14) rfl))) (List.mem_cons_of_mem _ (List.mem_append_left _ (List.mem_of_getElem? (i := 15) rfl))) (List.mem_cons_of_mem _ (List.mem_append_left _ (List.mem_of_getElem? (i := 7) rfl))) (gi_sub (fun w h => (List.mem_cons_of_mem _ (List.mem_append_right _ (List.mem_append_right _ (List.mem_append_right _ (List.mem_append_right _ (List.mem_append_left _ h))))))) zg_j125_X12_is)) rfl rfl rfl (by decide +kernel) ⟨Nat.le_of_ble_eq_true rfl, Nat.le_of_ble_eq_true rfl⟩ 0 rfl rfl rfl rfl (Nat.le_of_ble_eq_true rfl) ⟨Nat.le_of_ble_eq_true rfl, Nat.le_of_ble_eq_true rfl⟩ dX12_tellQuery_168 (fun v ty' w' hp hk' => ?_)
                    rcases hp with ⟨c21232, hC, rfl, rfl⟩ | ⟨c21234, hC, rfl, rfl⟩
                    · skip
                      replace hF := FE.pos hF hC
                      rw [show (A20955 2 (I20955 4).toNatClampNeg) = (A 2 (I20955 4).toNatClampNeg) from ((congrFun (hA20955 2 rfl) _).trans ((congrFun (hA16839 2 rfl) _).trans (congrFun (hA16825 2 rfl) _)))] at c21232
                      show GW κ 4 0 0 (wM r g I20955 A20955 L20955) 171 [(3, .int x16835), (2, .int (I 4)), (1, .int y16821), (0, .ref (r 0))] [.int 0]
                      refine g_if_eq (tgt := 194) (a := 0) hk dX12_tellQuery_171 (by decide) rfl (fun _ => ?_) (fun z9 => absurd (show (0 : Int) = (0 : Int) from by decide) z9)
                      refine g_aload_n hk dX12_tellQuery_194 rfl ?_
                      refine g_iconst (v := 4) hk dX12_tellQuery_195 (by decide) ?_
                      refine g_callV (n := 1) hk (j131_X12_must l D zt r g I20955 A20955 L20955 4 hV20955) (SP.same _) (fun _ h => h) (gi_V (List.mem_cons_of_mem _ (List.mem_append_left _ (List.mem_of_getElem? (i := 4) rfl))) (List.mem_cons_of_mem _ (List.mem_append_left _ (List.mem_of_getElem? (i := 5) rfl))) (List.mem_cons_of_mem _ (List.mem_append_left _ (List.mem_of_getElem? (i := 6) rfl))) (List.mem_cons_of_mem _ (List.mem_append_left _ (List.mem_of_getElem? (i := 7) rfl))) (gi_sub (fun w h => (List.mem_cons_of_mem _ (List.mem_append_right _ (List.mem_append_right _ (List.mem_append_left _ h))))) zg_j131_X12_must)) rfl rfl rfl (by decide +kernel) ⟨Nat.le_of_ble_eq_true rfl, Nat.le_of_ble_eq_true rfl⟩ 0 rfl rfl rfl rfl (Nat.le_of_ble_eq_true rfl) ⟨Nat.le_of_ble_eq_true rfl, Nat.le_of_ble_eq_true rfl⟩ dX12_tellQuery_196 (fun v ty' w' hp hk' => ?_)
                      obtain ⟨I21237, A21237, L21237, hI21237, hA21237, hV21237, r21238, r21239, r21240, r21241, r21242, hL21237, hC, rfl, rfl⟩ := hp
                      replace hF := FE.bdM hF hC
                      have f21243 := IvM_f4 hV21237
                      have f21244 := IvM_f6 hV21237
                      rw [show (I21237 8) = (I20955 8) from (hI21237 8 rfl)] at r21240
                      rw [show (A20955 2 (I20955 4).toNatClampNeg) = (A 2 (I20955 4).toNatClampNeg) from ((congrFun (hA20955 2 rfl) _).trans ((congrFun (hA16839 2 rfl) _).trans (congrFun (hA16825 2 rfl) _)))] at r21242
                      show GW κ 4 0 0 (wM r g I21237 A21237 L21237) 199 [(3, .int x16835), (2, .int (I 4)), (1, .int y16821), (0, .ref (r 0))] []
                      refine g_aload_n hk dX12_tellQuery_199 rfl ?_
                      refine gM_i6 (v := (I21237 6)) hk hin12 (List.mem_cons_of_mem _ (List.mem_append_left _ (List.mem_of_getElem? (i := 16) rfl))) dX12_tellQuery_200 rfl ?_
                      refine g_if_le (tgt := 207) (a := (I21237 6).toInt) hk dX12_tellQuery_203 (by decide) rfl (fun c21245 => ?_) (fun c21245 => ?_)
                      · skip
                        replace hF := FE.pos hF c21245
                        refine g_aload_n hk dX12_tellQuery_207 rfl ?_
                        refine g_bipush (v := (-2)) hk dX12_tellQuery_208 (by decide) ?_
                        refine pM_i11 hk hin12 (List.mem_cons_of_mem _ (List.mem_append_left _ (List.mem_of_getElem? (i := 0) rfl))) dX12_tellQuery_210 ?_
                        refine g_aload_n hk dX12_tellQuery_213 rfl ?_
                        refine gM_r0_25 hk hin12 (List.mem_cons_of_mem _ (List.mem_append_left _ (List.mem_of_getElem? (i := 17) rfl))) dX12_tellQuery_214 ?_
                        refine g_aload_n hk dX12_tellQuery_217 rfl ?_
                        refine gM_i17 (v := (I 17)) hk hin12 (List.mem_cons_of_mem _ (List.mem_append_left _ (List.mem_of_getElem? (i := 8) rfl))) dX12_tellQuery_218 ((hI21237 17 rfl).trans ((hI20955 17 rfl).trans ((hI16839 17 rfl).trans (hI16825 17 rfl)))) ?_
                        have g21246 : (I21237 16).toInt = (I 16).toInt := by rw [show (I21237 16) = (I 16) from ((hI21237 16 rfl).trans ((hI20955 16 rfl).trans ((hI16839 16 rfl).trans (hI16825 16 rfl))))]
                        have g21247 : (I21237 17).toInt = (I 17).toInt := by rw [show (I21237 17) = (I 17) from ((hI21237 17 rfl).trans ((hI20955 17 rfl).trans ((hI16839 17 rfl).trans (hI16825 17 rfl))))]
                        have g21248 : (A21237 10 0).toInt = (A 10 0).toInt := by rw [show (A21237 10 0) = (A 10 0) from ((congrFun (hA21237 10 rfl) _).trans ((congrFun (hA20955 10 rfl) _).trans ((congrFun (hA16839 10 rfl) _).trans (congrFun (hA16825 10 rfl) _))))]
                        have g21249 : (A21237 10 1).toInt = (A 10 1).toInt := by rw [show (A21237 10 1) = (A 10 1) from ((congrFun (hA21237 10 rfl) _).trans ((congrFun (hA20955 10 rfl) _).trans ((congrFun (hA16839 10 rfl) _).trans (congrFun (hA16825 10 rfl) _))))]
                        have g21250 := (IvM_nq (I := I21237) (A := A21237) hV21237).1 (by omega)
                        refine g_aload_n hk dX12_tellQuery_221 rfl ?_
                        refine gM_r0_8 hk hin12 (List.mem_cons_of_mem _ (List.mem_append_left _ (List.mem_of_getElem? (i := 18) rfl))) dX12_tellQuery_222 ?_
                        refine g_iload_n hk dX12_tellQuery_225 rfl ?_
                        refine lM_5 hk (vp_in_iff.mpr ⟨by omega, by omega⟩) rfl dX12_tellQuery_226 ?_
                        refine g_topl (fun y21251 ey21251 => ?_)
                        replace hF := FE.lt hF ey21251
                        refine sM_7 (j := (I 17).toNatClampNeg) hk (vp_in_iff.mpr ⟨by omega, by omega⟩) rfl dX12_tellQuery_227 ?_
                        refine g_aload_n hk dX12_tellQuery_228 rfl ?_
                        refine g_dup hk dX12_tellQuery_229 rfl ?_
                        refine gM_i17 (v := (I 17)) hk hin12 (List.mem_cons_of_mem _ (List.mem_append_left _ (List.mem_of_getElem? (i := 8) rfl))) dX12_tellQuery_230 ((hI21237 17 rfl).trans ((hI20955 17 rfl).trans ((hI16839 17 rfl).trans (hI16825 17 rfl)))) ?_
                        refine g_iconst (v := 1) hk dX12_tellQuery_233 (by decide) ?_
                        refine g_iadd hk dX12_tellQuery_234 ?_
                        refine g_topi (fun y21252 ey21252 => ?_)
                        replace hF := FE.lt hF ey21252
                        have hy21252 : y21252.toInt = (I 17).toInt + 1 := i32_add ey21252 rfl rfl (by omega) (by omega)
                        refine pM_i17 hk hin12 (List.mem_cons_of_mem _ (List.mem_append_left _ (List.mem_of_getElem? (i := 8) rfl))) dX12_tellQuery_235 ?_
                        refine g_aload_n hk dX12_tellQuery_238 rfl ?_
                        refine gM_r0_28 hk hin12 (List.mem_cons_of_mem _ (List.mem_append_left _ (List.mem_of_getElem? (i := 2) rfl))) dX12_tellQuery_239 ?_
                        refine g_aload_n hk dX12_tellQuery_242 rfl ?_
                        refine gM_i16 (v := (I 16)) hk hin12 (List.mem_cons_of_mem _ (List.mem_append_left _ (List.mem_of_getElem? (i := 1) rfl))) dX12_tellQuery_243 ((hI21237 16 rfl).trans ((hI20955 16 rfl).trans ((hI16839 16 rfl).trans (hI16825 16 rfl)))) ?_
                        by_cases c21253 : (I 16).toInt = 0
                        · have ec21253 : (I 16) = 0 := Int32.toInt_inj.mp c21253
                          replace hF := FE.pos hF c21253
                          rw [ec21253]
                          show GW κ 4 0 0 (wM r g (upd (upd I21237 11 (-2)) 17 y21252) A21237 (up3L L21237 7 ((I 17).toNatClampNeg) y21251)) 246 [(3, .int x16835), (2, .int (I 4)), (1, .int y16821), (0, .ref (r 0))] [.int 0, .ref (r 11)]
                          refine g_dup2 hk dX12_tellQuery_246 rfl rfl ?_
                          refine lM_10 (v := (A 10 0)) hk (vp_in_iff.mpr ⟨by decide, by decide⟩) ((congrFun (hA21237 10 rfl) _).trans ((congrFun (hA20955 10 rfl) _).trans ((congrFun (hA16839 10 rfl) _).trans (congrFun (hA16825 10 rfl) _)))) dX12_tellQuery_247 ?_
                          refine g_iconst (v := 1) hk dX12_tellQuery_248 (by decide) ?_
                          refine g_iadd hk dX12_tellQuery_249 ?_
                          refine g_topi (fun y21254 ey21254 => ?_)
                          replace hF := FE.lt hF ey21254
                          have hy21254 : y21254.toInt = (A 10 0).toInt + 1 := i32_add ey21254 rfl rfl (by omega) (by omega)
                          refine sM_10 (j := 0) hk (vp_in_iff.mpr ⟨by decide, by decide⟩) (by decide) dX12_tellQuery_250 ?_
                          have f21255 := IvM_s10_0 hV21237
                          have f21256 := IvM_s10_1 hV21237
                          have g21257 : (I21237 15).toInt = (I 15).toInt := by rw [show (I21237 15) = (I 15) from ((hI21237 15 rfl).trans ((hI20955 15 rfl).trans ((hI16839 15 rfl).trans (hI16825 15 rfl))))]
                          have g21258 := IvM_s10_0 (I := I21237) (A := A21237) hV21237
                          have g21259 := IvM_s10_1 (I := I21237) (A := A21237) hV21237
                          have g21260 : (I21237 8).toInt = (I20955 8).toInt := by rw [show (I21237 8) = (I20955 8) from (hI21237 8 rfl)]
                          have q21261 := cl_int (y := y16821) (by omega)
                          have g21262 : (A21237 11 y16821.toNatClampNeg).toInt = (A20955 11 y16821.toNatClampNeg).toInt := by rw [show (A21237 11 y16821.toNatClampNeg) = (A20955 11 y16821.toNatClampNeg) from (congrFun (hA21237 11 rfl) _)]
                          have u21263 : (I20955 6).toInt ≠ 0 ∨ (A 2 (I20955 4).toNatClampNeg).toInt ≠ (4 : Int32).toInt := c21232
                          have u21264 : 0 < (I21237 6).toInt ∨ ((I20955 6).toInt = 0 ∧ (A 2 (I20955 4).toNatClampNeg).toInt = (4 : Int32).toInt) := r21242
                          exact g_vret hk hR ⟨(upd (upd I21237 11 (-2)) 17 y21252), (up3 A21237 10 0 y21254), (up3L L21237 7 ((I 17).toNatClampNeg) y21251), (show Md [4, 6, 7, 8, 9, 11, 12, 13, 17] I (upd (upd I21237 11 (-2)) 17 y21252) from (Md.up (Md.up (Md.tr (Md.tr (Md.tr (Md.tr (Md.up Md.rf rfl) hI16825 rfl) hI16839 rfl) hI20955 rfl) hI21237 rfl) rfl) rfl)), (show Md [10, 11, 12] A (up3 A21237 10 0 y21254) from (Md.up3 (Md.tr (Md.tr (Md.up3 (Md.tr (Md.tr Md.rf hA16825 rfl) hA16839 rfl) rfl) hA20955 rfl) hA21237 rfl) rfl)), ⟨(IvM_f1 (I := I21237) (A := A21237) hV21237), (IvM_f2 (I := I21237) (A := A21237) hV21237), (IvM_f3 (I := I21237) (A := A21237) hV21237), (IvM_f4 (I := I21237) (A := A21237) hV21237), (IvM_f6 (I := I21237) (A := A21237) hV21237), (IvM_f8 (I := I21237) (A := A21237) hV21237), (IvM_f15 (I := I21237) (A := A21237) hV21237), (IvM_f16 (I := I21237) (A := A21237) hV21237), (show 0 ≤ y21252.toInt ∧ y21252.toInt ≤ 5 from ⟨by omega, by omega⟩), (IvM_f18 (I := I21237) (A := A21237) hV21237), (IvM_f22 (I := I21237) (A := A21237) hV21237), (IvM_f23 (I := I21237) (A := A21237) hV21237), (IvM_f24 (I := I21237) (A := A21237) hV21237), (IvM_a11 (I := I21237) (A := A21237) hV21237), (IvM_a26 (I := I21237) (A := A21237) hV21237), (IvM_s8_0 (I := I21237) (A := A21237) hV21237), (IvM_s8_1 (I := I21237) (A := A21237) hV21237), (show 0 ≤ ((up3 A21237 10 0 y21254) 10 0).toInt ∧ ((up3 A21237 10 0 y21254) 10 0).toInt ≤ 5 from by rw [show (up3 A21237 10 0 y21254) 10 0 = y21254 from rfl]; exact ⟨by omega, by omega⟩), (show 0 ≤ ((up3 A21237 10 0 y21254) 10 1).toInt ∧ ((up3 A21237 10 0 y21254) 10 1).toInt ≤ 5 from by rw [show (up3 A21237 10 0 y21254) 10 1 = (A21237 10 1) from rfl]; exact (IvM_s10_1 (I := I21237) (A := A21237) hV21237)), (IvM_s17_0 (I := I21237) (A := A21237) hV21237), (IvM_s17_164 (I := I21237) (A := A21237) hV21237), ⟨fun e => by have e : (I21237 15).toInt = 0 := e; first | exact (IvM_lv (I := I21237) (A := A21237) hV21237).1 e | (exfalso; omega), fun e => by have e : (I21237 15).toInt = 1 := e; first | exact (IvM_lv (I := I21237) (A := A21237) hV21237).2 e | (exfalso; omega)⟩, (by first | (exfalso; omega) | (by_cases g8 : (I21237 8).toInt ≠ 0; exact Or.inr (Or.inl g8); rcases (IvM_sd (I := I21237) (A := A21237) hV21237) with h9 | h9 | h9; exact absurd h9 (by omega); exact absurd h9 g8; exact Or.inr (Or.inr ⟨fun e => by have e : (I21237 16).toInt = 0 := e; first | exact ghf_add (n := (A21237 10 0)) (f := (A21237 11)) (n2 := y21254) (p := y16821.toNatClampNeg) (h9.1 e) (by omega) (by omega) (by omega) | (exfalso; omega), fun e => by have e : (I21237 16).toInt = 1 := e; first | exact ghf_add (n := (A21237 10 1)) (f := (A21237 11)) (n2 := y21254) (p := y16821.toNatClampNeg) (h9.2 e) (by omega) (by omega) (by omega) | (exfalso; omega)⟩))), ⟨fun e => by have e : (I21237 16).toInt = 0 := e; first | (exfalso; omega) | (show y21252.toInt = y21254.toInt; omega), fun e => by have e : (I21237 16).toInt = 1 := e; first | (exfalso; omega) | (show y21252.toInt = (A21237 10 1).toInt; omega)⟩, (IvM_hr (I := I21237) (A := A21237) hV21237), (IvM_hh (I := I21237) (A := A21237) hV21237), trivial⟩, (by rw [show ((upd (upd I21237 11 (-2)) 17 y21252) 4) = (I21237 4) from rfl] <;> omega), (by rw [show ((upd (upd I21237 11 (-2)) 17 y21252) 6) = (I21237 6) from rfl] <;> omega), (by rw [show ((upd (upd I21237 11 (-2)) 17 y21252) 8) = (I20955 8) from (hI21237 8 rfl)] <;> omega), hF, rfl, rfl⟩ dX12_tellQuery_251
                        replace hF := FE.neg hF c21253
                        exfalso; omega
                      · skip
                        replace hF := FE.neg hF c21245
                        exact g_vret hk hR ⟨I21237, A21237, L21237, (show Md [4, 6, 7, 8, 9, 11, 12, 13, 17] I I21237 from (Md.tr (Md.tr (Md.tr (Md.tr (Md.up Md.rf rfl) hI16825 rfl) hI16839 rfl) hI20955 rfl) hI21237 rfl)), (show Md [10, 11, 12] A A21237 from (Md.tr (Md.tr (Md.up3 (Md.tr (Md.tr Md.rf hA16825 rfl) hA16839 rfl) rfl) hA20955 rfl) hA21237 rfl)), hV21237, (by omega), (by omega), (by rw [show (I21237 8) = (I20955 8) from (hI21237 8 rfl)] <;> omega), hF, rfl, rfl⟩ dX12_tellQuery_206
                    · skip
                      replace hF := FE.neg hF (fe_ne hC (by decide))
                      rw [show (A20955 2 (I20955 4).toNatClampNeg) = (A 2 (I20955 4).toNatClampNeg) from ((congrFun (hA20955 2 rfl) _).trans ((congrFun (hA16839 2 rfl) _).trans (congrFun (hA16825 2 rfl) _)))] at c21234
                      show GW κ 4 0 0 (wM r g I20955 A20955 L20955) 171 [(3, .int x16835), (2, .int (I 4)), (1, .int y16821), (0, .ref (r 0))] [.int 1]
                      refine g_if_eq (tgt := 194) (a := 1) hk dX12_tellQuery_171 (by decide) rfl (fun z9 => absurd z9 (show ¬ ((1 : Int) = (0 : Int)) from by decide)) (fun _ => ?_)
                      refine g_aload_n hk dX12_tellQuery_174 rfl ?_
                      refine gM_r0_29 hk hin12 (List.mem_cons_of_mem _ (List.mem_append_left _ (List.mem_of_getElem? (i := 9) rfl))) dX12_tellQuery_175 ?_
                      refine g_iload_n hk dX12_tellQuery_178 rfl ?_
                      refine lM_11 (v := (A20955 11 y16821.toNatClampNeg)) hk (vp_in_iff.mpr ⟨by omega, by omega⟩) rfl dX12_tellQuery_179 ?_
                      have f21265 := IvM_a11 hV20955 (y16821.toNatClampNeg)
                      refine g_iconst (v := 2) hk dX12_tellQuery_180 (by decide) ?_
                      refine g_icmp_ge (tgt := 194) (a := (A20955 11 y16821.toNatClampNeg).toInt) (b := 2) hk dX12_tellQuery_181 (by decide) rfl rfl (fun c21266 => ?_) (fun c21266 => ?_)
                      · skip
                        replace hF := FE.pos hF c21266
                        refine g_aload_n hk dX12_tellQuery_194 rfl ?_
                        refine g_iconst (v := 4) hk dX12_tellQuery_195 (by decide) ?_
                        refine g_callV (n := 1) hk (j131_X12_must l D zt r g I20955 A20955 L20955 4 hV20955) (SP.same _) (fun _ h => h) (gi_V (List.mem_cons_of_mem _ (List.mem_append_left _ (List.mem_of_getElem? (i := 4) rfl))) (List.mem_cons_of_mem _ (List.mem_append_left _ (List.mem_of_getElem? (i := 5) rfl))) (List.mem_cons_of_mem _ (List.mem_append_left _ (List.mem_of_getElem? (i := 6) rfl))) (List.mem_cons_of_mem _ (List.mem_append_left _ (List.mem_of_getElem? (i := 7) rfl))) (gi_sub (fun w h => (List.mem_cons_of_mem _ (List.mem_append_right _ (List.mem_append_right _ (List.mem_append_left _ h))))) zg_j131_X12_must)) rfl rfl rfl (by decide +kernel) ⟨Nat.le_of_ble_eq_true rfl, Nat.le_of_ble_eq_true rfl⟩ 0 rfl rfl rfl rfl (Nat.le_of_ble_eq_true rfl) ⟨Nat.le_of_ble_eq_true rfl, Nat.le_of_ble_eq_true rfl⟩ dX12_tellQuery_196 (fun v ty' w' hp hk' => ?_)
                        obtain ⟨I21268, A21268, L21268, hI21268, hA21268, hV21268, r21269, r21270, r21271, r21272, r21273, hL21268, hC, rfl, rfl⟩ := hp
                        replace hF := FE.bdM hF hC
                        have f21274 := IvM_f4 hV21268
                        have f21275 := IvM_f6 hV21268
                        rw [show (I21268 8) = (I20955 8) from (hI21268 8 rfl)] at r21271
                        rw [show (A20955 2 (I20955 4).toNatClampNeg) = (A 2 (I20955 4).toNatClampNeg) from ((congrFun (hA20955 2 rfl) _).trans ((congrFun (hA16839 2 rfl) _).trans (congrFun (hA16825 2 rfl) _)))] at r21273
                        show GW κ 4 0 0 (wM r g I21268 A21268 L21268) 199 [(3, .int x16835), (2, .int (I 4)), (1, .int y16821), (0, .ref (r 0))] []
                        refine g_aload_n hk dX12_tellQuery_199 rfl ?_
                        refine gM_i6 (v := (I21268 6)) hk hin12 (List.mem_cons_of_mem _ (List.mem_append_left _ (List.mem_of_getElem? (i := 16) rfl))) dX12_tellQuery_200 rfl ?_
                        refine g_if_le (tgt := 207) (a := (I21268 6).toInt) hk dX12_tellQuery_203 (by decide) rfl (fun c21276 => ?_) (fun c21276 => ?_)
                        · skip
                          replace hF := FE.pos hF c21276
                          refine g_aload_n hk dX12_tellQuery_207 rfl ?_
                          refine g_bipush (v := (-2)) hk dX12_tellQuery_208 (by decide) ?_
                          refine pM_i11 hk hin12 (List.mem_cons_of_mem _ (List.mem_append_left _ (List.mem_of_getElem? (i := 0) rfl))) dX12_tellQuery_210 ?_
                          refine g_aload_n hk dX12_tellQuery_213 rfl ?_
                          refine gM_r0_25 hk hin12 (List.mem_cons_of_mem _ (List.mem_append_left _ (List.mem_of_getElem? (i := 17) rfl))) dX12_tellQuery_214 ?_
                          refine g_aload_n hk dX12_tellQuery_217 rfl ?_
                          refine gM_i17 (v := (I 17)) hk hin12 (List.mem_cons_of_mem _ (List.mem_append_left _ (List.mem_of_getElem? (i := 8) rfl))) dX12_tellQuery_218 ((hI21268 17 rfl).trans ((hI20955 17 rfl).trans ((hI16839 17 rfl).trans (hI16825 17 rfl)))) ?_
                          have g21277 : (I21268 16).toInt = (I 16).toInt := by rw [show (I21268 16) = (I 16) from ((hI21268 16 rfl).trans ((hI20955 16 rfl).trans ((hI16839 16 rfl).trans (hI16825 16 rfl))))]
                          have g21278 : (I21268 17).toInt = (I 17).toInt := by rw [show (I21268 17) = (I 17) from ((hI21268 17 rfl).trans ((hI20955 17 rfl).trans ((hI16839 17 rfl).trans (hI16825 17 rfl))))]
                          have g21279 : (A21268 10 0).toInt = (A 10 0).toInt := by rw [show (A21268 10 0) = (A 10 0) from ((congrFun (hA21268 10 rfl) _).trans ((congrFun (hA20955 10 rfl) _).trans ((congrFun (hA16839 10 rfl) _).trans (congrFun (hA16825 10 rfl) _))))]
                          have g21280 : (A21268 10 1).toInt = (A 10 1).toInt := by rw [show (A21268 10 1) = (A 10 1) from ((congrFun (hA21268 10 rfl) _).trans ((congrFun (hA20955 10 rfl) _).trans ((congrFun (hA16839 10 rfl) _).trans (congrFun (hA16825 10 rfl) _))))]
                          have g21281 := (IvM_nq (I := I21268) (A := A21268) hV21268).1 (by omega)
                          refine g_aload_n hk dX12_tellQuery_221 rfl ?_
                          refine gM_r0_8 hk hin12 (List.mem_cons_of_mem _ (List.mem_append_left _ (List.mem_of_getElem? (i := 18) rfl))) dX12_tellQuery_222 ?_
                          refine g_iload_n hk dX12_tellQuery_225 rfl ?_
                          refine lM_5 hk (vp_in_iff.mpr ⟨by omega, by omega⟩) rfl dX12_tellQuery_226 ?_
                          refine g_topl (fun y21282 ey21282 => ?_)
                          replace hF := FE.lt hF ey21282
                          refine sM_7 (j := (I 17).toNatClampNeg) hk (vp_in_iff.mpr ⟨by omega, by omega⟩) rfl dX12_tellQuery_227 ?_
                          refine g_aload_n hk dX12_tellQuery_228 rfl ?_
                          refine g_dup hk dX12_tellQuery_229 rfl ?_
                          refine gM_i17 (v := (I 17)) hk hin12 (List.mem_cons_of_mem _ (List.mem_append_left _ (List.mem_of_getElem? (i := 8) rfl))) dX12_tellQuery_230 ((hI21268 17 rfl).trans ((hI20955 17 rfl).trans ((hI16839 17 rfl).trans (hI16825 17 rfl)))) ?_
                          refine g_iconst (v := 1) hk dX12_tellQuery_233 (by decide) ?_
                          refine g_iadd hk dX12_tellQuery_234 ?_
                          refine g_topi (fun y21283 ey21283 => ?_)
                          replace hF := FE.lt hF ey21283
                          have hy21283 : y21283.toInt = (I 17).toInt + 1 := i32_add ey21283 rfl rfl (by omega) (by omega)
                          refine pM_i17 hk hin12 (List.mem_cons_of_mem _ (List.mem_append_left _ (List.mem_of_getElem? (i := 8) rfl))) dX12_tellQuery_235 ?_
                          refine g_aload_n hk dX12_tellQuery_238 rfl ?_
                          refine gM_r0_28 hk hin12 (List.mem_cons_of_mem _ (List.mem_append_left _ (List.mem_of_getElem? (i := 2) rfl))) dX12_tellQuery_239 ?_
                          refine g_aload_n hk dX12_tellQuery_242 rfl ?_
                          refine gM_i16 (v := (I 16)) hk hin12 (List.mem_cons_of_mem _ (List.mem_append_left _ (List.mem_of_getElem? (i := 1) rfl))) dX12_tellQuery_243 ((hI21268 16 rfl).trans ((hI20955 16 rfl).trans ((hI16839 16 rfl).trans (hI16825 16 rfl)))) ?_
                          by_cases c21284 : (I 16).toInt = 0
                          · have ec21284 : (I 16) = 0 := Int32.toInt_inj.mp c21284
                            replace hF := FE.pos hF c21284
                            rw [ec21284]
                            show GW κ 4 0 0 (wM r g (upd (upd I21268 11 (-2)) 17 y21283) A21268 (up3L L21268 7 ((I 17).toNatClampNeg) y21282)) 246 [(3, .int x16835), (2, .int (I 4)), (1, .int y16821), (0, .ref (r 0))] [.int 0, .ref (r 11)]
                            refine g_dup2 hk dX12_tellQuery_246 rfl rfl ?_
                            refine lM_10 (v := (A 10 0)) hk (vp_in_iff.mpr ⟨by decide, by decide⟩) ((congrFun (hA21268 10 rfl) _).trans ((congrFun (hA20955 10 rfl) _).trans ((congrFun (hA16839 10 rfl) _).trans (congrFun (hA16825 10 rfl) _)))) dX12_tellQuery_247 ?_
                            refine g_iconst (v := 1) hk dX12_tellQuery_248 (by decide) ?_
                            refine g_iadd hk dX12_tellQuery_249 ?_
                            refine g_topi (fun y21285 ey21285 => ?_)
                            replace hF := FE.lt hF ey21285
                            have hy21285 : y21285.toInt = (A 10 0).toInt + 1 := i32_add ey21285 rfl rfl (by omega) (by omega)
                            refine sM_10 (j := 0) hk (vp_in_iff.mpr ⟨by decide, by decide⟩) (by decide) dX12_tellQuery_250 ?_
                            have f21286 := IvM_s10_0 hV21268
                            have f21287 := IvM_s10_1 hV21268
                            have g21288 : (I21268 15).toInt = (I 15).toInt := by rw [show (I21268 15) = (I 15) from ((hI21268 15 rfl).trans ((hI20955 15 rfl).trans ((hI16839 15 rfl).trans (hI16825 15 rfl))))]
                            have g21289 := IvM_s10_0 (I := I21268) (A := A21268) hV21268
                            have g21290 := IvM_s10_1 (I := I21268) (A := A21268) hV21268
                            have g21291 : (I21268 8).toInt = (I20955 8).toInt := by rw [show (I21268 8) = (I20955 8) from (hI21268 8 rfl)]
                            have q21292 := cl_int (y := y16821) (by omega)
                            have g21293 : (A21268 11 y16821.toNatClampNeg).toInt = (A20955 11 y16821.toNatClampNeg).toInt := by rw [show (A21268 11 y16821.toNatClampNeg) = (A20955 11 y16821.toNatClampNeg) from (congrFun (hA21268 11 rfl) _)]
                            have u21294 : 0 < (I16825 6).toInt ∨ ((I 6).toInt = 0 ∧ (A 2 (I 4).toNatClampNeg).toInt = (1 : Int32).toInt) := r16830
                            have u21295 : 0 < (I21268 6).toInt ∨ ((I20955 6).toInt = 0 ∧ (A 2 (I20955 4).toNatClampNeg).toInt = (4 : Int32).toInt) := r21273
                            exact g_vret hk hR ⟨(upd (upd I21268 11 (-2)) 17 y21283), (up3 A21268 10 0 y21285), (up3L L21268 7 ((I 17).toNatClampNeg) y21282), (show Md [4, 6, 7, 8, 9, 11, 12, 13, 17] I (upd (upd I21268 11 (-2)) 17 y21283) from (Md.up (Md.up (Md.tr (Md.tr (Md.tr (Md.tr (Md.up Md.rf rfl) hI16825 rfl) hI16839 rfl) hI20955 rfl) hI21268 rfl) rfl) rfl)), (show Md [10, 11, 12] A (up3 A21268 10 0 y21285) from (Md.up3 (Md.tr (Md.tr (Md.up3 (Md.tr (Md.tr Md.rf hA16825 rfl) hA16839 rfl) rfl) hA20955 rfl) hA21268 rfl) rfl)), ⟨(IvM_f1 (I := I21268) (A := A21268) hV21268), (IvM_f2 (I := I21268) (A := A21268) hV21268), (IvM_f3 (I := I21268) (A := A21268) hV21268), (IvM_f4 (I := I21268) (A := A21268) hV21268), (IvM_f6 (I := I21268) (A := A21268) hV21268), (IvM_f8 (I := I21268) (A := A21268) hV21268), (IvM_f15 (I := I21268) (A := A21268) hV21268), (IvM_f16 (I := I21268) (A := A21268) hV21268), (show 0 ≤ y21283.toInt ∧ y21283.toInt ≤ 5 from ⟨by omega, by omega⟩), (IvM_f18 (I := I21268) (A := A21268) hV21268), (IvM_f22 (I := I21268) (A := A21268) hV21268), (IvM_f23 (I := I21268) (A := A21268) hV21268), (IvM_f24 (I := I21268) (A := A21268) hV21268), (IvM_a11 (I := I21268) (A := A21268) hV21268), (IvM_a26 (I := I21268) (A := A21268) hV21268), (IvM_s8_0 (I := I21268) (A := A21268) hV21268), (IvM_s8_1 (I := I21268) (A := A21268) hV21268), (show 0 ≤ ((up3 A21268 10 0 y21285) 10 0).toInt ∧ ((up3 A21268 10 0 y21285) 10 0).toInt ≤ 5 from by rw [show (up3 A21268 10 0 y21285) 10 0 = y21285 from rfl]; exact ⟨by omega, by omega⟩), (show 0 ≤ ((up3 A21268 10 0 y21285) 10 1).toInt ∧ ((up3 A21268 10 0 y21285) 10 1).toInt ≤ 5 from by rw [show (up3 A21268 10 0 y21285) 10 1 = (A21268 10 1) from rfl]; exact (IvM_s10_1 (I := I21268) (A := A21268) hV21268)), (IvM_s17_0 (I := I21268) (A := A21268) hV21268), (IvM_s17_164 (I := I21268) (A := A21268) hV21268), ⟨fun e => by have e : (I21268 15).toInt = 0 := e; first | exact (IvM_lv (I := I21268) (A := A21268) hV21268).1 e | (exfalso; omega), fun e => by have e : (I21268 15).toInt = 1 := e; first | exact (IvM_lv (I := I21268) (A := A21268) hV21268).2 e | (exfalso; omega)⟩, (by first | (exfalso; omega) | (by_cases g8 : (I21268 8).toInt ≠ 0; exact Or.inr (Or.inl g8); rcases (IvM_sd (I := I21268) (A := A21268) hV21268) with h9 | h9 | h9; exact absurd h9 (by omega); exact absurd h9 g8; exact Or.inr (Or.inr ⟨fun e => by have e : (I21268 16).toInt = 0 := e; first | exact ghf_add (n := (A21268 10 0)) (f := (A21268 11)) (n2 := y21285) (p := y16821.toNatClampNeg) (h9.1 e) (by omega) (by omega) (by omega) | (exfalso; omega), fun e => by have e : (I21268 16).toInt = 1 := e; first | exact ghf_add (n := (A21268 10 1)) (f := (A21268 11)) (n2 := y21285) (p := y16821.toNatClampNeg) (h9.2 e) (by omega) (by omega) (by omega) | (exfalso; omega)⟩))), ⟨fun e => by have e : (I21268 16).toInt = 0 := e; first | (exfalso; omega) | (show y21283.toInt = y21285.toInt; omega), fun e => by have e : (I21268 16).toInt = 1 := e; first | (exfalso; omega) | (show y21283.toInt = (A21268 10 1).toInt; omega)⟩, (IvM_hr (I := I21268) (A := A21268) hV21268), (IvM_hh (I := I21268) (A := A21268) hV21268), trivial⟩, (by rw [show ((upd (upd I21268 11 (-2)) 17 y21283) 4) = (I21268 4) from rfl] <;> omega), (by rw [show ((upd (upd I21268 11 (-2)) 17 y21283) 6) = (I21268 6) from rfl] <;> omega), (by rw [show ((upd (upd I21268 11 (-2)) 17 y21283) 8) = (I20955 8) from (hI21268 8 rfl)] <;> omega), hF, rfl, rfl⟩ dX12_tellQuery_251
                          replace hF := FE.neg hF c21284
                          exfalso; omega
                        · skip
                          replace hF := FE.neg hF c21276
                          exact g_vret hk hR ⟨I21268, A21268, L21268, (show Md [4, 6, 7, 8, 9, 11, 12, 13, 17] I I21268 from (Md.tr (Md.tr (Md.tr (Md.tr (Md.up Md.rf rfl) hI16825 rfl) hI16839 rfl) hI20955 rfl) hI21268 rfl)), (show Md [10, 11, 12] A A21268 from (Md.tr (Md.tr (Md.up3 (Md.tr (Md.tr Md.rf hA16825 rfl) hA16839 rfl) rfl) hA20955 rfl) hA21268 rfl)), hV21268, (by omega), (by omega), (by rw [show (I21268 8) = (I20955 8) from (hI21268 8 rfl)] <;> omega), hF, rfl, rfl⟩ dX12_tellQuery_206
                      · skip
                        replace hF := FE.neg hF c21266
                        refine g_aload_n hk dX12_tellQuery_184 rfl ?_
                        refine g_bipush (v := 6) hk dX12_tellQuery_185 (by decide) ?_
                        refine g_aload_n hk dX12_tellQuery_187 rfl ?_
                        refine gM_i4 (v := (I20955 4)) hk hin12 (List.mem_cons_of_mem _ (List.mem_append_left _ (List.mem_of_getElem? (i := 3) rfl))) dX12_tellQuery_188 rfl ?_
                        have k21296 : (6 : Int32).toInt = 6 := rfl
                        refine g_callV (n := 2) hk (j134_X12_wrong l D zt r g I20955 A20955 L20955 6 (I20955 4) hV20955 (by decide) (by decide) (by omega) (by omega)) (SP.same _) (fun _ h => h) (gi_V (List.mem_cons_of_mem _ (List.mem_append_left _ (List.mem_of_getElem? (i := 19) rfl))) (List.mem_cons_of_mem _ (List.mem_append_left _ (List.mem_of_getElem? (i := 20) rfl))) (List.mem_cons_of_mem _ (List.mem_append_left _ (List.mem_of_getElem? (i := 21) rfl))) (List.mem_cons_of_mem _ (List.mem_append_left _ (List.mem_of_getElem? (i := 7) rfl))) (gi_sub (fun w h => (List.mem_cons_of_mem _ (List.mem_append_right _ (List.mem_append_right _ (List.mem_append_right _ (List.mem_append_right _ (List.mem_append_right _ (List.mem_append_left _ h)))))))) zg_j134_X12_wrong)) rfl rfl rfl (by decide +kernel) ⟨Nat.le_of_ble_eq_true rfl, Nat.le_of_ble_eq_true rfl⟩ 0 rfl rfl rfl rfl (Nat.le_of_ble_eq_true rfl) ⟨Nat.le_of_ble_eq_true rfl, Nat.le_of_ble_eq_true rfl⟩ dX12_tellQuery_191 (fun v ty' w' hp hk' => ?_)
                        obtain ⟨I21298, A21298, L21298, hI21298, hA21298, hV21298, r21299, r21300, r21301, hL21298, hC, rfl, rfl⟩ := hp
                        replace hF := FE.bdM hF hC
                        rw [show (I21298 6) = (I20955 6) from (hI21298 6 rfl)] at r21299
                        have f21302 := IvM_f8 hV21298
                        rw [show (I21298 6) = (I20955 6) from (hI21298 6 rfl)] at r21301
                        show GW κ 4 0 0 (wM r g I21298 A21298 L21298) 194 [(3, .int x16835), (2, .int (I 4)), (1, .int y16821), (0, .ref (r 0))] []
                        refine g_aload_n hk dX12_tellQuery_194 rfl ?_
                        refine g_iconst (v := 4) hk dX12_tellQuery_195 (by decide) ?_
                        refine g_callV (n := 1) hk (j131_X12_must l D zt r g I21298 A21298 L21298 4 hV21298) (SP.same _) (fun _ h => h) (gi_V (List.mem_cons_of_mem _ (List.mem_append_left _ (List.mem_of_getElem? (i := 4) rfl))) (List.mem_cons_of_mem _ (List.mem_append_left _ (List.mem_of_getElem? (i := 5) rfl))) (List.mem_cons_of_mem _ (List.mem_append_left _ (List.mem_of_getElem? (i := 6) rfl))) (List.mem_cons_of_mem _ (List.mem_append_left _ (List.mem_of_getElem? (i := 7) rfl))) (gi_sub (fun w h => (List.mem_cons_of_mem _ (List.mem_append_right _ (List.mem_append_right _ (List.mem_append_left _ h))))) zg_j131_X12_must)) rfl rfl rfl (by decide +kernel) ⟨Nat.le_of_ble_eq_true rfl, Nat.le_of_ble_eq_true rfl⟩ 0 rfl rfl rfl rfl (Nat.le_of_ble_eq_true rfl) ⟨Nat.le_of_ble_eq_true rfl, Nat.le_of_ble_eq_true rfl⟩ dX12_tellQuery_196 (fun v ty' w' hp hk' => ?_)
                        obtain ⟨I21304, A21304, L21304, hI21304, hA21304, hV21304, r21305, r21306, r21307, r21308, r21309, hL21304, hC, rfl, rfl⟩ := hp
                        replace hF := FE.bdM hF hC
                        have f21310 := IvM_f4 hV21304
                        rw [show (I21298 4) = (I20955 4) from (hI21298 4 rfl)] at r21305
                        have f21311 := IvM_f6 hV21304
                        rw [show (I21298 6) = (I20955 6) from (hI21298 6 rfl)] at r21306
                        rw [show (I21304 8) = (I21298 8) from (hI21304 8 rfl)] at r21307
                        rw [show (I21298 4) = (I20955 4) from (hI21298 4 rfl)] at r21308
                        rw [show (I21298 6) = (I20955 6) from (hI21298 6 rfl), show (A21298 2 (I21298 4).toNatClampNeg) = (A 2 (I20955 4).toNatClampNeg) from (by rw [show I21298 4 = (I20955 4) from (hI21298 4 rfl)]; exact ((congrFun (hA21298 2 rfl) _).trans ((congrFun (hA20955 2 rfl) _).trans ((congrFun (hA16839 2 rfl) _).trans (congrFun (hA16825 2 rfl) _)))))] at r21309
                        show GW κ 4 0 0 (wM r g I21304 A21304 L21304) 199 [(3, .int x16835), (2, .int (I 4)), (1, .int y16821), (0, .ref (r 0))] []
                        refine g_aload_n hk dX12_tellQuery_199 rfl ?_
                        refine gM_i6 (v := (I21304 6)) hk hin12 (List.mem_cons_of_mem _ (List.mem_append_left _ (List.mem_of_getElem? (i := 16) rfl))) dX12_tellQuery_200 rfl ?_
                        refine g_if_le (tgt := 207) (a := (I21304 6).toInt) hk dX12_tellQuery_203 (by decide) rfl (fun c21312 => ?_) (fun c21312 => ?_)
                        · skip
                          replace hF := FE.pos hF c21312
                          refine g_aload_n hk dX12_tellQuery_207 rfl ?_
                          refine g_bipush (v := (-2)) hk dX12_tellQuery_208 (by decide) ?_
                          refine pM_i11 hk hin12 (List.mem_cons_of_mem _ (List.mem_append_left _ (List.mem_of_getElem? (i := 0) rfl))) dX12_tellQuery_210 ?_
                          refine g_aload_n hk dX12_tellQuery_213 rfl ?_
                          refine gM_r0_25 hk hin12 (List.mem_cons_of_mem _ (List.mem_append_left _ (List.mem_of_getElem? (i := 17) rfl))) dX12_tellQuery_214 ?_
                          refine g_aload_n hk dX12_tellQuery_217 rfl ?_
                          refine gM_i17 (v := (I 17)) hk hin12 (List.mem_cons_of_mem _ (List.mem_append_left _ (List.mem_of_getElem? (i := 8) rfl))) dX12_tellQuery_218 ((hI21304 17 rfl).trans ((hI21298 17 rfl).trans ((hI20955 17 rfl).trans ((hI16839 17 rfl).trans (hI16825 17 rfl))))) ?_
                          have g21313 : (I21304 16).toInt = (I 16).toInt := by rw [show (I21304 16) = (I 16) from ((hI21304 16 rfl).trans ((hI21298 16 rfl).trans ((hI20955 16 rfl).trans ((hI16839 16 rfl).trans (hI16825 16 rfl)))))]
                          have g21314 : (I21304 17).toInt = (I 17).toInt := by rw [show (I21304 17) = (I 17) from ((hI21304 17 rfl).trans ((hI21298 17 rfl).trans ((hI20955 17 rfl).trans ((hI16839 17 rfl).trans (hI16825 17 rfl)))))]
                          have g21315 : (A21304 10 0).toInt = (A 10 0).toInt := by rw [show (A21304 10 0) = (A 10 0) from ((congrFun (hA21304 10 rfl) _).trans ((congrFun (hA21298 10 rfl) _).trans ((congrFun (hA20955 10 rfl) _).trans ((congrFun (hA16839 10 rfl) _).trans (congrFun (hA16825 10 rfl) _)))))]
                          have g21316 : (A21304 10 1).toInt = (A 10 1).toInt := by rw [show (A21304 10 1) = (A 10 1) from ((congrFun (hA21304 10 rfl) _).trans ((congrFun (hA21298 10 rfl) _).trans ((congrFun (hA20955 10 rfl) _).trans ((congrFun (hA16839 10 rfl) _).trans (congrFun (hA16825 10 rfl) _)))))]
                          have g21317 := (IvM_nq (I := I21304) (A := A21304) hV21304).1 (by omega)
                          refine g_aload_n hk dX12_tellQuery_221 rfl ?_
                          refine gM_r0_8 hk hin12 (List.mem_cons_of_mem _ (List.mem_append_left _ (List.mem_of_getElem? (i := 18) rfl))) dX12_tellQuery_222 ?_
                          refine g_iload_n hk dX12_tellQuery_225 rfl ?_
                          refine lM_5 hk (vp_in_iff.mpr ⟨by omega, by omega⟩) rfl dX12_tellQuery_226 ?_
                          refine g_topl (fun y21318 ey21318 => ?_)
                          replace hF := FE.lt hF ey21318
                          refine sM_7 (j := (I 17).toNatClampNeg) hk (vp_in_iff.mpr ⟨by omega, by omega⟩) rfl dX12_tellQuery_227 ?_
                          refine g_aload_n hk dX12_tellQuery_228 rfl ?_
                          refine g_dup hk dX12_tellQuery_229 rfl ?_
                          refine gM_i17 (v := (I 17)) hk hin12 (List.mem_cons_of_mem _ (List.mem_append_left _ (List.mem_of_getElem? (i := 8) rfl))) dX12_tellQuery_230 ((hI21304 17 rfl).trans ((hI21298 17 rfl).trans ((hI20955 17 rfl).trans ((hI16839 17 rfl).trans (hI16825 17 rfl))))) ?_
                          refine g_iconst (v := 1) hk dX12_tellQuery_233 (by decide) ?_
                          refine g_iadd hk dX12_tellQuery_234 ?_
                          refine g_topi (fun y21319 ey21319 => ?_)
                          replace hF := FE.lt hF ey21319
                          have hy21319 : y21319.toInt = (I 17).toInt + 1 := i32_add ey21319 rfl rfl (by omega) (by omega)
                          refine pM_i17 hk hin12 (List.mem_cons_of_mem _ (List.mem_append_left _ (List.mem_of_getElem? (i := 8) rfl))) dX12_tellQuery_235 ?_
                          refine g_aload_n hk dX12_tellQuery_238 rfl ?_
                          refine gM_r0_28 hk hin12 (List.mem_cons_of_mem _ (List.mem_append_left _ (List.mem_of_getElem? (i := 2) rfl))) dX12_tellQuery_239 ?_
                          refine g_aload_n hk dX12_tellQuery_242 rfl ?_
                          refine gM_i16 (v := (I 16)) hk hin12 (List.mem_cons_of_mem _ (List.mem_append_left _ (List.mem_of_getElem? (i := 1) rfl))) dX12_tellQuery_243 ((hI21304 16 rfl).trans ((hI21298 16 rfl).trans ((hI20955 16 rfl).trans ((hI16839 16 rfl).trans (hI16825 16 rfl))))) ?_
                          by_cases c21320 : (I 16).toInt = 0
                          · have ec21320 : (I 16) = 0 := Int32.toInt_inj.mp c21320
                            replace hF := FE.pos hF c21320
                            rw [ec21320]
                            show GW κ 4 0 0 (wM r g (upd (upd I21304 11 (-2)) 17 y21319) A21304 (up3L L21304 7 ((I 17).toNatClampNeg) y21318)) 246 [(3, .int x16835), (2, .int (I 4)), (1, .int y16821), (0, .ref (r 0))] [.int 0, .ref (r 11)]
                            refine g_dup2 hk dX12_tellQuery_246 rfl rfl ?_
                            refine lM_10 (v := (A 10 0)) hk (vp_in_iff.mpr ⟨by decide, by decide⟩) ((congrFun (hA21304 10 rfl) _).trans ((congrFun (hA21298 10 rfl) _).trans ((congrFun (hA20955 10 rfl) _).trans ((congrFun (hA16839 10 rfl) _).trans (congrFun (hA16825 10 rfl) _))))) dX12_tellQuery_247 ?_
                            refine g_iconst (v := 1) hk dX12_tellQuery_248 (by decide) ?_
                            refine g_iadd hk dX12_tellQuery_249 ?_
                            refine g_topi (fun y21321 ey21321 => ?_)
                            replace hF := FE.lt hF ey21321
                            have hy21321 : y21321.toInt = (A 10 0).toInt + 1 := i32_add ey21321 rfl rfl (by omega) (by omega)
                            refine sM_10 (j := 0) hk (vp_in_iff.mpr ⟨by decide, by decide⟩) (by decide) dX12_tellQuery_250 ?_
                            have f21322 := IvM_s10_0 hV21304
                            have f21323 := IvM_s10_1 hV21304
                            have g21324 : (I21304 15).toInt = (I 15).toInt := by rw [show (I21304 15) = (I 15) from ((hI21304 15 rfl).trans ((hI21298 15 rfl).trans ((hI20955 15 rfl).trans ((hI16839 15 rfl).trans (hI16825 15 rfl)))))]
                            have g21325 := IvM_s10_0 (I := I21304) (A := A21304) hV21304
                            have g21326 := IvM_s10_1 (I := I21304) (A := A21304) hV21304
                            have g21327 : (I21304 8).toInt = (I21298 8).toInt := by rw [show (I21304 8) = (I21298 8) from (hI21304 8 rfl)]
                            have q21328 := cl_int (y := y16821) (by omega)
                            have g21329 : (A21304 11 y16821.toNatClampNeg).toInt = (A20955 11 y16821.toNatClampNeg).toInt := by rw [show (A21304 11 y16821.toNatClampNeg) = (A20955 11 y16821.toNatClampNeg) from ((congrFun (hA21304 11 rfl) _).trans (congrFun (hA21298 11 rfl) _))]
                            have u21330 : 0 < (I16825 6).toInt ∨ ((I 6).toInt = 0 ∧ (A 2 (I 4).toNatClampNeg).toInt = (1 : Int32).toInt) := r16830
                            have u21331 : 0 < (I21304 6).toInt ∨ ((I20955 6).toInt = 0 ∧ (A 2 (I20955 4).toNatClampNeg).toInt = (4 : Int32).toInt) := r21309
                            exact g_vret hk hR ⟨(upd (upd I21304 11 (-2)) 17 y21319), (up3 A21304 10 0 y21321), (up3L L21304 7 ((I 17).toNatClampNeg) y21318), (show Md [4, 6, 7, 8, 9, 11, 12, 13, 17] I (upd (upd I21304 11 (-2)) 17 y21319) from (Md.up (Md.up (Md.tr (Md.tr (Md.tr (Md.tr (Md.tr (Md.up Md.rf rfl) hI16825 rfl) hI16839 rfl) hI20955 rfl) hI21298 rfl) hI21304 rfl) rfl) rfl)), (show Md [10, 11, 12] A (up3 A21304 10 0 y21321) from (Md.up3 (Md.tr (Md.tr (Md.tr (Md.up3 (Md.tr (Md.tr Md.rf hA16825 rfl) hA16839 rfl) rfl) hA20955 rfl) hA21298 rfl) hA21304 rfl) rfl)), ⟨(IvM_f1 (I := I21304) (A := A21304) hV21304), (IvM_f2 (I := I21304) (A := A21304) hV21304), (IvM_f3 (I := I21304) (A := A21304) hV21304), (IvM_f4 (I := I21304) (A := A21304) hV21304), (IvM_f6 (I := I21304) (A := A21304) hV21304), (IvM_f8 (I := I21304) (A := A21304) hV21304), (IvM_f15 (I := I21304) (A := A21304) hV21304), (IvM_f16 (I := I21304) (A := A21304) hV21304), (show 0 ≤ y21319.toInt ∧ y21319.toInt ≤ 5 from ⟨by omega, by omega⟩), (IvM_f18 (I := I21304) (A := A21304) hV21304), (IvM_f22 (I := I21304) (A := A21304) hV21304), (IvM_f23 (I := I21304) (A := A21304) hV21304), (IvM_f24 (I := I21304) (A := A21304) hV21304), (IvM_a11 (I := I21304) (A := A21304) hV21304), (IvM_a26 (I := I21304) (A := A21304) hV21304), (IvM_s8_0 (I := I21304) (A := A21304) hV21304), (IvM_s8_1 (I := I21304) (A := A21304) hV21304), (show 0 ≤ ((up3 A21304 10 0 y21321) 10 0).toInt ∧ ((up3 A21304 10 0 y21321) 10 0).toInt ≤ 5 from by rw [show (up3 A21304 10 0 y21321) 10 0 = y21321 from rfl]; exact ⟨by omega, by omega⟩), (show 0 ≤ ((up3 A21304 10 0 y21321) 10 1).toInt ∧ ((up3 A21304 10 0 y21321) 10 1).toInt ≤ 5 from by rw [show (up3 A21304 10 0 y21321) 10 1 = (A21304 10 1) from rfl]; exact (IvM_s10_1 (I := I21304) (A := A21304) hV21304)), (IvM_s17_0 (I := I21304) (A := A21304) hV21304), (IvM_s17_164 (I := I21304) (A := A21304) hV21304), ⟨fun e => by have e : (I21304 15).toInt = 0 := e; first | exact (IvM_lv (I := I21304) (A := A21304) hV21304).1 e | (exfalso; omega), fun e => by have e : (I21304 15).toInt = 1 := e; first | exact (IvM_lv (I := I21304) (A := A21304) hV21304).2 e | (exfalso; omega)⟩, (by first | (exfalso; omega) | (by_cases g8 : (I21304 8).toInt ≠ 0; exact Or.inr (Or.inl g8); rcases (IvM_sd (I := I21304) (A := A21304) hV21304) with h9 | h9 | h9; exact absurd h9 (by omega); exact absurd h9 g8; exact Or.inr (Or.inr ⟨fun e => by have e : (I21304 16).toInt = 0 := e; first | exact ghf_add (n := (A21304 10 0)) (f := (A21304 11)) (n2 := y21321) (p := y16821.toNatClampNeg) (h9.1 e) (by omega) (by omega) (by omega) | (exfalso; omega), fun e => by have e : (I21304 16).toInt = 1 := e; first | exact ghf_add (n := (A21304 10 1)) (f := (A21304 11)) (n2 := y21321) (p := y16821.toNatClampNeg) (h9.2 e) (by omega) (by omega) (by omega) | (exfalso; omega)⟩))), ⟨fun e => by have e : (I21304 16).toInt = 0 := e; first | (exfalso; omega) | (show y21319.toInt = y21321.toInt; omega), fun e => by have e : (I21304 16).toInt = 1 := e; first | (exfalso; omega) | (show y21319.toInt = (A21304 10 1).toInt; omega)⟩, (IvM_hr (I := I21304) (A := A21304) hV21304), (IvM_hh (I := I21304) (A := A21304) hV21304), trivial⟩, (by rw [show ((upd (upd I21304 11 (-2)) 17 y21319) 4) = (I21304 4) from rfl] <;> omega), (by rw [show ((upd (upd I21304 11 (-2)) 17 y21319) 6) = (I21304 6) from rfl] <;> omega), (by rw [show ((upd (upd I21304 11 (-2)) 17 y21319) 8) = (I21298 8) from (hI21304 8 rfl)] <;> omega), hF, rfl, rfl⟩ dX12_tellQuery_251
                          replace hF := FE.neg hF c21320
                          exfalso; omega
                        · skip
                          replace hF := FE.neg hF c21312
                          exact g_vret hk hR ⟨I21304, A21304, L21304, (show Md [4, 6, 7, 8, 9, 11, 12, 13, 17] I I21304 from (Md.tr (Md.tr (Md.tr (Md.tr (Md.tr (Md.up Md.rf rfl) hI16825 rfl) hI16839 rfl) hI20955 rfl) hI21298 rfl) hI21304 rfl)), (show Md [10, 11, 12] A A21304 from (Md.tr (Md.tr (Md.tr (Md.up3 (Md.tr (Md.tr Md.rf hA16825 rfl) hA16839 rfl) rfl) hA20955 rfl) hA21298 rfl) hA21304 rfl)), hV21304, (by omega), (by omega), (by rw [show (I21304 8) = (I21298 8) from (hI21304 8 rfl)] <;> omega), hF, rfl, rfl⟩ dX12_tellQuery_206
                  · skip
                    replace hF := FE.neg hF (fe_ne hC (by decide))
                    show GW κ 4 0 0 (wM r g I20955 A20955 L20955) 88 [(3, .int x16835), (2, .int (I 4)), (1, .int y16821), (0, .ref (r 0))] [.int 1]
                    refine g_if_eq (tgt := 166) (a := 1) hk dX12_tellQuery_88 (by decide) rfl (fun z9 => absurd z9 (show ¬ ((1 : Int) = (0 : Int)) from by decide)) (fun _ => ?_)
                    refine g_aload_n hk dX12_tellQuery_91 rfl ?_
                    refine gM_r0_29 hk hin12 (List.mem_cons_of_mem _ (List.mem_append_left _ (List.mem_of_getElem? (i := 9) rfl))) dX12_tellQuery_92 ?_
                    refine g_iload_n hk dX12_tellQuery_95 rfl ?_
                    refine lM_11 (v := (A20955 11 y16821.toNatClampNeg)) hk (vp_in_iff.mpr ⟨by omega, by omega⟩) rfl dX12_tellQuery_96 ?_
                    have f21332 := IvM_a11 hV20955 (y16821.toNatClampNeg)
                    refine g_bipush (v := 16) hk dX12_tellQuery_97 (by decide) ?_
                    refine g_icmp_ne (tgt := 107) (a := (A20955 11 y16821.toNatClampNeg).toInt) (b := 16) hk dX12_tellQuery_99 (by decide) rfl rfl (fun c21333 => ?_) (fun c21333 => ?_)
                    · skip
                      replace hF := FE.pos hF c21333
                      refine g_aload_n hk dX12_tellQuery_107 rfl ?_
                      refine gM_i6 (v := (I20955 6)) hk hin12 (List.mem_cons_of_mem _ (List.mem_append_left _ (List.mem_of_getElem? (i := 16) rfl))) dX12_tellQuery_108 rfl ?_
                      refine g_if_le (tgt := 115) (a := (I20955 6).toInt) hk dX12_tellQuery_111 (by decide) rfl (fun c21334 => ?_) (fun c21334 => ?_)
                      · skip
                        replace hF := FE.pos hF c21334
                        refine g_aload_n hk dX12_tellQuery_115 rfl ?_
                        refine gM_r0_30 hk hin12 (List.mem_cons_of_mem _ (List.mem_append_left _ (List.mem_of_getElem? (i := 22) rfl))) dX12_tellQuery_116 ?_
                        refine g_bipush (v := 16) hk dX12_tellQuery_119 (by decide) ?_
                        refine g_iload_n hk dX12_tellQuery_121 rfl ?_
                        refine g_imul hk dX12_tellQuery_122 ?_
                        refine g_topi (fun y21335 ey21335 => ?_)
                        replace hF := FE.lt hF ey21335
                        have hy21335 : y21335.toInt = 16 * y16821.toInt := i32_mul ey21335 rfl rfl (by omega) (by omega)
                        refine g_aload_n hk dX12_tellQuery_123 rfl ?_
                        refine gM_r0_29 hk hin12 (List.mem_cons_of_mem _ (List.mem_append_left _ (List.mem_of_getElem? (i := 9) rfl))) dX12_tellQuery_124 ?_
                        refine g_iload_n hk dX12_tellQuery_127 rfl ?_
                        refine lM_11 (v := (A20955 11 y16821.toNatClampNeg)) hk (vp_in_iff.mpr ⟨by omega, by omega⟩) rfl dX12_tellQuery_128 ?_
                        refine g_iadd hk dX12_tellQuery_129 ?_
                        refine g_topi (fun y21336 ey21336 => ?_)
                        replace hF := FE.lt hF ey21336
                        have hy21336 : y21336.toInt = y21335.toInt + (A20955 11 y16821.toNatClampNeg).toInt := i32_add ey21336 rfl rfl (by omega) (by omega)
                        refine g_aload_n hk dX12_tellQuery_130 rfl ?_
                        refine g_callV (n := 0) hk (j132_X12_readingTold l D zt r g I20955 A20955 L20955  hV20955) (SP.same _) (fun _ h => h) (gi_V (List.mem_cons_of_mem _ (List.mem_append_left _ (List.mem_of_getElem? (i := 23) rfl))) (List.mem_cons_of_mem _ (List.mem_append_left _ (List.mem_of_getElem? (i := 24) rfl))) (List.mem_cons_of_mem _ (List.mem_append_left _ (List.mem_of_getElem? (i := 25) rfl))) (List.mem_cons_of_mem _ (List.mem_append_left _ (List.mem_of_getElem? (i := 7) rfl))) (gi_sub (fun w h => (List.mem_cons_of_mem _ (List.mem_append_right _ (List.mem_append_right _ (List.mem_append_right _ (List.mem_append_right _ (List.mem_append_right _ (List.mem_append_right _ (List.mem_append_left _ h))))))))) zg_j132_X12_readingTold)) rfl rfl rfl (by decide +kernel) ⟨Nat.le_of_ble_eq_true rfl, Nat.le_of_ble_eq_true rfl⟩ 0 rfl rfl rfl rfl (Nat.le_of_ble_eq_true rfl) ⟨Nat.le_of_ble_eq_true rfl, Nat.le_of_ble_eq_true rfl⟩ dX12_tellQuery_131 (fun v ty' w' hp hk' => ?_)
                        obtain ⟨I21338, A21338, L21338, hI21338, hA21338, hV21338, y21337, r21339, r21340, r21341, r21342, hL21338, hC, rfl, rfl⟩ := hp
                        replace hF := FE.bdM hF hC
                        have f21343 := IvM_f4 hV21338
                        have f21344 := IvM_f6 hV21338
                        have f21345 := IvM_f8 hV21338
                        show GW κ 4 0 0 (wM r g I21338 A21338 L21338) 134 [(3, .int x16835), (2, .int (I 4)), (1, .int y16821), (0, .ref (r 0))] [.int y21337, .int y21336, .ref (r 13)]
                        refine sM_12 (j := y21336.toNatClampNeg) hk (vp_in_iff.mpr ⟨by omega, by omega⟩) rfl dX12_tellQuery_134 ?_
                        refine g_aload_n hk dX12_tellQuery_135 rfl ?_
                        refine gM_i6 (v := (I21338 6)) hk hin12 (List.mem_cons_of_mem _ (List.mem_append_left _ (List.mem_of_getElem? (i := 16) rfl))) dX12_tellQuery_136 rfl ?_
                        refine g_if_le (tgt := 143) (a := (I21338 6).toInt) hk dX12_tellQuery_139 (by decide) rfl (fun c21346 => ?_) (fun c21346 => ?_)
                        · skip
                          replace hF := FE.pos hF c21346
                          refine g_aload_n hk dX12_tellQuery_143 rfl ?_
                          refine gM_r0_29 hk hin12 (List.mem_cons_of_mem _ (List.mem_append_left _ (List.mem_of_getElem? (i := 9) rfl))) dX12_tellQuery_144 ?_
                          refine g_iload_n hk dX12_tellQuery_147 rfl ?_
                          refine g_dup2 hk dX12_tellQuery_148 rfl rfl ?_
                          refine lM_11 (v := (A20955 11 y16821.toNatClampNeg)) hk (vp_in_iff.mpr ⟨by omega, by omega⟩) (congrFun (hA21338 11 rfl) _) dX12_tellQuery_149 ?_
                          refine g_iconst (v := 1) hk dX12_tellQuery_150 (by decide) ?_
                          refine g_iadd hk dX12_tellQuery_151 ?_
                          refine g_topi (fun y21347 ey21347 => ?_)
                          replace hF := FE.lt hF ey21347
                          have hy21347 : y21347.toInt = (A20955 11 y16821.toNatClampNeg).toInt + 1 := i32_add ey21347 rfl rfl (by omega) (by omega)
                          refine sM_11 (j := y16821.toNatClampNeg) hk (vp_in_iff.mpr ⟨by omega, by omega⟩) rfl dX12_tellQuery_152 ?_
                          have hA21348 : ∀ j, 0 ≤ ((up3 (up3 A21338 12 (y21336.toNatClampNeg) y21337) 11 (y16821.toNatClampNeg) y21347) 11 j).toInt ∧ ((up3 (up3 A21338 12 (y21336.toNatClampNeg) y21337) 11 (y16821.toNatClampNeg) y21347) 11 j).toInt ≤ 16 := ai_st ((IvM_a11 hV21338)) ⟨by omega, by omega⟩
                          refine g_aload_n hk dX12_tellQuery_153 rfl ?_
                          refine g_dup hk dX12_tellQuery_154 rfl ?_
                          refine gM_i11 (v := (I20955 11)) hk hin12 (List.mem_cons_of_mem _ (List.mem_append_left _ (List.mem_of_getElem? (i := 0) rfl))) dX12_tellQuery_155 (hI21338 11 rfl) ?_
                          refine g_iconst (v := 1) hk dX12_tellQuery_158 (by decide) ?_
                          have b21349l := Int32.le_toInt (I20955 11)
                          have b21349h := Int32.toInt_lt (I20955 11)
                          refine g_iadd hk dX12_tellQuery_159 ?_
                          refine g_topi (fun y21350 ey21350 => ?_)
                          replace hF := FE.lt hF ey21350
                          refine pM_i11 hk hin12 (List.mem_cons_of_mem _ (List.mem_append_left _ (List.mem_of_getElem? (i := 0) rfl))) dX12_tellQuery_160 ?_
                          refine g_goto (tgt := 84) hk dX12_tellQuery_163 (by decide) ?_
                          have g21351 : (I21338 15).toInt = (I 15).toInt := by rw [show (I21338 15) = (I 15) from ((hI21338 15 rfl).trans ((hI20955 15 rfl).trans ((hI16839 15 rfl).trans (hI16825 15 rfl))))]
                          have g21352 : (I21338 16).toInt = (I 16).toInt := by rw [show (I21338 16) = (I 16) from ((hI21338 16 rfl).trans ((hI20955 16 rfl).trans ((hI16839 16 rfl).trans (hI16825 16 rfl))))]
                          have g21353 := IvM_s10_0 (I := I21338) (A := A21338) hV21338
                          have g21354 := IvM_s10_1 (I := I21338) (A := A21338) hV21338
                          have q21355 := cl_int (y := y16821) (by omega)
                          have g21356 : (A21338 10 0).toInt = (A 10 0).toInt := by rw [show (A21338 10 0) = (A 10 0) from ((congrFun (hA21338 10 rfl) _).trans ((congrFun (hA20955 10 rfl) _).trans ((congrFun (hA16839 10 rfl) _).trans (congrFun (hA16825 10 rfl) _))))]
                          have g21357 : (A21338 10 1).toInt = (A 10 1).toInt := by rw [show (A21338 10 1) = (A 10 1) from ((congrFun (hA21338 10 rfl) _).trans ((congrFun (hA20955 10 rfl) _).trans ((congrFun (hA16839 10 rfl) _).trans (congrFun (hA16825 10 rfl) _))))]
                          have q21358 := cl_int (y := y16821) (by omega)
                          exact g_lv (List.forall_mem_cons.mpr ⟨List.mem_of_getElem? (i := 0) rfl, (List.forall_mem_cons.mpr ⟨List.mem_of_getElem? (i := 1) rfl, (List.forall_mem_cons.mpr ⟨List.mem_of_getElem? (i := 2) rfl, (List.forall_mem_cons.mpr ⟨List.mem_of_getElem? (i := 3) rfl, (fun _ h => absurd h List.not_mem_nil)⟩)⟩)⟩)⟩) (ih21225 (upd I21338 11 y21350) (up3 (up3 A21338 12 (y21336.toNatClampNeg) y21337) 11 (y16821.toNatClampNeg) y21347) L21338 (show Md [4, 6, 7, 8, 9, 11, 12, 13] I16839 (upd I21338 11 y21350) from Md.tr hI20955 (show Md [4, 6, 7, 8, 9, 11, 12, 13] I20955 (upd I21338 11 y21350) from (Md.up (Md.tr Md.rf hI21338 rfl) rfl)) rfl) (show Md [11, 12] (up3 A16839 11 (y16821.toNatClampNeg) 0) (up3 (up3 A21338 12 (y21336.toNatClampNeg) y21337) 11 (y16821.toNatClampNeg) y21347) from Md.tr hA20955 (show Md [11, 12] A20955 (up3 (up3 A21338 12 (y21336.toNatClampNeg) y21337) 11 (y16821.toNatClampNeg) y21347) from (Md.up3 (Md.up3 (Md.tr Md.rf hA21338 rfl) rfl) rfl)) rfl) ⟨(IvM_f1 (I := I21338) (A := A21338) hV21338), (IvM_f2 (I := I21338) (A := A21338) hV21338), (IvM_f3 (I := I21338) (A := A21338) hV21338), (IvM_f4 (I := I21338) (A := A21338) hV21338), (IvM_f6 (I := I21338) (A := A21338) hV21338), (IvM_f8 (I := I21338) (A := A21338) hV21338), (IvM_f15 (I := I21338) (A := A21338) hV21338), (IvM_f16 (I := I21338) (A := A21338) hV21338), (IvM_f17 (I := I21338) (A := A21338) hV21338), (IvM_f18 (I := I21338) (A := A21338) hV21338), (IvM_f22 (I := I21338) (A := A21338) hV21338), (IvM_f23 (I := I21338) (A := A21338) hV21338), (IvM_f24 (I := I21338) (A := A21338) hV21338), hA21348, (IvM_a26 (I := I21338) (A := A21338) hV21338), (IvM_s8_0 (I := I21338) (A := A21338) hV21338), (IvM_s8_1 (I := I21338) (A := A21338) hV21338), (IvM_s10_0 (I := I21338) (A := A21338) hV21338), (IvM_s10_1 (I := I21338) (A := A21338) hV21338), (IvM_s17_0 (I := I21338) (A := A21338) hV21338), (IvM_s17_164 (I := I21338) (A := A21338) hV21338), ⟨fun e => by have e : (I21338 15).toInt = 0 := e; first | exact ghf_upd (n := (A21338 10 0)) ((IvM_lv (I := I21338) (A := A21338) hV21338).1 e) (fun q hq => by omega) | (exfalso; omega), fun e => by have e : (I21338 15).toInt = 1 := e; first | exact ghf_upd (n := (A21338 10 1)) ((IvM_lv (I := I21338) (A := A21338) hV21338).2 e) (fun q hq => by omega) | (exfalso; omega)⟩, (by rcases (IvM_sd (I := I21338) (A := A21338) hV21338) with h9 | h9 | h9; exact Or.inl h9; exact Or.inr (Or.inl h9); exact Or.inr (Or.inr ⟨fun e => by have e : (I21338 16).toInt = 0 := e; first | exact ghf_upd (n := (A21338 10 0)) (h9.1 e) (fun q hq => by omega) | (exfalso; omega), fun e => by have e : (I21338 16).toInt = 1 := e; first | exact ghf_upd (n := (A21338 10 1)) (h9.2 e) (fun q hq => by omega) | (exfalso; omega)⟩)), (IvM_nq (I := I21338) (A := A21338) hV21338), (IvM_hr (I := I21338) (A := A21338) hV21338), (IvM_hh (I := I21338) (A := A21338) hV21338), trivial⟩ (show L21338 = L16839 from (hL21338.trans hL20955)) (by first | (rw [show ((upd I21338 11 y21350) 4) = (I21338 4) from rfl] <;> omega) | omega) (by first | (rw [show ((upd I21338 11 y21350) 6) = (I21338 6) from rfl] <;> omega) | omega) (by first | (rw [show ((upd I21338 11 y21350) 8) = (I21338 8) from rfl] <;> omega) | omega) (by first | (rw [show ((upd I21338 11 y21350) 4) = (I21338 4) from rfl] <;> omega) | omega) (by omega) hF)
                        · skip
                          replace hF := FE.neg hF c21346
                          exact g_vret hk hR ⟨I21338, (up3 A21338 12 (y21336.toNatClampNeg) y21337), L21338, (show Md [4, 6, 7, 8, 9, 11, 12, 13, 17] I I21338 from (Md.tr (Md.tr (Md.tr (Md.tr (Md.up Md.rf rfl) hI16825 rfl) hI16839 rfl) hI20955 rfl) hI21338 rfl)), (show Md [10, 11, 12] A (up3 A21338 12 (y21336.toNatClampNeg) y21337) from (Md.up3 (Md.tr (Md.tr (Md.up3 (Md.tr (Md.tr Md.rf hA16825 rfl) hA16839 rfl) rfl) hA20955 rfl) hA21338 rfl) rfl)), ⟨(IvM_f1 (I := I21338) (A := A21338) hV21338), (IvM_f2 (I := I21338) (A := A21338) hV21338), (IvM_f3 (I := I21338) (A := A21338) hV21338), (IvM_f4 (I := I21338) (A := A21338) hV21338), (IvM_f6 (I := I21338) (A := A21338) hV21338), (IvM_f8 (I := I21338) (A := A21338) hV21338), (IvM_f15 (I := I21338) (A := A21338) hV21338), (IvM_f16 (I := I21338) (A := A21338) hV21338), (IvM_f17 (I := I21338) (A := A21338) hV21338), (IvM_f18 (I := I21338) (A := A21338) hV21338), (IvM_f22 (I := I21338) (A := A21338) hV21338), (IvM_f23 (I := I21338) (A := A21338) hV21338), (IvM_f24 (I := I21338) (A := A21338) hV21338), (IvM_a11 (I := I21338) (A := A21338) hV21338), (IvM_a26 (I := I21338) (A := A21338) hV21338), (IvM_s8_0 (I := I21338) (A := A21338) hV21338), (IvM_s8_1 (I := I21338) (A := A21338) hV21338), (IvM_s10_0 (I := I21338) (A := A21338) hV21338), (IvM_s10_1 (I := I21338) (A := A21338) hV21338), (IvM_s17_0 (I := I21338) (A := A21338) hV21338), (IvM_s17_164 (I := I21338) (A := A21338) hV21338), (IvM_lv (I := I21338) (A := A21338) hV21338), (IvM_sd (I := I21338) (A := A21338) hV21338), (IvM_nq (I := I21338) (A := A21338) hV21338), (IvM_hr (I := I21338) (A := A21338) hV21338), (IvM_hh (I := I21338) (A := A21338) hV21338), trivial⟩, (by omega), (by omega), (by omega), hF, rfl, rfl⟩ dX12_tellQuery_142
                      · skip
                        replace hF := FE.neg hF c21334
                        exact g_vret hk hR ⟨I20955, A20955, L20955, (show Md [4, 6, 7, 8, 9, 11, 12, 13, 17] I I20955 from (Md.tr (Md.tr (Md.tr (Md.up Md.rf rfl) hI16825 rfl) hI16839 rfl) hI20955 rfl)), (show Md [10, 11, 12] A A20955 from (Md.tr (Md.up3 (Md.tr (Md.tr Md.rf hA16825 rfl) hA16839 rfl) rfl) hA20955 rfl)), hV20955, (by omega), (by omega), (by omega), hF, rfl, rfl⟩ dX12_tellQuery_114
                    · skip
                      replace hF := FE.neg hF c21333
                      refine g_aload_n hk dX12_tellQuery_102 rfl ?_
                      refine g_iconst (v := 2) hk dX12_tellQuery_103 (by decide) ?_
                      have k21359 : (2 : Int32).toInt = 2 := rfl
                      refine g_callV (n := 1) hk (j128_X12_fail l D zt r g I20955 A20955 L20955 2 hV20955 (by decide) (by decide)) (SP.same _) (fun _ h => h) (gi_V (List.mem_cons_of_mem _ (List.mem_append_left _ (List.mem_of_getElem? (i := 26) rfl))) (List.mem_cons_of_mem _ (List.mem_append_left _ (List.mem_of_getElem? (i := 27) rfl))) (List.mem_cons_of_mem _ (List.mem_append_left _ (List.mem_of_getElem? (i := 28) rfl))) (List.mem_cons_of_mem _ (List.mem_append_left _ (List.mem_of_getElem? (i := 7) rfl))) (gi_sub (fun w h => (List.mem_cons_of_mem _ (List.mem_append_right _ (List.mem_append_right _ (List.mem_append_right _ (List.mem_append_right _ (List.mem_append_right _ (List.mem_append_right _ (List.mem_append_right _ (List.mem_append_left _ h)))))))))) zg_j128_X12_fail)) rfl rfl rfl (by decide +kernel) ⟨Nat.le_of_ble_eq_true rfl, Nat.le_of_ble_eq_true rfl⟩ 0 rfl rfl rfl rfl (Nat.le_of_ble_eq_true rfl) ⟨Nat.le_of_ble_eq_true rfl, Nat.le_of_ble_eq_true rfl⟩ dX12_tellQuery_104 (fun v ty' w' hp hk' => ?_)
                      obtain ⟨I21361, A21361, L21361, hI21361, hA21361, hV21361, r21362, r21363, r21364, hL21361, hC, rfl, rfl⟩ := hp
                      replace hF := FE.bdM hF hC
                      have f21365 := IvM_f6 hV21361
                      rw [show (I21361 8) = (I20955 8) from (hI21361 8 rfl)] at r21363
                      show GW κ 4 0 0 (wM r g I21361 A21361 L21361) 107 [(3, .int x16835), (2, .int (I 4)), (1, .int y16821), (0, .ref (r 0))] []
                      refine g_aload_n hk dX12_tellQuery_107 rfl ?_
                      refine gM_i6 (v := (I21361 6)) hk hin12 (List.mem_cons_of_mem _ (List.mem_append_left _ (List.mem_of_getElem? (i := 16) rfl))) dX12_tellQuery_108 rfl ?_
                      refine g_if_le (tgt := 115) (a := (I21361 6).toInt) hk dX12_tellQuery_111 (by decide) rfl (fun c21366 => ?_) (fun c21366 => ?_)
                      · skip
                        replace hF := FE.pos hF c21366
                        refine g_aload_n hk dX12_tellQuery_115 rfl ?_
                        refine gM_r0_30 hk hin12 (List.mem_cons_of_mem _ (List.mem_append_left _ (List.mem_of_getElem? (i := 22) rfl))) dX12_tellQuery_116 ?_
                        refine g_bipush (v := 16) hk dX12_tellQuery_119 (by decide) ?_
                        refine g_iload_n hk dX12_tellQuery_121 rfl ?_
                        refine g_imul hk dX12_tellQuery_122 ?_
                        refine g_topi (fun y21367 ey21367 => ?_)
                        replace hF := FE.lt hF ey21367
                        have hy21367 : y21367.toInt = 16 * y16821.toInt := i32_mul ey21367 rfl rfl (by omega) (by omega)
                        refine g_aload_n hk dX12_tellQuery_123 rfl ?_
                        refine gM_r0_29 hk hin12 (List.mem_cons_of_mem _ (List.mem_append_left _ (List.mem_of_getElem? (i := 9) rfl))) dX12_tellQuery_124 ?_
                        refine g_iload_n hk dX12_tellQuery_127 rfl ?_
                        refine lM_11 (v := (A20955 11 y16821.toNatClampNeg)) hk (vp_in_iff.mpr ⟨by omega, by omega⟩) (congrFun (hA21361 11 rfl) _) dX12_tellQuery_128 ?_
                        refine g_iadd hk dX12_tellQuery_129 ?_
                        refine g_topi (fun y21368 ey21368 => ?_)
                        replace hF := FE.lt hF ey21368
                        have hy21368 : y21368.toInt = y21367.toInt + (A20955 11 y16821.toNatClampNeg).toInt := i32_add ey21368 rfl rfl (by omega) (by omega)
                        refine g_aload_n hk dX12_tellQuery_130 rfl ?_
                        refine g_callV (n := 0) hk (j132_X12_readingTold l D zt r g I21361 A21361 L21361  hV21361) (SP.same _) (fun _ h => h) (gi_V (List.mem_cons_of_mem _ (List.mem_append_left _ (List.mem_of_getElem? (i := 23) rfl))) (List.mem_cons_of_mem _ (List.mem_append_left _ (List.mem_of_getElem? (i := 24) rfl))) (List.mem_cons_of_mem _ (List.mem_append_left _ (List.mem_of_getElem? (i := 25) rfl))) (List.mem_cons_of_mem _ (List.mem_append_left _ (List.mem_of_getElem? (i := 7) rfl))) (gi_sub (fun w h => (List.mem_cons_of_mem _ (List.mem_append_right _ (List.mem_append_right _ (List.mem_append_right _ (List.mem_append_right _ (List.mem_append_right _ (List.mem_append_right _ (List.mem_append_left _ h))))))))) zg_j132_X12_readingTold)) rfl rfl rfl (by decide +kernel) ⟨Nat.le_of_ble_eq_true rfl, Nat.le_of_ble_eq_true rfl⟩ 0 rfl rfl rfl rfl (Nat.le_of_ble_eq_true rfl) ⟨Nat.le_of_ble_eq_true rfl, Nat.le_of_ble_eq_true rfl⟩ dX12_tellQuery_131 (fun v ty' w' hp hk' => ?_)
                        obtain ⟨I21370, A21370, L21370, hI21370, hA21370, hV21370, y21369, r21371, r21372, r21373, r21374, hL21370, hC, rfl, rfl⟩ := hp
                        replace hF := FE.bdM hF hC
                        have f21375 := IvM_f4 hV21370
                        rw [show (I21361 4) = (I20955 4) from (hI21361 4 rfl)] at r21371
                        have f21376 := IvM_f6 hV21370
                        have f21377 := IvM_f8 hV21370
                        rw [show (I21361 8) = (I20955 8) from (hI21361 8 rfl)] at r21373
                        rw [show (I21361 4) = (I20955 4) from (hI21361 4 rfl)] at r21374
                        show GW κ 4 0 0 (wM r g I21370 A21370 L21370) 134 [(3, .int x16835), (2, .int (I 4)), (1, .int y16821), (0, .ref (r 0))] [.int y21369, .int y21368, .ref (r 13)]
                        refine sM_12 (j := y21368.toNatClampNeg) hk (vp_in_iff.mpr ⟨by omega, by omega⟩) rfl dX12_tellQuery_134 ?_
                        refine g_aload_n hk dX12_tellQuery_135 rfl ?_
                        refine gM_i6 (v := (I21370 6)) hk hin12 (List.mem_cons_of_mem _ (List.mem_append_left _ (List.mem_of_getElem? (i := 16) rfl))) dX12_tellQuery_136 rfl ?_
                        refine g_if_le (tgt := 143) (a := (I21370 6).toInt) hk dX12_tellQuery_139 (by decide) rfl (fun c21378 => ?_) (fun c21378 => ?_)
                        · skip
                          replace hF := FE.pos hF c21378
                          refine g_aload_n hk dX12_tellQuery_143 rfl ?_
                          refine gM_r0_29 hk hin12 (List.mem_cons_of_mem _ (List.mem_append_left _ (List.mem_of_getElem? (i := 9) rfl))) dX12_tellQuery_144 ?_
                          refine g_iload_n hk dX12_tellQuery_147 rfl ?_
                          refine g_dup2 hk dX12_tellQuery_148 rfl rfl ?_
                          refine lM_11 (v := (A20955 11 y16821.toNatClampNeg)) hk (vp_in_iff.mpr ⟨by omega, by omega⟩) ((congrFun (hA21370 11 rfl) _).trans (congrFun (hA21361 11 rfl) _)) dX12_tellQuery_149 ?_
                          refine g_iconst (v := 1) hk dX12_tellQuery_150 (by decide) ?_
                          refine g_iadd hk dX12_tellQuery_151 ?_
                          refine g_topi (fun y21379 ey21379 => ?_)
                          replace hF := FE.lt hF ey21379
                          have hy21379 : y21379.toInt = (A20955 11 y16821.toNatClampNeg).toInt + 1 := i32_add ey21379 rfl rfl (by omega) (by omega)
                          refine sM_11 (j := y16821.toNatClampNeg) hk (vp_in_iff.mpr ⟨by omega, by omega⟩) rfl dX12_tellQuery_152 ?_
                          have hA21380 : ∀ j, 0 ≤ ((up3 (up3 A21370 12 (y21368.toNatClampNeg) y21369) 11 (y16821.toNatClampNeg) y21379) 11 j).toInt ∧ ((up3 (up3 A21370 12 (y21368.toNatClampNeg) y21369) 11 (y16821.toNatClampNeg) y21379) 11 j).toInt ≤ 16 := ai_st ((IvM_a11 hV21370)) ⟨by omega, by omega⟩
                          refine g_aload_n hk dX12_tellQuery_153 rfl ?_
                          refine g_dup hk dX12_tellQuery_154 rfl ?_
                          refine gM_i11 (v := (I20955 11)) hk hin12 (List.mem_cons_of_mem _ (List.mem_append_left _ (List.mem_of_getElem? (i := 0) rfl))) dX12_tellQuery_155 ((hI21370 11 rfl).trans (hI21361 11 rfl)) ?_
                          refine g_iconst (v := 1) hk dX12_tellQuery_158 (by decide) ?_
                          have b21381l := Int32.le_toInt (I20955 11)
                          have b21381h := Int32.toInt_lt (I20955 11)
                          refine g_iadd hk dX12_tellQuery_159 ?_
                          refine g_topi (fun y21382 ey21382 => ?_)
                          replace hF := FE.lt hF ey21382
                          refine pM_i11 hk hin12 (List.mem_cons_of_mem _ (List.mem_append_left _ (List.mem_of_getElem? (i := 0) rfl))) dX12_tellQuery_160 ?_
                          refine g_goto (tgt := 84) hk dX12_tellQuery_163 (by decide) ?_
                          have g21383 : (I21370 15).toInt = (I 15).toInt := by rw [show (I21370 15) = (I 15) from ((hI21370 15 rfl).trans ((hI21361 15 rfl).trans ((hI20955 15 rfl).trans ((hI16839 15 rfl).trans (hI16825 15 rfl)))))]
                          have g21384 : (I21370 16).toInt = (I 16).toInt := by rw [show (I21370 16) = (I 16) from ((hI21370 16 rfl).trans ((hI21361 16 rfl).trans ((hI20955 16 rfl).trans ((hI16839 16 rfl).trans (hI16825 16 rfl)))))]
                          have g21385 := IvM_s10_0 (I := I21370) (A := A21370) hV21370
                          have g21386 := IvM_s10_1 (I := I21370) (A := A21370) hV21370
                          have q21387 := cl_int (y := y16821) (by omega)
                          have g21388 : (A21370 10 0).toInt = (A 10 0).toInt := by rw [show (A21370 10 0) = (A 10 0) from ((congrFun (hA21370 10 rfl) _).trans ((congrFun (hA21361 10 rfl) _).trans ((congrFun (hA20955 10 rfl) _).trans ((congrFun (hA16839 10 rfl) _).trans (congrFun (hA16825 10 rfl) _)))))]
                          have g21389 : (A21370 10 1).toInt = (A 10 1).toInt := by rw [show (A21370 10 1) = (A 10 1) from ((congrFun (hA21370 10 rfl) _).trans ((congrFun (hA21361 10 rfl) _).trans ((congrFun (hA20955 10 rfl) _).trans ((congrFun (hA16839 10 rfl) _).trans (congrFun (hA16825 10 rfl) _)))))]
                          have q21390 := cl_int (y := y16821) (by omega)
                          exact g_lv (List.forall_mem_cons.mpr ⟨List.mem_of_getElem? (i := 0) rfl, (List.forall_mem_cons.mpr ⟨List.mem_of_getElem? (i := 1) rfl, (List.forall_mem_cons.mpr ⟨List.mem_of_getElem? (i := 2) rfl, (List.forall_mem_cons.mpr ⟨List.mem_of_getElem? (i := 3) rfl, (fun _ h => absurd h List.not_mem_nil)⟩)⟩)⟩)⟩) (ih21225 (upd I21370 11 y21382) (up3 (up3 A21370 12 (y21368.toNatClampNeg) y21369) 11 (y16821.toNatClampNeg) y21379) L21370 (show Md [4, 6, 7, 8, 9, 11, 12, 13] I16839 (upd I21370 11 y21382) from Md.tr hI20955 (show Md [4, 6, 7, 8, 9, 11, 12, 13] I20955 (upd I21370 11 y21382) from (Md.up (Md.tr (Md.tr Md.rf hI21361 rfl) hI21370 rfl) rfl)) rfl) (show Md [11, 12] (up3 A16839 11 (y16821.toNatClampNeg) 0) (up3 (up3 A21370 12 (y21368.toNatClampNeg) y21369) 11 (y16821.toNatClampNeg) y21379) from Md.tr hA20955 (show Md [11, 12] A20955 (up3 (up3 A21370 12 (y21368.toNatClampNeg) y21369) 11 (y16821.toNatClampNeg) y21379) from (Md.up3 (Md.up3 (Md.tr (Md.tr Md.rf hA21361 rfl) hA21370 rfl) rfl) rfl)) rfl) ⟨(IvM_f1 (I := I21370) (A := A21370) hV21370), (IvM_f2 (I := I21370) (A := A21370) hV21370), (IvM_f3 (I := I21370) (A := A21370) hV21370), (IvM_f4 (I := I21370) (A := A21370) hV21370), (IvM_f6 (I := I21370) (A := A21370) hV21370), (IvM_f8 (I := I21370) (A := A21370) hV21370), (IvM_f15 (I := I21370) (A := A21370) hV21370), (IvM_f16 (I := I21370) (A := A21370) hV21370), (IvM_f17 (I := I21370) (A := A21370) hV21370), (IvM_f18 (I := I21370) (A := A21370) hV21370), (IvM_f22 (I := I21370) (A := A21370) hV21370), (IvM_f23 (I := I21370) (A := A21370) hV21370), (IvM_f24 (I := I21370) (A := A21370) hV21370), hA21380, (IvM_a26 (I := I21370) (A := A21370) hV21370), (IvM_s8_0 (I := I21370) (A := A21370) hV21370), (IvM_s8_1 (I := I21370) (A := A21370) hV21370), (IvM_s10_0 (I := I21370) (A := A21370) hV21370), (IvM_s10_1 (I := I21370) (A := A21370) hV21370), (IvM_s17_0 (I := I21370) (A := A21370) hV21370), (IvM_s17_164 (I := I21370) (A := A21370) hV21370), ⟨fun e => by have e : (I21370 15).toInt = 0 := e; first | exact ghf_upd (n := (A21370 10 0)) ((IvM_lv (I := I21370) (A := A21370) hV21370).1 e) (fun q hq => by omega) | (exfalso; omega), fun e => by have e : (I21370 15).toInt = 1 := e; first | exact ghf_upd (n := (A21370 10 1)) ((IvM_lv (I := I21370) (A := A21370) hV21370).2 e) (fun q hq => by omega) | (exfalso; omega)⟩, (by rcases (IvM_sd (I := I21370) (A := A21370) hV21370) with h9 | h9 | h9; exact Or.inl h9; exact Or.inr (Or.inl h9); exact Or.inr (Or.inr ⟨fun e => by have e : (I21370 16).toInt = 0 := e; first | exact ghf_upd (n := (A21370 10 0)) (h9.1 e) (fun q hq => by omega) | (exfalso; omega), fun e => by have e : (I21370 16).toInt = 1 := e; first | exact ghf_upd (n := (A21370 10 1)) (h9.2 e) (fun q hq => by omega) | (exfalso; omega)⟩)), (IvM_nq (I := I21370) (A := A21370) hV21370), (IvM_hr (I := I21370) (A := A21370) hV21370), (IvM_hh (I := I21370) (A := A21370) hV21370), trivial⟩ (show L21370 = L16839 from ((hL21370.trans hL21361).trans hL20955)) (by first | (rw [show ((upd I21370 11 y21382) 4) = (I21370 4) from rfl] <;> omega) | omega) (by first | (rw [show ((upd I21370 11 y21382) 6) = (I21370 6) from rfl] <;> omega) | omega) (by first | (rw [show ((upd I21370 11 y21382) 8) = (I21370 8) from rfl] <;> omega) | omega) (by first | (rw [show ((upd I21370 11 y21382) 4) = (I21370 4) from rfl] <;> omega) | omega) (by omega) hF)
                        · skip
                          replace hF := FE.neg hF c21378
                          exact g_vret hk hR ⟨I21370, (up3 A21370 12 (y21368.toNatClampNeg) y21369), L21370, (show Md [4, 6, 7, 8, 9, 11, 12, 13, 17] I I21370 from (Md.tr (Md.tr (Md.tr (Md.tr (Md.tr (Md.up Md.rf rfl) hI16825 rfl) hI16839 rfl) hI20955 rfl) hI21361 rfl) hI21370 rfl)), (show Md [10, 11, 12] A (up3 A21370 12 (y21368.toNatClampNeg) y21369) from (Md.up3 (Md.tr (Md.tr (Md.tr (Md.up3 (Md.tr (Md.tr Md.rf hA16825 rfl) hA16839 rfl) rfl) hA20955 rfl) hA21361 rfl) hA21370 rfl) rfl)), ⟨(IvM_f1 (I := I21370) (A := A21370) hV21370), (IvM_f2 (I := I21370) (A := A21370) hV21370), (IvM_f3 (I := I21370) (A := A21370) hV21370), (IvM_f4 (I := I21370) (A := A21370) hV21370), (IvM_f6 (I := I21370) (A := A21370) hV21370), (IvM_f8 (I := I21370) (A := A21370) hV21370), (IvM_f15 (I := I21370) (A := A21370) hV21370), (IvM_f16 (I := I21370) (A := A21370) hV21370), (IvM_f17 (I := I21370) (A := A21370) hV21370), (IvM_f18 (I := I21370) (A := A21370) hV21370), (IvM_f22 (I := I21370) (A := A21370) hV21370), (IvM_f23 (I := I21370) (A := A21370) hV21370), (IvM_f24 (I := I21370) (A := A21370) hV21370), (IvM_a11 (I := I21370) (A := A21370) hV21370), (IvM_a26 (I := I21370) (A := A21370) hV21370), (IvM_s8_0 (I := I21370) (A := A21370) hV21370), (IvM_s8_1 (I := I21370) (A := A21370) hV21370), (IvM_s10_0 (I := I21370) (A := A21370) hV21370), (IvM_s10_1 (I := I21370) (A := A21370) hV21370), (IvM_s17_0 (I := I21370) (A := A21370) hV21370), (IvM_s17_164 (I := I21370) (A := A21370) hV21370), (IvM_lv (I := I21370) (A := A21370) hV21370), (IvM_sd (I := I21370) (A := A21370) hV21370), (IvM_nq (I := I21370) (A := A21370) hV21370), (IvM_hr (I := I21370) (A := A21370) hV21370), (IvM_hh (I := I21370) (A := A21370) hV21370), trivial⟩, (by omega), (by omega), (by omega), hF, rfl, rfl⟩ dX12_tellQuery_142
                      · skip
                        replace hF := FE.neg hF c21366
                        exact g_vret hk hR ⟨I21361, A21361, L21361, (show Md [4, 6, 7, 8, 9, 11, 12, 13, 17] I I21361 from (Md.tr (Md.tr (Md.tr (Md.tr (Md.up Md.rf rfl) hI16825 rfl) hI16839 rfl) hI20955 rfl) hI21361 rfl)), (show Md [10, 11, 12] A A21361 from (Md.tr (Md.tr (Md.up3 (Md.tr (Md.tr Md.rf hA16825 rfl) hA16839 rfl) rfl) hA20955 rfl) hA21361 rfl)), hV21361, (by rw [show (I21361 4) = (I20955 4) from (hI21361 4 rfl)] <;> omega), (by omega), (by rw [show (I21361 8) = (I20955 8) from (hI21361 8 rfl)] <;> omega), hF, rfl, rfl⟩ dX12_tellQuery_114
              have b21392 := Int32.le_toInt (I16825 4)
              have b21393 := Int32.toInt_lt (I16825 4)
              have n21391a : 401 - (I16825 4).toInt < (FU : Int) := by have := FU_eq; omega
              have n21391b : 0 < FU := by have := FU_eq; omega
              have g21394 : (I16839 15).toInt = (I 15).toInt := by rw [show (I16839 15) = (I 15) from ((hI16839 15 rfl).trans (hI16825 15 rfl))]
              have g21395 : (I16839 16).toInt = (I 16).toInt := by rw [show (I16839 16) = (I 16) from ((hI16839 16 rfl).trans (hI16825 16 rfl))]
              have g21396 := IvM_s10_0 (I := I16839) (A := A16839) hV16839
              have g21397 := IvM_s10_1 (I := I16839) (A := A16839) hV16839
              have q21398 := cl_int (y := y16821) (by omega)
              have g21399 : (A16839 10 0).toInt = (A 10 0).toInt := by rw [show (A16839 10 0) = (A 10 0) from ((congrFun (hA16839 10 rfl) _).trans (congrFun (hA16825 10 rfl) _))]
              have g21400 : (A16839 10 1).toInt = (A 10 1).toInt := by rw [show (A16839 10 1) = (A 10 1) from ((congrFun (hA16839 10 rfl) _).trans (congrFun (hA16825 10 rfl) _))]
              have g21401 : (I16839 6).toInt = (I16825 6).toInt := by rw [show (I16839 6) = (I16825 6) from (hI16839 6 rfl)]
              have q21402 := cl_int (y := y16821) (by omega)
              exact lp21221 FU I16839 (up3 A16839 11 (y16821.toNatClampNeg) 0) L16839 Md.rf Md.rf ⟨(IvM_f1 (I := I16839) (A := A16839) hV16839), (IvM_f2 (I := I16839) (A := A16839) hV16839), (IvM_f3 (I := I16839) (A := A16839) hV16839), (IvM_f4 (I := I16839) (A := A16839) hV16839), (IvM_f6 (I := I16839) (A := A16839) hV16839), (IvM_f8 (I := I16839) (A := A16839) hV16839), (IvM_f15 (I := I16839) (A := A16839) hV16839), (IvM_f16 (I := I16839) (A := A16839) hV16839), (IvM_f17 (I := I16839) (A := A16839) hV16839), (IvM_f18 (I := I16839) (A := A16839) hV16839), (IvM_f22 (I := I16839) (A := A16839) hV16839), (IvM_f23 (I := I16839) (A := A16839) hV16839), (IvM_f24 (I := I16839) (A := A16839) hV16839), hA20950, (IvM_a26 (I := I16839) (A := A16839) hV16839), (IvM_s8_0 (I := I16839) (A := A16839) hV16839), (IvM_s8_1 (I := I16839) (A := A16839) hV16839), (IvM_s10_0 (I := I16839) (A := A16839) hV16839), (IvM_s10_1 (I := I16839) (A := A16839) hV16839), (IvM_s17_0 (I := I16839) (A := A16839) hV16839), (IvM_s17_164 (I := I16839) (A := A16839) hV16839), ⟨fun e => by have e : (I16839 15).toInt = 0 := e; first | exact ghf_upd (n := (A16839 10 0)) ((IvM_lv (I := I16839) (A := A16839) hV16839).1 e) (fun q hq => by omega) | (exfalso; omega), fun e => by have e : (I16839 15).toInt = 1 := e; first | exact ghf_upd (n := (A16839 10 1)) ((IvM_lv (I := I16839) (A := A16839) hV16839).2 e) (fun q hq => by omega) | (exfalso; omega)⟩, (by rcases (IvM_sd (I := I16839) (A := A16839) hV16839) with h9 | h9 | h9; exact Or.inl h9; exact Or.inr (Or.inl h9); exact Or.inr (Or.inr ⟨fun e => by have e : (I16839 16).toInt = 0 := e; first | exact ghf_upd (n := (A16839 10 0)) (h9.1 e) (fun q hq => by omega) | (exfalso; omega), fun e => by have e : (I16839 16).toInt = 1 := e; first | exact ghf_upd (n := (A16839 10 1)) (h9.2 e) (fun q hq => by omega) | (exfalso; omega)⟩)), (IvM_nq (I := I16839) (A := A16839) hV16839), (IvM_hr (I := I16839) (A := A16839) hV16839), (IvM_hh (I := I16839) (A := A16839) hV16839), trivial⟩ rfl (by first | (rw [show (I16839 4) = (I16825 4) from (hI16839 4 rfl)] <;> omega) | omega) (by first | (rw [show (I16839 6) = (I16825 6) from (hI16839 6 rfl)] <;> omega) | omega) (by omega) (by first | exact n21391a | (rw [show (I16839 4) = (I16825 4) from (hI16839 4 rfl)] <;> exact n21391a)) n21391b hF
            · skip
              replace hF := FE.neg hF c20948
              refine g_aload_n hk dX12_tellQuery_49 rfl ?_
              refine gM_r0_25 hk hin12 (List.mem_cons_of_mem _ (List.mem_append_left _ (List.mem_of_getElem? (i := 17) rfl))) dX12_tellQuery_50 ?_
              refine g_iload_n hk dX12_tellQuery_53 rfl ?_
              refine lM_7 hk (vp_in_iff.mpr ⟨by omega, by omega⟩) rfl dX12_tellQuery_54 ?_
              refine g_topl (fun y21403 ey21403 => ?_)
              replace hF := FE.lt hF ey21403
              refine g_aload_n hk dX12_tellQuery_55 rfl ?_
              refine gM_r0_8 hk hin12 (List.mem_cons_of_mem _ (List.mem_append_left _ (List.mem_of_getElem? (i := 18) rfl))) dX12_tellQuery_56 ?_
              refine g_iload_n hk dX12_tellQuery_59 rfl ?_
              refine lM_5 hk (vp_in_iff.mpr ⟨by omega, by omega⟩) rfl dX12_tellQuery_60 ?_
              refine g_topl (fun y21404 ey21404 => ?_)
              replace hF := FE.lt hF ey21404
              refine g_lcmp hk dX12_tellQuery_61 ?_
              refine g_topi (fun y21405 ey21405 => ?_)
              replace hF := FE.lt hF ey21405
              have b21406l := Int32.le_toInt y21405
              have b21406h := Int32.toInt_lt y21405
              refine g_if_ne (tgt := 71) (a := y21405.toInt) hk dX12_tellQuery_62 (by decide) rfl (fun c21407 => ?_) (fun c21407 => ?_)
              · skip
                replace hF := FE.pos hF c21407
                obtain ⟨y21408, ey21408⟩ : ∃ y : Int32, y = x16835 + Int32.ofInt 1 := ⟨_, rfl⟩
                replace hF := FE.lt hF ey21408
                have hy21408 : y21408.toInt = x16835.toInt + 1 := i32_add ey21408 rfl (by decide) (by omega) (by omega)
                refine g_iinc (v := y21408) (lv' := [(3, .int y21408), (2, .int (I 4)), (1, .int y16821), (0, .ref (r 0))]) hk 0 dX12_tellQuery_71 rfl ey21408.symm (by decide) rfl ?_
                refine g_goto (tgt := 34) hk dX12_tellQuery_74 (by decide) ?_
                exact g_lv (List.forall_mem_cons.mpr ⟨List.mem_of_getElem? (i := 0) rfl, (List.forall_mem_cons.mpr ⟨List.mem_of_getElem? (i := 1) rfl, (List.forall_mem_cons.mpr ⟨List.mem_of_getElem? (i := 2) rfl, (List.forall_mem_cons.mpr ⟨List.mem_of_getElem? (i := 3) rfl, (fun _ h => absurd h List.not_mem_nil)⟩)⟩)⟩)⟩) (ih20471 y21408 I16839 A16839 L16839 (show Md [8, 9, 13] I16825 I16839 from Md.tr hI16839 (show Md [8, 9, 13] I16839 I16839 from Md.rf) rfl) (show Md [] A16825 A16839 from Md.tr hA16839 (show Md [] A16839 A16839 from Md.rf) rfl) hV16839 (show L16839 = L16825 from hL16839) (by omega) (by omega) (by first | (rw [show (I16839 4) = (I16825 4) from (hI16839 4 rfl)] <;> omega) | omega) (by first | (rw [show (I16839 6) = (I16825 6) from (hI16839 6 rfl)] <;> omega) | omega) (by omega) (by omega) (by omega) hF)
              · skip
                replace hF := FE.neg hF c21407
                refine g_aload_n hk dX12_tellQuery_65 rfl ?_
                refine g_iconst (v := 3) hk dX12_tellQuery_66 (by decide) ?_
                refine g_iload_n hk dX12_tellQuery_67 rfl ?_
                have k21409 : (3 : Int32).toInt = 3 := rfl
                refine g_callV (n := 2) hk (j134_X12_wrong l D zt r g I16839 A16839 L16839 3 (I 4) hV16839 (by decide) (by decide) (by omega) (by omega)) (SP.same _) (fun _ h => h) (gi_V (List.mem_cons_of_mem _ (List.mem_append_left _ (List.mem_of_getElem? (i := 19) rfl))) (List.mem_cons_of_mem _ (List.mem_append_left _ (List.mem_of_getElem? (i := 20) rfl))) (List.mem_cons_of_mem _ (List.mem_append_left _ (List.mem_of_getElem? (i := 21) rfl))) (List.mem_cons_of_mem _ (List.mem_append_left _ (List.mem_of_getElem? (i := 7) rfl))) (gi_sub (fun w h => (List.mem_cons_of_mem _ (List.mem_append_right _ (List.mem_append_right _ (List.mem_append_right _ (List.mem_append_right _ (List.mem_append_right _ (List.mem_append_left _ h)))))))) zg_j134_X12_wrong)) rfl rfl rfl (by decide +kernel) ⟨Nat.le_of_ble_eq_true rfl, Nat.le_of_ble_eq_true rfl⟩ 0 rfl rfl rfl rfl (Nat.le_of_ble_eq_true rfl) ⟨Nat.le_of_ble_eq_true rfl, Nat.le_of_ble_eq_true rfl⟩ dX12_tellQuery_68 (fun v ty' w' hp hk' => ?_)
                obtain ⟨I21411, A21411, L21411, hI21411, hA21411, hV21411, r21412, r21413, r21414, hL21411, hC, rfl, rfl⟩ := hp
                replace hF := FE.bdM hF hC
                rw [show (I16839 6) = (I16825 6) from (hI16839 6 rfl), show (I21411 6) = (I16825 6) from ((hI21411 6 rfl).trans (hI16839 6 rfl))] at r21412
                have f21415 := IvM_f8 hV21411
                rw [show (I21411 6) = (I16825 6) from ((hI21411 6 rfl).trans (hI16839 6 rfl))] at r21414
                show GW κ 4 0 0 (wM r g I21411 A21411 L21411) 71 [(3, .int x16835), (2, .int (I 4)), (1, .int y16821), (0, .ref (r 0))] []
                obtain ⟨y21416, ey21416⟩ : ∃ y : Int32, y = x16835 + Int32.ofInt 1 := ⟨_, rfl⟩
                replace hF := FE.lt hF ey21416
                have hy21416 : y21416.toInt = x16835.toInt + 1 := i32_add ey21416 rfl (by decide) (by omega) (by omega)
                refine g_iinc (v := y21416) (lv' := [(3, .int y21416), (2, .int (I 4)), (1, .int y16821), (0, .ref (r 0))]) hk 0 dX12_tellQuery_71 rfl ey21416.symm (by decide) rfl ?_
                refine g_goto (tgt := 34) hk dX12_tellQuery_74 (by decide) ?_
                exact g_lv (List.forall_mem_cons.mpr ⟨List.mem_of_getElem? (i := 0) rfl, (List.forall_mem_cons.mpr ⟨List.mem_of_getElem? (i := 1) rfl, (List.forall_mem_cons.mpr ⟨List.mem_of_getElem? (i := 2) rfl, (List.forall_mem_cons.mpr ⟨List.mem_of_getElem? (i := 3) rfl, (fun _ h => absurd h List.not_mem_nil)⟩)⟩)⟩)⟩) (ih20471 y21416 I21411 A21411 L21411 (show Md [8, 9, 13] I16825 I21411 from Md.tr hI16839 (show Md [8, 9, 13] I16839 I21411 from (Md.tr Md.rf hI21411 rfl)) rfl) (show Md [] A16825 A21411 from Md.tr hA16839 (show Md [] A16839 A21411 from (Md.tr Md.rf hA21411 rfl)) rfl) hV21411 (show L21411 = L16825 from (hL21411.trans hL16839)) (by omega) (by omega) (by first | (rw [show (I21411 4) = (I16825 4) from ((hI21411 4 rfl).trans (hI16839 4 rfl))] <;> omega) | omega) (by first | (rw [show (I21411 6) = (I16825 6) from ((hI21411 6 rfl).trans (hI16839 6 rfl))] <;> omega) | omega) (by omega) (by omega) (by omega) hF)
      have k21417 : (0 : Int32).toInt = 0 := rfl
      have b21419 := Int32.le_toInt (0 : Int32)
      have b21420 := Int32.toInt_lt (0 : Int32)
      have n21418a : 6 - (0 : Int32).toInt < (FU : Int) := by have := FU_eq; omega
      have n21418b : 0 < FU := by have := FU_eq; omega
      exact lp20467 FU 0 I16825 A16825 L16825 Md.rf Md.rf hV16825 rfl (by omega) (by omega) (by omega) (by omega) (by first | (rw [show (I16825 8) = (I 8) from (hI16825 8 rfl)] <;> omega) | omega) n21418a n21418b hF
    replace hF := FE.neg hF c16819
    exfalso; omega
  replace hF := FE.neg hF c16818
  by_cases c21421 : (I 16).toInt = 1
  · have ec21421 : (I 16) = 1 := Int32.toInt_inj.mp c21421
    replace hF := FE.pos hF c21421
    rw [ec21421]
    show GW κ 4 0 0 (wM r g (upd I 11 0) A L) 10 [(0, .ref (r 0))] [.int 1, .int 5]
    refine g_imul hk dX12_tellQuery_10 ?_
    refine g_norm (v := 5) (by decide) ?_
    refine g_aload_n hk dX12_tellQuery_11 rfl ?_
    refine gM_r0_28 hk hin12 (List.mem_cons_of_mem _ (List.mem_append_left _ (List.mem_of_getElem? (i := 2) rfl))) dX12_tellQuery_12 ?_
    refine g_aload_n hk dX12_tellQuery_15 rfl ?_
    refine gM_i16 (v := (I 16)) hk hin12 (List.mem_cons_of_mem _ (List.mem_append_left _ (List.mem_of_getElem? (i := 1) rfl))) dX12_tellQuery_16 rfl ?_
    by_cases c21422 : (I 16).toInt = 1
    · have ec21422 : (I 16) = 1 := Int32.toInt_inj.mp c21422
      replace hF := FE.pos hF c21422
      rw [ec21422]
      show GW κ 4 0 0 (wM r g (upd I 11 0) A L) 19 [(0, .ref (r 0))] [.int 1, .ref (r 11), .int 5]
      refine lM_10 (v := (A 10 1)) hk (vp_in_iff.mpr ⟨by decide, by decide⟩) rfl dX12_tellQuery_19 ?_
      have f21423 := IvM_s10_1 hIv
      refine g_iadd hk dX12_tellQuery_20 ?_
      refine g_topi (fun y21424 ey21424 => ?_)
      replace hF := FE.lt hF ey21424
      have hy21424 : y21424.toInt = 5 + (A 10 1).toInt := i32_add ey21424 rfl rfl (by omega) (by omega)
      refine g_istore_n (lv' := [(1, .int y21424), (0, .ref (r 0))]) hk dX12_tellQuery_21 (by decide) rfl ?_
      refine g_aload_n hk dX12_tellQuery_22 rfl ?_
      refine gM_i4 (v := (I 4)) hk hin12 (List.mem_cons_of_mem _ (List.mem_append_left _ (List.mem_of_getElem? (i := 3) rfl))) dX12_tellQuery_23 rfl ?_
      have f21425 := IvM_f4 hIv
      refine g_istore_n (lv' := [(2, .int (I 4)), (1, .int y21424), (0, .ref (r 0))]) hk dX12_tellQuery_26 (by decide) rfl ?_
      refine g_aload_n hk dX12_tellQuery_27 rfl ?_
      refine g_iconst (v := 1) hk dX12_tellQuery_28 (by decide) ?_
      have k21426 : (1 : Int32).toInt = 1 := rfl
      refine g_callV (n := 1) hk (j131_X12_must l D zt r g (upd I 11 0) A L 1 ⟨(IvM_f1 (I := I) (A := A) hIv), (IvM_f2 (I := I) (A := A) hIv), (IvM_f3 (I := I) (A := A) hIv), (IvM_f4 (I := I) (A := A) hIv), (IvM_f6 (I := I) (A := A) hIv), (IvM_f8 (I := I) (A := A) hIv), (IvM_f15 (I := I) (A := A) hIv), (IvM_f16 (I := I) (A := A) hIv), (IvM_f17 (I := I) (A := A) hIv), (IvM_f18 (I := I) (A := A) hIv), (IvM_f22 (I := I) (A := A) hIv), (IvM_f23 (I := I) (A := A) hIv), (IvM_f24 (I := I) (A := A) hIv), (IvM_a11 (I := I) (A := A) hIv), (IvM_a26 (I := I) (A := A) hIv), (IvM_s8_0 (I := I) (A := A) hIv), (IvM_s8_1 (I := I) (A := A) hIv), (IvM_s10_0 (I := I) (A := A) hIv), (IvM_s10_1 (I := I) (A := A) hIv), (IvM_s17_0 (I := I) (A := A) hIv), (IvM_s17_164 (I := I) (A := A) hIv), (IvM_lv (I := I) (A := A) hIv), (IvM_sd (I := I) (A := A) hIv), (IvM_nq (I := I) (A := A) hIv), (IvM_hr (I := I) (A := A) hIv), (IvM_hh (I := I) (A := A) hIv), trivial⟩) (SP.same _) (fun _ h => h) (gi_V (List.mem_cons_of_mem _ (List.mem_append_left _ (List.mem_of_getElem? (i := 4) rfl))) (List.mem_cons_of_mem _ (List.mem_append_left _ (List.mem_of_getElem? (i := 5) rfl))) (List.mem_cons_of_mem _ (List.mem_append_left _ (List.mem_of_getElem? (i := 6) rfl))) (List.mem_cons_of_mem _ (List.mem_append_left _ (List.mem_of_getElem? (i := 7) rfl))) (gi_sub (fun w h => (List.mem_cons_of_mem _ (List.mem_append_right _ (List.mem_append_right _ (List.mem_append_left _ h))))) zg_j131_X12_must)) rfl rfl rfl (by decide +kernel) ⟨Nat.le_of_ble_eq_true rfl, Nat.le_of_ble_eq_true rfl⟩ 0 rfl rfl rfl rfl (Nat.le_of_ble_eq_true rfl) ⟨Nat.le_of_ble_eq_true rfl, Nat.le_of_ble_eq_true rfl⟩ dX12_tellQuery_29 (fun v ty' w' hp hk' => ?_)
      obtain ⟨I21428, A21428, L21428, hI21428, hA21428, hV21428, r21429, r21430, r21431, r21432, r21433, hL21428, hC, rfl, rfl⟩ := hp
      replace hF := FE.bdM hF hC
      have f21434 := IvM_f4 hV21428
      rw [show ((upd I 11 0) 4) = (I 4) from rfl] at r21429
      have f21435 := IvM_f6 hIv
      have f21436 := IvM_f6 hV21428
      rw [show ((upd I 11 0) 6) = (I 6) from rfl] at r21430
      have f21437 := IvM_f8 hIv
      rw [show ((upd I 11 0) 8) = (I 8) from rfl, show (I21428 8) = (I 8) from (hI21428 8 rfl)] at r21431
      rw [show ((upd I 11 0) 4) = (I 4) from rfl] at r21432
      rw [show ((upd I 11 0) 6) = (I 6) from rfl, show (A 2 ((upd I 11 0) 4).toNatClampNeg) = (A 2 (I 4).toNatClampNeg) from rfl] at r21433
      show GW κ 4 0 0 (wM r g I21428 A21428 L21428) 32 [(2, .int (I 4)), (1, .int y21424), (0, .ref (r 0))] []
      refine g_iconst (v := 0) hk dX12_tellQuery_32 (by decide) ?_
      refine g_istore_n (lv' := [(3, .int 0), (2, .int (I 4)), (1, .int y21424), (0, .ref (r 0))]) hk dX12_tellQuery_33 (by decide) rfl ?_
      have f25062 := IvM_f4 hIv
      have f25063 := IvM_f6 hIv
      have f25064 := IvM_f8 hIv
      have lp25070 : ∀ (n25071 : Nat) (x21438 : Int32) (I21442 : Nat → Int32) (A21442 : Nat → Nat → Int32) (L21442 : Nat → Nat → Int64), (Md [8, 9, 13] I21428 I21442) → (Md [] A21428 A21442) → (IvM I21442 A21442) → (L21442 = L21428) → (0 ≤ x21438.toInt) → (x21438.toInt ≤ 5) → ((I 4).toInt ≤ (I21428 4).toInt) → ((I 6).toInt ≤ (I21428 6).toInt) → ((I 8).toInt ≤ 9 * (I21442 8).toInt) → (6 - x21438.toInt < (n25071 : Int)) → (0 < n25071) → (FE (fM12_tellQuery I A L) (itr_iIAL dfM (bM12_tellQuery_34x I A y21424 I21428) n25071 x21438 I21442 A21442 L21442)) → GW κ 4 0 0 (wM r g I21442 A21442 L21442) 34 [(3, .int x21438), (2, .int (I 4)), (1, .int y21424), (0, .ref (r 0))] [] := by
        intro n25071
        induction n25071 with
        | zero =>
          intro x21438 I21442 A21442 L21442 hI21442 hA21442 hV21442 hL21442 h25065 h25066 h25067 h25068 h25069 m25072 m25072z hF
          exact absurd m25072z (Nat.lt_irrefl 0)
        | succ n25071 ih25074 =>
          intro x21438 I21442 A21442 L21442 hI21442 hA21442 hV21442 hL21442 h25065 h25066 h25067 h25068 h25069 m25072 m25072z hF
          have f25075 := IvM_f8 hV21442
          replace hF := FE.itr_iIAL hF
          refine g_iload_n hk dX12_tellQuery_34 rfl ?_
          refine g_aload_n hk dX12_tellQuery_35 rfl ?_
          refine gM_i17 (v := (I 17)) hk hin12 (List.mem_cons_of_mem _ (List.mem_append_left _ (List.mem_of_getElem? (i := 8) rfl))) dX12_tellQuery_36 ((hI21442 17 rfl).trans (hI21428 17 rfl)) ?_
          have f25076 := IvM_f17 hIv
          refine g_icmp_ge (tgt := 77) (a := x21438.toInt) (b := (I 17).toInt) hk dX12_tellQuery_39 (by decide) rfl rfl (fun c25077 => ?_) (fun c25077 => ?_)
          · skip
            replace hF := FE.pos hF c25077
            refine g_aload_n hk dX12_tellQuery_77 rfl ?_
            refine gM_r0_29 hk hin12 (List.mem_cons_of_mem _ (List.mem_append_left _ (List.mem_of_getElem? (i := 9) rfl))) dX12_tellQuery_78 ?_
            refine g_iload_n hk dX12_tellQuery_81 rfl ?_
            refine g_iconst (v := 0) hk dX12_tellQuery_82 (by decide) ?_
            have k25078 : (0 : Int32).toInt = 0 := rfl
            refine sM_11 (j := y21424.toNatClampNeg) hk (vp_in_iff.mpr ⟨by omega, by omega⟩) rfl dX12_tellQuery_83 ?_
            have hA25079 : ∀ j, 0 ≤ ((up3 A21442 11 (y21424.toNatClampNeg) 0) 11 j).toInt ∧ ((up3 A21442 11 (y21424.toNatClampNeg) 0) 11 j).toInt ≤ 16 := ai_st ((IvM_a11 hV21442)) ⟨by omega, by omega⟩
            have f25363 := IvM_f4 hIv
            have f25364 := IvM_f6 hIv
            have f25365 := IvM_f8 hIv
            have lp25369 : ∀ (n25370 : Nat) (I25084 : Nat → Int32) (A25084 : Nat → Nat → Int32) (L25084 : Nat → Nat → Int64), (Md [4, 6, 7, 8, 9, 11, 12, 13] I21442 I25084) → (Md [11, 12] (up3 A21442 11 (y21424.toNatClampNeg) 0) A25084) → (IvM I25084 A25084) → (L25084 = L21442) → ((I 4).toInt ≤ (I25084 4).toInt) → ((I 6).toInt ≤ (I25084 6).toInt) → ((I 8).toInt ≤ 9 * (I25084 8).toInt) → (401 - (I25084 4).toInt < (n25370 : Int)) → (0 < n25370) → (FE (fM12_tellQuery I A L) (itr_IAL dfM (bM12_tellQuery_84xx I A y21424) n25370 I25084 A25084 L25084)) → GW κ 4 0 0 (wM r g I25084 A25084 L25084) 84 [(3, .int x21438), (2, .int (I 4)), (1, .int y21424), (0, .ref (r 0))] [] := by
              intro n25370
              induction n25370 with
              | zero =>
                intro I25084 A25084 L25084 hI25084 hA25084 hV25084 hL25084 h25366 h25367 h25368 m25371 m25371z hF
                exact absurd m25371z (Nat.lt_irrefl 0)
              | succ n25370 ih25373 =>
                intro I25084 A25084 L25084 hI25084 hA25084 hV25084 hL25084 h25366 h25367 h25368 m25371 m25371z hF
                have f25374 := IvM_f4 hV25084
                have f25375 := IvM_f6 hV25084
                have f25376 := IvM_f8 hV25084
                replace hF := FE.itr_IAL hF
                refine g_aload_n hk dX12_tellQuery_84 rfl ?_
                refine g_callV (n := 0) hk (j130_X12_isReading l D zt r g I25084 A25084 L25084  hV25084) (SP.same _) (fun _ h => h) (gi_V (List.mem_cons_of_mem _ (List.mem_append_left _ (List.mem_of_getElem? (i := 10) rfl))) (List.mem_cons_of_mem _ (List.mem_append_left _ (List.mem_of_getElem? (i := 11) rfl))) (List.mem_cons_of_mem _ (List.mem_append_left _ (List.mem_of_getElem? (i := 12) rfl))) (List.mem_cons_of_mem _ (List.mem_append_left _ (List.mem_of_getElem? (i := 7) rfl))) (gi_sub (fun w h => (List.mem_cons_of_mem _ (List.mem_append_right _ (List.mem_append_right _ (List.mem_append_right _ (List.mem_append_left _ h)))))) zg_j130_X12_isReading)) rfl rfl rfl (by decide +kernel) ⟨Nat.le_of_ble_eq_true rfl, Nat.le_of_ble_eq_true rfl⟩ 0 rfl rfl rfl rfl (Nat.le_of_ble_eq_true rfl) ⟨Nat.le_of_ble_eq_true rfl, Nat.le_of_ble_eq_true rfl⟩ dX12_tellQuery_85 (fun v ty' w' hp hk' => ?_)
                rcases hp with ⟨hC, rfl, rfl⟩ | ⟨hC, rfl, rfl⟩
                · skip
                  replace hF := FE.pos hF hC
                  show GW κ 4 0 0 (wM r g I25084 A25084 L25084) 88 [(3, .int x21438), (2, .int (I 4)), (1, .int y21424), (0, .ref (r 0))] [.int 0]
                  refine g_if_eq (tgt := 166) (a := 0) hk dX12_tellQuery_88 (by decide) rfl (fun _ => ?_) (fun z9 => absurd (show (0 : Int) = (0 : Int) from by decide) z9)
                  refine g_aload_n hk dX12_tellQuery_166 rfl ?_
                  refine g_iconst (v := 4) hk dX12_tellQuery_167 (by decide) ?_
                  have k25379 : (4 : Int32).toInt = 4 := rfl
                  refine g_callV (n := 1) hk (j125_X12_is l D zt r g I25084 A25084 L25084 4 hV25084) (SP.same _) (fun _ h => h) (gi_V (List.mem_cons_of_mem _ (List.mem_append_left _ (List.mem_of_getElem? (i := 13) rfl))) (List.mem_cons_of_mem _ (List.mem_append_left _ (List.mem_of_getElem? (i := 14) rfl))) (List.mem_cons_of_mem _ (List.mem_append_left _ (List.mem_of_getElem? (i := 15) rfl))) (List.mem_cons_of_mem _ (List.mem_append_left _ (List.mem_of_getElem? (i := 7) rfl))) (gi_sub (fun w h => (List.mem_cons_of_mem _ (List.mem_append_right _ (List.mem_append_right _ (List.mem_append_right _ (List.mem_append_right _ (List.mem_append_left _ h))))))) zg_j125_X12_is)) rfl rfl rfl (by decide +kernel) ⟨Nat.le_of_ble_eq_true rfl, Nat.le_of_ble_eq_true rfl⟩ 0 rfl rfl rfl rfl (Nat.le_of_ble_eq_true rfl) ⟨Nat.le_of_ble_eq_true rfl, Nat.le_of_ble_eq_true rfl⟩ dX12_tellQuery_168 (fun v ty' w' hp hk' => ?_)
                  rcases hp with ⟨c25380, hC, rfl, rfl⟩ | ⟨c25382, hC, rfl, rfl⟩
                  · skip
                    replace hF := FE.pos hF hC
                    rw [show (A25084 2 (I25084 4).toNatClampNeg) = (A 2 (I25084 4).toNatClampNeg) from ((congrFun (hA25084 2 rfl) _).trans ((congrFun (hA21442 2 rfl) _).trans (congrFun (hA21428 2 rfl) _)))] at c25380
                    show GW κ 4 0 0 (wM r g I25084 A25084 L25084) 171 [(3, .int x21438), (2, .int (I 4)), (1, .int y21424), (0, .ref (r 0))] [.int 0]
                    refine g_if_eq (tgt := 194) (a := 0) hk dX12_tellQuery_171 (by decide) rfl (fun _ => ?_) (fun z9 => absurd (show (0 : Int) = (0 : Int) from by decide) z9)
                    refine g_aload_n hk dX12_tellQuery_194 rfl ?_
                    refine g_iconst (v := 4) hk dX12_tellQuery_195 (by decide) ?_
                    refine g_callV (n := 1) hk (j131_X12_must l D zt r g I25084 A25084 L25084 4 hV25084) (SP.same _) (fun _ h => h) (gi_V (List.mem_cons_of_mem _ (List.mem_append_left _ (List.mem_of_getElem? (i := 4) rfl))) (List.mem_cons_of_mem _ (List.mem_append_left _ (List.mem_of_getElem? (i := 5) rfl))) (List.mem_cons_of_mem _ (List.mem_append_left _ (List.mem_of_getElem? (i := 6) rfl))) (List.mem_cons_of_mem _ (List.mem_append_left _ (List.mem_of_getElem? (i := 7) rfl))) (gi_sub (fun w h => (List.mem_cons_of_mem _ (List.mem_append_right _ (List.mem_append_right _ (List.mem_append_left _ h))))) zg_j131_X12_must)) rfl rfl rfl (by decide +kernel) ⟨Nat.le_of_ble_eq_true rfl, Nat.le_of_ble_eq_true rfl⟩ 0 rfl rfl rfl rfl (Nat.le_of_ble_eq_true rfl) ⟨Nat.le_of_ble_eq_true rfl, Nat.le_of_ble_eq_true rfl⟩ dX12_tellQuery_196 (fun v ty' w' hp hk' => ?_)
                    obtain ⟨I25385, A25385, L25385, hI25385, hA25385, hV25385, r25386, r25387, r25388, r25389, r25390, hL25385, hC, rfl, rfl⟩ := hp
                    replace hF := FE.bdM hF hC
                    have f25391 := IvM_f4 hV25385
                    have f25392 := IvM_f6 hV25385
                    rw [show (I25385 8) = (I25084 8) from (hI25385 8 rfl)] at r25388
                    rw [show (A25084 2 (I25084 4).toNatClampNeg) = (A 2 (I25084 4).toNatClampNeg) from ((congrFun (hA25084 2 rfl) _).trans ((congrFun (hA21442 2 rfl) _).trans (congrFun (hA21428 2 rfl) _)))] at r25390
                    show GW κ 4 0 0 (wM r g I25385 A25385 L25385) 199 [(3, .int x21438), (2, .int (I 4)), (1, .int y21424), (0, .ref (r 0))] []
                    refine g_aload_n hk dX12_tellQuery_199 rfl ?_
                    refine gM_i6 (v := (I25385 6)) hk hin12 (List.mem_cons_of_mem _ (List.mem_append_left _ (List.mem_of_getElem? (i := 16) rfl))) dX12_tellQuery_200 rfl ?_
                    refine g_if_le (tgt := 207) (a := (I25385 6).toInt) hk dX12_tellQuery_203 (by decide) rfl (fun c25393 => ?_) (fun c25393 => ?_)
                    · skip
                      replace hF := FE.pos hF c25393
                      refine g_aload_n hk dX12_tellQuery_207 rfl ?_
                      refine g_bipush (v := (-2)) hk dX12_tellQuery_208 (by decide) ?_
                      refine pM_i11 hk hin12 (List.mem_cons_of_mem _ (List.mem_append_left _ (List.mem_of_getElem? (i := 0) rfl))) dX12_tellQuery_210 ?_
                      refine g_aload_n hk dX12_tellQuery_213 rfl ?_
                      refine gM_r0_25 hk hin12 (List.mem_cons_of_mem _ (List.mem_append_left _ (List.mem_of_getElem? (i := 17) rfl))) dX12_tellQuery_214 ?_
                      refine g_aload_n hk dX12_tellQuery_217 rfl ?_
                      refine gM_i17 (v := (I 17)) hk hin12 (List.mem_cons_of_mem _ (List.mem_append_left _ (List.mem_of_getElem? (i := 8) rfl))) dX12_tellQuery_218 ((hI25385 17 rfl).trans ((hI25084 17 rfl).trans ((hI21442 17 rfl).trans (hI21428 17 rfl)))) ?_
                      have g25394 : (I25385 16).toInt = (I 16).toInt := by rw [show (I25385 16) = (I 16) from ((hI25385 16 rfl).trans ((hI25084 16 rfl).trans ((hI21442 16 rfl).trans (hI21428 16 rfl))))]
                      have g25395 : (I25385 17).toInt = (I 17).toInt := by rw [show (I25385 17) = (I 17) from ((hI25385 17 rfl).trans ((hI25084 17 rfl).trans ((hI21442 17 rfl).trans (hI21428 17 rfl))))]
                      have g25396 : (A25385 10 0).toInt = (A 10 0).toInt := by rw [show (A25385 10 0) = (A 10 0) from ((congrFun (hA25385 10 rfl) _).trans ((congrFun (hA25084 10 rfl) _).trans ((congrFun (hA21442 10 rfl) _).trans (congrFun (hA21428 10 rfl) _))))]
                      have g25397 : (A25385 10 1).toInt = (A 10 1).toInt := by rw [show (A25385 10 1) = (A 10 1) from ((congrFun (hA25385 10 rfl) _).trans ((congrFun (hA25084 10 rfl) _).trans ((congrFun (hA21442 10 rfl) _).trans (congrFun (hA21428 10 rfl) _))))]
                      have g25398 := (IvM_nq (I := I25385) (A := A25385) hV25385).2 (by omega)
                      refine g_aload_n hk dX12_tellQuery_221 rfl ?_
                      refine gM_r0_8 hk hin12 (List.mem_cons_of_mem _ (List.mem_append_left _ (List.mem_of_getElem? (i := 18) rfl))) dX12_tellQuery_222 ?_
                      refine g_iload_n hk dX12_tellQuery_225 rfl ?_
                      refine lM_5 hk (vp_in_iff.mpr ⟨by omega, by omega⟩) rfl dX12_tellQuery_226 ?_
                      refine g_topl (fun y25399 ey25399 => ?_)
                      replace hF := FE.lt hF ey25399
                      refine sM_7 (j := (I 17).toNatClampNeg) hk (vp_in_iff.mpr ⟨by omega, by omega⟩) rfl dX12_tellQuery_227 ?_
                      refine g_aload_n hk dX12_tellQuery_228 rfl ?_
                      refine g_dup hk dX12_tellQuery_229 rfl ?_
                      refine gM_i17 (v := (I 17)) hk hin12 (List.mem_cons_of_mem _ (List.mem_append_left _ (List.mem_of_getElem? (i := 8) rfl))) dX12_tellQuery_230 ((hI25385 17 rfl).trans ((hI25084 17 rfl).trans ((hI21442 17 rfl).trans (hI21428 17 rfl)))) ?_
                      refine g_iconst (v := 1) hk dX12_tellQuery_233 (by decide) ?_
                      refine g_iadd hk dX12_tellQuery_234 ?_
                      refine g_topi (fun y25400 ey25400 => ?_)
                      replace hF := FE.lt hF ey25400
                      have hy25400 : y25400.toInt = (I 17).toInt + 1 := i32_add ey25400 rfl rfl (by omega) (by omega)
                      refine pM_i17 hk hin12 (List.mem_cons_of_mem _ (List.mem_append_left _ (List.mem_of_getElem? (i := 8) rfl))) dX12_tellQuery_235 ?_
                      refine g_aload_n hk dX12_tellQuery_238 rfl ?_
                      refine gM_r0_28 hk hin12 (List.mem_cons_of_mem _ (List.mem_append_left _ (List.mem_of_getElem? (i := 2) rfl))) dX12_tellQuery_239 ?_
                      refine g_aload_n hk dX12_tellQuery_242 rfl ?_
                      refine gM_i16 (v := (I 16)) hk hin12 (List.mem_cons_of_mem _ (List.mem_append_left _ (List.mem_of_getElem? (i := 1) rfl))) dX12_tellQuery_243 ((hI25385 16 rfl).trans ((hI25084 16 rfl).trans ((hI21442 16 rfl).trans (hI21428 16 rfl)))) ?_
                      by_cases c25401 : (I 16).toInt = 1
                      · have ec25401 : (I 16) = 1 := Int32.toInt_inj.mp c25401
                        replace hF := FE.pos hF c25401
                        rw [ec25401]
                        show GW κ 4 0 0 (wM r g (upd (upd I25385 11 (-2)) 17 y25400) A25385 (up3L L25385 7 ((I 17).toNatClampNeg) y25399)) 246 [(3, .int x21438), (2, .int (I 4)), (1, .int y21424), (0, .ref (r 0))] [.int 1, .ref (r 11)]
                        refine g_dup2 hk dX12_tellQuery_246 rfl rfl ?_
                        refine lM_10 (v := (A 10 1)) hk (vp_in_iff.mpr ⟨by decide, by decide⟩) ((congrFun (hA25385 10 rfl) _).trans ((congrFun (hA25084 10 rfl) _).trans ((congrFun (hA21442 10 rfl) _).trans (congrFun (hA21428 10 rfl) _)))) dX12_tellQuery_247 ?_
                        refine g_iconst (v := 1) hk dX12_tellQuery_248 (by decide) ?_
                        refine g_iadd hk dX12_tellQuery_249 ?_
                        refine g_topi (fun y25402 ey25402 => ?_)
                        replace hF := FE.lt hF ey25402
                        have hy25402 : y25402.toInt = (A 10 1).toInt + 1 := i32_add ey25402 rfl rfl (by omega) (by omega)
                        refine sM_10 (j := 1) hk (vp_in_iff.mpr ⟨by decide, by decide⟩) (by decide) dX12_tellQuery_250 ?_
                        have f25403 := IvM_s10_0 hV25385
                        have f25404 := IvM_s10_1 hV25385
                        have g25405 : (I25385 15).toInt = (I 15).toInt := by rw [show (I25385 15) = (I 15) from ((hI25385 15 rfl).trans ((hI25084 15 rfl).trans ((hI21442 15 rfl).trans (hI21428 15 rfl))))]
                        have g25406 := IvM_s10_0 (I := I25385) (A := A25385) hV25385
                        have g25407 := IvM_s10_1 (I := I25385) (A := A25385) hV25385
                        have g25408 : (I25385 8).toInt = (I25084 8).toInt := by rw [show (I25385 8) = (I25084 8) from (hI25385 8 rfl)]
                        have q25409 := cl_int (y := y21424) (by omega)
                        have g25410 : (A25385 11 y21424.toNatClampNeg).toInt = (A25084 11 y21424.toNatClampNeg).toInt := by rw [show (A25385 11 y21424.toNatClampNeg) = (A25084 11 y21424.toNatClampNeg) from (congrFun (hA25385 11 rfl) _)]
                        have u25411 : (I25084 6).toInt ≠ 0 ∨ (A 2 (I25084 4).toNatClampNeg).toInt ≠ (4 : Int32).toInt := c25380
                        have u25412 : 0 < (I25385 6).toInt ∨ ((I25084 6).toInt = 0 ∧ (A 2 (I25084 4).toNatClampNeg).toInt = (4 : Int32).toInt) := r25390
                        exact g_vret hk hR ⟨(upd (upd I25385 11 (-2)) 17 y25400), (up3 A25385 10 1 y25402), (up3L L25385 7 ((I 17).toNatClampNeg) y25399), (show Md [4, 6, 7, 8, 9, 11, 12, 13, 17] I (upd (upd I25385 11 (-2)) 17 y25400) from (Md.up (Md.up (Md.tr (Md.tr (Md.tr (Md.tr (Md.up Md.rf rfl) hI21428 rfl) hI21442 rfl) hI25084 rfl) hI25385 rfl) rfl) rfl)), (show Md [10, 11, 12] A (up3 A25385 10 1 y25402) from (Md.up3 (Md.tr (Md.tr (Md.up3 (Md.tr (Md.tr Md.rf hA21428 rfl) hA21442 rfl) rfl) hA25084 rfl) hA25385 rfl) rfl)), ⟨(IvM_f1 (I := I25385) (A := A25385) hV25385), (IvM_f2 (I := I25385) (A := A25385) hV25385), (IvM_f3 (I := I25385) (A := A25385) hV25385), (IvM_f4 (I := I25385) (A := A25385) hV25385), (IvM_f6 (I := I25385) (A := A25385) hV25385), (IvM_f8 (I := I25385) (A := A25385) hV25385), (IvM_f15 (I := I25385) (A := A25385) hV25385), (IvM_f16 (I := I25385) (A := A25385) hV25385), (show 0 ≤ y25400.toInt ∧ y25400.toInt ≤ 5 from ⟨by omega, by omega⟩), (IvM_f18 (I := I25385) (A := A25385) hV25385), (IvM_f22 (I := I25385) (A := A25385) hV25385), (IvM_f23 (I := I25385) (A := A25385) hV25385), (IvM_f24 (I := I25385) (A := A25385) hV25385), (IvM_a11 (I := I25385) (A := A25385) hV25385), (IvM_a26 (I := I25385) (A := A25385) hV25385), (IvM_s8_0 (I := I25385) (A := A25385) hV25385), (IvM_s8_1 (I := I25385) (A := A25385) hV25385), (show 0 ≤ ((up3 A25385 10 1 y25402) 10 0).toInt ∧ ((up3 A25385 10 1 y25402) 10 0).toInt ≤ 5 from by rw [show (up3 A25385 10 1 y25402) 10 0 = (A25385 10 0) from rfl]; exact (IvM_s10_0 (I := I25385) (A := A25385) hV25385)), (show 0 ≤ ((up3 A25385 10 1 y25402) 10 1).toInt ∧ ((up3 A25385 10 1 y25402) 10 1).toInt ≤ 5 from by rw [show (up3 A25385 10 1 y25402) 10 1 = y25402 from rfl]; exact ⟨by omega, by omega⟩), (IvM_s17_0 (I := I25385) (A := A25385) hV25385), (IvM_s17_164 (I := I25385) (A := A25385) hV25385), ⟨fun e => by have e : (I25385 15).toInt = 0 := e; first | exact (IvM_lv (I := I25385) (A := A25385) hV25385).1 e | (exfalso; omega), fun e => by have e : (I25385 15).toInt = 1 := e; first | exact (IvM_lv (I := I25385) (A := A25385) hV25385).2 e | (exfalso; omega)⟩, (by first | (exfalso; omega) | (by_cases g8 : (I25385 8).toInt ≠ 0; exact Or.inr (Or.inl g8); rcases (IvM_sd (I := I25385) (A := A25385) hV25385) with h9 | h9 | h9; exact absurd h9 (by omega); exact absurd h9 g8; exact Or.inr (Or.inr ⟨fun e => by have e : (I25385 16).toInt = 0 := e; first | exact ghf_add (n := (A25385 10 0)) (f := (A25385 11)) (n2 := y25402) (p := y21424.toNatClampNeg) (h9.1 e) (by omega) (by omega) (by omega) | (exfalso; omega), fun e => by have e : (I25385 16).toInt = 1 := e; first | exact ghf_add (n := (A25385 10 1)) (f := (A25385 11)) (n2 := y25402) (p := y21424.toNatClampNeg) (h9.2 e) (by omega) (by omega) (by omega) | (exfalso; omega)⟩))), ⟨fun e => by have e : (I25385 16).toInt = 0 := e; first | (exfalso; omega) | (show y25400.toInt = (A25385 10 0).toInt; omega), fun e => by have e : (I25385 16).toInt = 1 := e; first | (exfalso; omega) | (show y25400.toInt = y25402.toInt; omega)⟩, (IvM_hr (I := I25385) (A := A25385) hV25385), (IvM_hh (I := I25385) (A := A25385) hV25385), trivial⟩, (by rw [show ((upd (upd I25385 11 (-2)) 17 y25400) 4) = (I25385 4) from rfl] <;> omega), (by rw [show ((upd (upd I25385 11 (-2)) 17 y25400) 6) = (I25385 6) from rfl] <;> omega), (by rw [show ((upd (upd I25385 11 (-2)) 17 y25400) 8) = (I25084 8) from (hI25385 8 rfl)] <;> omega), hF, rfl, rfl⟩ dX12_tellQuery_251
                      replace hF := FE.neg hF c25401
                      exfalso; omega
                    · skip
                      replace hF := FE.neg hF c25393
                      exact g_vret hk hR ⟨I25385, A25385, L25385, (show Md [4, 6, 7, 8, 9, 11, 12, 13, 17] I I25385 from (Md.tr (Md.tr (Md.tr (Md.tr (Md.up Md.rf rfl) hI21428 rfl) hI21442 rfl) hI25084 rfl) hI25385 rfl)), (show Md [10, 11, 12] A A25385 from (Md.tr (Md.tr (Md.up3 (Md.tr (Md.tr Md.rf hA21428 rfl) hA21442 rfl) rfl) hA25084 rfl) hA25385 rfl)), hV25385, (by omega), (by omega), (by rw [show (I25385 8) = (I25084 8) from (hI25385 8 rfl)] <;> omega), hF, rfl, rfl⟩ dX12_tellQuery_206
                  · skip
                    replace hF := FE.neg hF (fe_ne hC (by decide))
                    rw [show (A25084 2 (I25084 4).toNatClampNeg) = (A 2 (I25084 4).toNatClampNeg) from ((congrFun (hA25084 2 rfl) _).trans ((congrFun (hA21442 2 rfl) _).trans (congrFun (hA21428 2 rfl) _)))] at c25382
                    show GW κ 4 0 0 (wM r g I25084 A25084 L25084) 171 [(3, .int x21438), (2, .int (I 4)), (1, .int y21424), (0, .ref (r 0))] [.int 1]
                    refine g_if_eq (tgt := 194) (a := 1) hk dX12_tellQuery_171 (by decide) rfl (fun z9 => absurd z9 (show ¬ ((1 : Int) = (0 : Int)) from by decide)) (fun _ => ?_)
                    refine g_aload_n hk dX12_tellQuery_174 rfl ?_
                    refine gM_r0_29 hk hin12 (List.mem_cons_of_mem _ (List.mem_append_left _ (List.mem_of_getElem? (i := 9) rfl))) dX12_tellQuery_175 ?_
                    refine g_iload_n hk dX12_tellQuery_178 rfl ?_
                    refine lM_11 (v := (A25084 11 y21424.toNatClampNeg)) hk (vp_in_iff.mpr ⟨by omega, by omega⟩) rfl dX12_tellQuery_179 ?_
                    have f25413 := IvM_a11 hV25084 (y21424.toNatClampNeg)
                    refine g_iconst (v := 2) hk dX12_tellQuery_180 (by decide) ?_
                    refine g_icmp_ge (tgt := 194) (a := (A25084 11 y21424.toNatClampNeg).toInt) (b := 2) hk dX12_tellQuery_181 (by decide) rfl rfl (fun c25414 => ?_) (fun c25414 => ?_)
                    · skip
                      replace hF := FE.pos hF c25414
                      refine g_aload_n hk dX12_tellQuery_194 rfl ?_
                      refine g_iconst (v := 4) hk dX12_tellQuery_195 (by decide) ?_
                      refine g_callV (n := 1) hk (j131_X12_must l D zt r g I25084 A25084 L25084 4 hV25084) (SP.same _) (fun _ h => h) (gi_V (List.mem_cons_of_mem _ (List.mem_append_left _ (List.mem_of_getElem? (i := 4) rfl))) (List.mem_cons_of_mem _ (List.mem_append_left _ (List.mem_of_getElem? (i := 5) rfl))) (List.mem_cons_of_mem _ (List.mem_append_left _ (List.mem_of_getElem? (i := 6) rfl))) (List.mem_cons_of_mem _ (List.mem_append_left _ (List.mem_of_getElem? (i := 7) rfl))) (gi_sub (fun w h => (List.mem_cons_of_mem _ (List.mem_append_right _ (List.mem_append_right _ (List.mem_append_left _ h))))) zg_j131_X12_must)) rfl rfl rfl (by decide +kernel) ⟨Nat.le_of_ble_eq_true rfl, Nat.le_of_ble_eq_true rfl⟩ 0 rfl rfl rfl rfl (Nat.le_of_ble_eq_true rfl) ⟨Nat.le_of_ble_eq_true rfl, Nat.le_of_ble_eq_true rfl⟩ dX12_tellQuery_196 (fun v ty' w' hp hk' => ?_)
                      obtain ⟨I25416, A25416, L25416, hI25416, hA25416, hV25416, r25417, r25418, r25419, r25420, r25421, hL25416, hC, rfl, rfl⟩ := hp
                      replace hF := FE.bdM hF hC
                      have f25422 := IvM_f4 hV25416
                      have f25423 := IvM_f6 hV25416
                      rw [show (I25416 8) = (I25084 8) from (hI25416 8 rfl)] at r25419
                      rw [show (A25084 2 (I25084 4).toNatClampNeg) = (A 2 (I25084 4).toNatClampNeg) from ((congrFun (hA25084 2 rfl) _).trans ((congrFun (hA21442 2 rfl) _).trans (congrFun (hA21428 2 rfl) _)))] at r25421
                      show GW κ 4 0 0 (wM r g I25416 A25416 L25416) 199 [(3, .int x21438), (2, .int (I 4)), (1, .int y21424), (0, .ref (r 0))] []
                      refine g_aload_n hk dX12_tellQuery_199 rfl ?_
                      refine gM_i6 (v := (I25416 6)) hk hin12 (List.mem_cons_of_mem _ (List.mem_append_left _ (List.mem_of_getElem? (i := 16) rfl))) dX12_tellQuery_200 rfl ?_
                      refine g_if_le (tgt := 207) (a := (I25416 6).toInt) hk dX12_tellQuery_203 (by decide) rfl (fun c25424 => ?_) (fun c25424 => ?_)
                      · skip
                        replace hF := FE.pos hF c25424
                        refine g_aload_n hk dX12_tellQuery_207 rfl ?_
                        refine g_bipush (v := (-2)) hk dX12_tellQuery_208 (by decide) ?_
                        refine pM_i11 hk hin12 (List.mem_cons_of_mem _ (List.mem_append_left _ (List.mem_of_getElem? (i := 0) rfl))) dX12_tellQuery_210 ?_
                        refine g_aload_n hk dX12_tellQuery_213 rfl ?_
                        refine gM_r0_25 hk hin12 (List.mem_cons_of_mem _ (List.mem_append_left _ (List.mem_of_getElem? (i := 17) rfl))) dX12_tellQuery_214 ?_
                        refine g_aload_n hk dX12_tellQuery_217 rfl ?_
                        refine gM_i17 (v := (I 17)) hk hin12 (List.mem_cons_of_mem _ (List.mem_append_left _ (List.mem_of_getElem? (i := 8) rfl))) dX12_tellQuery_218 ((hI25416 17 rfl).trans ((hI25084 17 rfl).trans ((hI21442 17 rfl).trans (hI21428 17 rfl)))) ?_
                        have g25425 : (I25416 16).toInt = (I 16).toInt := by rw [show (I25416 16) = (I 16) from ((hI25416 16 rfl).trans ((hI25084 16 rfl).trans ((hI21442 16 rfl).trans (hI21428 16 rfl))))]
                        have g25426 : (I25416 17).toInt = (I 17).toInt := by rw [show (I25416 17) = (I 17) from ((hI25416 17 rfl).trans ((hI25084 17 rfl).trans ((hI21442 17 rfl).trans (hI21428 17 rfl))))]
                        have g25427 : (A25416 10 0).toInt = (A 10 0).toInt := by rw [show (A25416 10 0) = (A 10 0) from ((congrFun (hA25416 10 rfl) _).trans ((congrFun (hA25084 10 rfl) _).trans ((congrFun (hA21442 10 rfl) _).trans (congrFun (hA21428 10 rfl) _))))]
                        have g25428 : (A25416 10 1).toInt = (A 10 1).toInt := by rw [show (A25416 10 1) = (A 10 1) from ((congrFun (hA25416 10 rfl) _).trans ((congrFun (hA25084 10 rfl) _).trans ((congrFun (hA21442 10 rfl) _).trans (congrFun (hA21428 10 rfl) _))))]
                        have g25429 := (IvM_nq (I := I25416) (A := A25416) hV25416).2 (by omega)
                        refine g_aload_n hk dX12_tellQuery_221 rfl ?_
                        refine gM_r0_8 hk hin12 (List.mem_cons_of_mem _ (List.mem_append_left _ (List.mem_of_getElem? (i := 18) rfl))) dX12_tellQuery_222 ?_
                        refine g_iload_n hk dX12_tellQuery_225 rfl ?_
                        refine lM_5 hk (vp_in_iff.mpr ⟨by omega, by omega⟩) rfl dX12_tellQuery_226 ?_
                        refine g_topl (fun y25430 ey25430 => ?_)
                        replace hF := FE.lt hF ey25430
                        refine sM_7 (j := (I 17).toNatClampNeg) hk (vp_in_iff.mpr ⟨by omega, by omega⟩) rfl dX12_tellQuery_227 ?_
                        refine g_aload_n hk dX12_tellQuery_228 rfl ?_
                        refine g_dup hk dX12_tellQuery_229 rfl ?_
                        refine gM_i17 (v := (I 17)) hk hin12 (List.mem_cons_of_mem _ (List.mem_append_left _ (List.mem_of_getElem? (i := 8) rfl))) dX12_tellQuery_230 ((hI25416 17 rfl).trans ((hI25084 17 rfl).trans ((hI21442 17 rfl).trans (hI21428 17 rfl)))) ?_
                        refine g_iconst (v := 1) hk dX12_tellQuery_233 (by decide) ?_
                        refine g_iadd hk dX12_tellQuery_234 ?_
                        refine g_topi (fun y25431 ey25431 => ?_)
                        replace hF := FE.lt hF ey25431
                        have hy25431 : y25431.toInt = (I 17).toInt + 1 := i32_add ey25431 rfl rfl (by omega) (by omega)
                        refine pM_i17 hk hin12 (List.mem_cons_of_mem _ (List.mem_append_left _ (List.mem_of_getElem? (i := 8) rfl))) dX12_tellQuery_235 ?_
                        refine g_aload_n hk dX12_tellQuery_238 rfl ?_
                        refine gM_r0_28 hk hin12 (List.mem_cons_of_mem _ (List.mem_append_left _ (List.mem_of_getElem? (i := 2) rfl))) dX12_tellQuery_239 ?_
                        refine g_aload_n hk dX12_tellQuery_242 rfl ?_
                        refine gM_i16 (v := (I 16)) hk hin12 (List.mem_cons_of_mem _ (List.mem_append_left _ (List.mem_of_getElem? (i := 1) rfl))) dX12_tellQuery_243 ((hI25416 16 rfl).trans ((hI25084 16 rfl).trans ((hI21442 16 rfl).trans (hI21428 16 rfl)))) ?_
                        by_cases c25432 : (I 16).toInt = 1
                        · have ec25432 : (I 16) = 1 := Int32.toInt_inj.mp c25432
                          replace hF := FE.pos hF c25432
                          rw [ec25432]
                          show GW κ 4 0 0 (wM r g (upd (upd I25416 11 (-2)) 17 y25431) A25416 (up3L L25416 7 ((I 17).toNatClampNeg) y25430)) 246 [(3, .int x21438), (2, .int (I 4)), (1, .int y21424), (0, .ref (r 0))] [.int 1, .ref (r 11)]
                          refine g_dup2 hk dX12_tellQuery_246 rfl rfl ?_
                          refine lM_10 (v := (A 10 1)) hk (vp_in_iff.mpr ⟨by decide, by decide⟩) ((congrFun (hA25416 10 rfl) _).trans ((congrFun (hA25084 10 rfl) _).trans ((congrFun (hA21442 10 rfl) _).trans (congrFun (hA21428 10 rfl) _)))) dX12_tellQuery_247 ?_
                          refine g_iconst (v := 1) hk dX12_tellQuery_248 (by decide) ?_
                          refine g_iadd hk dX12_tellQuery_249 ?_
                          refine g_topi (fun y25433 ey25433 => ?_)
                          replace hF := FE.lt hF ey25433
                          have hy25433 : y25433.toInt = (A 10 1).toInt + 1 := i32_add ey25433 rfl rfl (by omega) (by omega)
                          refine sM_10 (j := 1) hk (vp_in_iff.mpr ⟨by decide, by decide⟩) (by decide) dX12_tellQuery_250 ?_
                          have f25434 := IvM_s10_0 hV25416
                          have f25435 := IvM_s10_1 hV25416
                          have g25436 : (I25416 15).toInt = (I 15).toInt := by rw [show (I25416 15) = (I 15) from ((hI25416 15 rfl).trans ((hI25084 15 rfl).trans ((hI21442 15 rfl).trans (hI21428 15 rfl))))]
                          have g25437 := IvM_s10_0 (I := I25416) (A := A25416) hV25416
                          have g25438 := IvM_s10_1 (I := I25416) (A := A25416) hV25416
                          have g25439 : (I25416 8).toInt = (I25084 8).toInt := by rw [show (I25416 8) = (I25084 8) from (hI25416 8 rfl)]
                          have q25440 := cl_int (y := y21424) (by omega)
                          have g25441 : (A25416 11 y21424.toNatClampNeg).toInt = (A25084 11 y21424.toNatClampNeg).toInt := by rw [show (A25416 11 y21424.toNatClampNeg) = (A25084 11 y21424.toNatClampNeg) from (congrFun (hA25416 11 rfl) _)]
                          have u25442 : 0 < (I21428 6).toInt ∨ ((I 6).toInt = 0 ∧ (A 2 (I 4).toNatClampNeg).toInt = (1 : Int32).toInt) := r21433
                          have u25443 : 0 < (I25416 6).toInt ∨ ((I25084 6).toInt = 0 ∧ (A 2 (I25084 4).toNatClampNeg).toInt = (4 : Int32).toInt) := r25421
                          exact g_vret hk hR ⟨(upd (upd I25416 11 (-2)) 17 y25431), (up3 A25416 10 1 y25433), (up3L L25416 7 ((I 17).toNatClampNeg) y25430), (show Md [4, 6, 7, 8, 9, 11, 12, 13, 17] I (upd (upd I25416 11 (-2)) 17 y25431) from (Md.up (Md.up (Md.tr (Md.tr (Md.tr (Md.tr (Md.up Md.rf rfl) hI21428 rfl) hI21442 rfl) hI25084 rfl) hI25416 rfl) rfl) rfl)), (show Md [10, 11, 12] A (up3 A25416 10 1 y25433) from (Md.up3 (Md.tr (Md.tr (Md.up3 (Md.tr (Md.tr Md.rf hA21428 rfl) hA21442 rfl) rfl) hA25084 rfl) hA25416 rfl) rfl)), ⟨(IvM_f1 (I := I25416) (A := A25416) hV25416), (IvM_f2 (I := I25416) (A := A25416) hV25416), (IvM_f3 (I := I25416) (A := A25416) hV25416), (IvM_f4 (I := I25416) (A := A25416) hV25416), (IvM_f6 (I := I25416) (A := A25416) hV25416), (IvM_f8 (I := I25416) (A := A25416) hV25416), (IvM_f15 (I := I25416) (A := A25416) hV25416), (IvM_f16 (I := I25416) (A := A25416) hV25416), (show 0 ≤ y25431.toInt ∧ y25431.toInt ≤ 5 from ⟨by omega, by omega⟩), (IvM_f18 (I := I25416) (A := A25416) hV25416), (IvM_f22 (I := I25416) (A := A25416) hV25416), (IvM_f23 (I := I25416) (A := A25416) hV25416), (IvM_f24 (I := I25416) (A := A25416) hV25416), (IvM_a11 (I := I25416) (A := A25416) hV25416), (IvM_a26 (I := I25416) (A := A25416) hV25416), (IvM_s8_0 (I := I25416) (A := A25416) hV25416), (IvM_s8_1 (I := I25416) (A := A25416) hV25416), (show 0 ≤ ((up3 A25416 10 1 y25433) 10 0).toInt ∧ ((up3 A25416 10 1 y25433) 10 0).toInt ≤ 5 from by rw [show (up3 A25416 10 1 y25433) 10 0 = (A25416 10 0) from rfl]; exact (IvM_s10_0 (I := I25416) (A := A25416) hV25416)), (show 0 ≤ ((up3 A25416 10 1 y25433) 10 1).toInt ∧ ((up3 A25416 10 1 y25433) 10 1).toInt ≤ 5 from by rw [show (up3 A25416 10 1 y25433) 10 1 = y25433 from rfl]; exact ⟨by omega, by omega⟩), (IvM_s17_0 (I := I25416) (A := A25416) hV25416), (IvM_s17_164 (I := I25416) (A := A25416) hV25416), ⟨fun e => by have e : (I25416 15).toInt = 0 := e; first | exact (IvM_lv (I := I25416) (A := A25416) hV25416).1 e | (exfalso; omega), fun e => by have e : (I25416 15).toInt = 1 := e; first | exact (IvM_lv (I := I25416) (A := A25416) hV25416).2 e | (exfalso; omega)⟩, (by first | (exfalso; omega) | (by_cases g8 : (I25416 8).toInt ≠ 0; exact Or.inr (Or.inl g8); rcases (IvM_sd (I := I25416) (A := A25416) hV25416) with h9 | h9 | h9; exact absurd h9 (by omega); exact absurd h9 g8; exact Or.inr (Or.inr ⟨fun e => by have e : (I25416 16).toInt = 0 := e; first | exact ghf_add (n := (A25416 10 0)) (f := (A25416 11)) (n2 := y25433) (p := y21424.toNatClampNeg) (h9.1 e) (by omega) (by omega) (by omega) | (exfalso; omega), fun e => by have e : (I25416 16).toInt = 1 := e; first | exact ghf_add (n := (A25416 10 1)) (f := (A25416 11)) (n2 := y25433) (p := y21424.toNatClampNeg) (h9.2 e) (by omega) (by omega) (by omega) | (exfalso; omega)⟩))), ⟨fun e => by have e : (I25416 16).toInt = 0 := e; first | (exfalso; omega) | (show y25431.toInt = (A25416 10 0).toInt; omega), fun e => by have e : (I25416 16).toInt = 1 := e; first | (exfalso; omega) | (show y25431.toInt = y25433.toInt; omega)⟩, (IvM_hr (I := I25416) (A := A25416) hV25416), (IvM_hh (I := I25416) (A := A25416) hV25416), trivial⟩, (by rw [show ((upd (upd I25416 11 (-2)) 17 y25431) 4) = (I25416 4) from rfl] <;> omega), (by rw [show ((upd (upd I25416 11 (-2)) 17 y25431) 6) = (I25416 6) from rfl] <;> omega), (by rw [show ((upd (upd I25416 11 (-2)) 17 y25431) 8) = (I25084 8) from (hI25416 8 rfl)] <;> omega), hF, rfl, rfl⟩ dX12_tellQuery_251
                        replace hF := FE.neg hF c25432
                        exfalso; omega
                      · skip
                        replace hF := FE.neg hF c25424
                        exact g_vret hk hR ⟨I25416, A25416, L25416, (show Md [4, 6, 7, 8, 9, 11, 12, 13, 17] I I25416 from (Md.tr (Md.tr (Md.tr (Md.tr (Md.up Md.rf rfl) hI21428 rfl) hI21442 rfl) hI25084 rfl) hI25416 rfl)), (show Md [10, 11, 12] A A25416 from (Md.tr (Md.tr (Md.up3 (Md.tr (Md.tr Md.rf hA21428 rfl) hA21442 rfl) rfl) hA25084 rfl) hA25416 rfl)), hV25416, (by omega), (by omega), (by rw [show (I25416 8) = (I25084 8) from (hI25416 8 rfl)] <;> omega), hF, rfl, rfl⟩ dX12_tellQuery_206
                    · skip
                      replace hF := FE.neg hF c25414
                      refine g_aload_n hk dX12_tellQuery_184 rfl ?_
                      refine g_bipush (v := 6) hk dX12_tellQuery_185 (by decide) ?_
                      refine g_aload_n hk dX12_tellQuery_187 rfl ?_
                      refine gM_i4 (v := (I25084 4)) hk hin12 (List.mem_cons_of_mem _ (List.mem_append_left _ (List.mem_of_getElem? (i := 3) rfl))) dX12_tellQuery_188 rfl ?_
                      have k25444 : (6 : Int32).toInt = 6 := rfl
                      refine g_callV (n := 2) hk (j134_X12_wrong l D zt r g I25084 A25084 L25084 6 (I25084 4) hV25084 (by decide) (by decide) (by omega) (by omega)) (SP.same _) (fun _ h => h) (gi_V (List.mem_cons_of_mem _ (List.mem_append_left _ (List.mem_of_getElem? (i := 19) rfl))) (List.mem_cons_of_mem _ (List.mem_append_left _ (List.mem_of_getElem? (i := 20) rfl))) (List.mem_cons_of_mem _ (List.mem_append_left _ (List.mem_of_getElem? (i := 21) rfl))) (List.mem_cons_of_mem _ (List.mem_append_left _ (List.mem_of_getElem? (i := 7) rfl))) (gi_sub (fun w h => (List.mem_cons_of_mem _ (List.mem_append_right _ (List.mem_append_right _ (List.mem_append_right _ (List.mem_append_right _ (List.mem_append_right _ (List.mem_append_left _ h)))))))) zg_j134_X12_wrong)) rfl rfl rfl (by decide +kernel) ⟨Nat.le_of_ble_eq_true rfl, Nat.le_of_ble_eq_true rfl⟩ 0 rfl rfl rfl rfl (Nat.le_of_ble_eq_true rfl) ⟨Nat.le_of_ble_eq_true rfl, Nat.le_of_ble_eq_true rfl⟩ dX12_tellQuery_191 (fun v ty' w' hp hk' => ?_)
                      obtain ⟨I25446, A25446, L25446, hI25446, hA25446, hV25446, r25447, r25448, r25449, hL25446, hC, rfl, rfl⟩ := hp
                      replace hF := FE.bdM hF hC
                      rw [show (I25446 6) = (I25084 6) from (hI25446 6 rfl)] at r25447
                      have f25450 := IvM_f8 hV25446
                      rw [show (I25446 6) = (I25084 6) from (hI25446 6 rfl)] at r25449
                      show GW κ 4 0 0 (wM r g I25446 A25446 L25446) 194 [(3, .int x21438), (2, .int (I 4)), (1, .int y21424), (0, .ref (r 0))] []
                      refine g_aload_n hk dX12_tellQuery_194 rfl ?_
                      refine g_iconst (v := 4) hk dX12_tellQuery_195 (by decide) ?_
                      refine g_callV (n := 1) hk (j131_X12_must l D zt r g I25446 A25446 L25446 4 hV25446) (SP.same _) (fun _ h => h) (gi_V (List.mem_cons_of_mem _ (List.mem_append_left _ (List.mem_of_getElem? (i := 4) rfl))) (List.mem_cons_of_mem _ (List.mem_append_left _ (List.mem_of_getElem? (i := 5) rfl))) (List.mem_cons_of_mem _ (List.mem_append_left _ (List.mem_of_getElem? (i := 6) rfl))) (List.mem_cons_of_mem _ (List.mem_append_left _ (List.mem_of_getElem? (i := 7) rfl))) (gi_sub (fun w h => (List.mem_cons_of_mem _ (List.mem_append_right _ (List.mem_append_right _ (List.mem_append_left _ h))))) zg_j131_X12_must)) rfl rfl rfl (by decide +kernel) ⟨Nat.le_of_ble_eq_true rfl, Nat.le_of_ble_eq_true rfl⟩ 0 rfl rfl rfl rfl (Nat.le_of_ble_eq_true rfl) ⟨Nat.le_of_ble_eq_true rfl, Nat.le_of_ble_eq_true rfl⟩ dX12_tellQuery_196 (fun v ty' w' hp hk' => ?_)
                      obtain ⟨I25452, A25452, L25452, hI25452, hA25452, hV25452, r25453, r25454, r25455, r25456, r25457, hL25452, hC, rfl, rfl⟩ := hp
                      replace hF := FE.bdM hF hC
                      have f25458 := IvM_f4 hV25452
                      rw [show (I25446 4) = (I25084 4) from (hI25446 4 rfl)] at r25453
                      have f25459 := IvM_f6 hV25452
                      rw [show (I25446 6) = (I25084 6) from (hI25446 6 rfl)] at r25454
                      rw [show (I25452 8) = (I25446 8) from (hI25452 8 rfl)] at r25455
                      rw [show (I25446 4) = (I25084 4) from (hI25446 4 rfl)] at r25456
                      rw [show (I25446 6) = (I25084 6) from (hI25446 6 rfl), show (A25446 2 (I25446 4).toNatClampNeg) = (A 2 (I25084 4).toNatClampNeg) from (by rw [show I25446 4 = (I25084 4) from (hI25446 4 rfl)]; exact ((congrFun (hA25446 2 rfl) _).trans ((congrFun (hA25084 2 rfl) _).trans ((congrFun (hA21442 2 rfl) _).trans (congrFun (hA21428 2 rfl) _)))))] at r25457
                      show GW κ 4 0 0 (wM r g I25452 A25452 L25452) 199 [(3, .int x21438), (2, .int (I 4)), (1, .int y21424), (0, .ref (r 0))] []
                      refine g_aload_n hk dX12_tellQuery_199 rfl ?_
                      refine gM_i6 (v := (I25452 6)) hk hin12 (List.mem_cons_of_mem _ (List.mem_append_left _ (List.mem_of_getElem? (i := 16) rfl))) dX12_tellQuery_200 rfl ?_
                      refine g_if_le (tgt := 207) (a := (I25452 6).toInt) hk dX12_tellQuery_203 (by decide) rfl (fun c25460 => ?_) (fun c25460 => ?_)
                      · skip
                        replace hF := FE.pos hF c25460
                        refine g_aload_n hk dX12_tellQuery_207 rfl ?_
                        refine g_bipush (v := (-2)) hk dX12_tellQuery_208 (by decide) ?_
                        refine pM_i11 hk hin12 (List.mem_cons_of_mem _ (List.mem_append_left _ (List.mem_of_getElem? (i := 0) rfl))) dX12_tellQuery_210 ?_
                        refine g_aload_n hk dX12_tellQuery_213 rfl ?_
                        refine gM_r0_25 hk hin12 (List.mem_cons_of_mem _ (List.mem_append_left _ (List.mem_of_getElem? (i := 17) rfl))) dX12_tellQuery_214 ?_
                        refine g_aload_n hk dX12_tellQuery_217 rfl ?_
                        refine gM_i17 (v := (I 17)) hk hin12 (List.mem_cons_of_mem _ (List.mem_append_left _ (List.mem_of_getElem? (i := 8) rfl))) dX12_tellQuery_218 ((hI25452 17 rfl).trans ((hI25446 17 rfl).trans ((hI25084 17 rfl).trans ((hI21442 17 rfl).trans (hI21428 17 rfl))))) ?_
                        have g25461 : (I25452 16).toInt = (I 16).toInt := by rw [show (I25452 16) = (I 16) from ((hI25452 16 rfl).trans ((hI25446 16 rfl).trans ((hI25084 16 rfl).trans ((hI21442 16 rfl).trans (hI21428 16 rfl)))))]
                        have g25462 : (I25452 17).toInt = (I 17).toInt := by rw [show (I25452 17) = (I 17) from ((hI25452 17 rfl).trans ((hI25446 17 rfl).trans ((hI25084 17 rfl).trans ((hI21442 17 rfl).trans (hI21428 17 rfl)))))]
                        have g25463 : (A25452 10 0).toInt = (A 10 0).toInt := by rw [show (A25452 10 0) = (A 10 0) from ((congrFun (hA25452 10 rfl) _).trans ((congrFun (hA25446 10 rfl) _).trans ((congrFun (hA25084 10 rfl) _).trans ((congrFun (hA21442 10 rfl) _).trans (congrFun (hA21428 10 rfl) _)))))]
                        have g25464 : (A25452 10 1).toInt = (A 10 1).toInt := by rw [show (A25452 10 1) = (A 10 1) from ((congrFun (hA25452 10 rfl) _).trans ((congrFun (hA25446 10 rfl) _).trans ((congrFun (hA25084 10 rfl) _).trans ((congrFun (hA21442 10 rfl) _).trans (congrFun (hA21428 10 rfl) _)))))]
                        have g25465 := (IvM_nq (I := I25452) (A := A25452) hV25452).2 (by omega)
                        refine g_aload_n hk dX12_tellQuery_221 rfl ?_
                        refine gM_r0_8 hk hin12 (List.mem_cons_of_mem _ (List.mem_append_left _ (List.mem_of_getElem? (i := 18) rfl))) dX12_tellQuery_222 ?_
                        refine g_iload_n hk dX12_tellQuery_225 rfl ?_
                        refine lM_5 hk (vp_in_iff.mpr ⟨by omega, by omega⟩) rfl dX12_tellQuery_226 ?_
                        refine g_topl (fun y25466 ey25466 => ?_)
                        replace hF := FE.lt hF ey25466
                        refine sM_7 (j := (I 17).toNatClampNeg) hk (vp_in_iff.mpr ⟨by omega, by omega⟩) rfl dX12_tellQuery_227 ?_
                        refine g_aload_n hk dX12_tellQuery_228 rfl ?_
                        refine g_dup hk dX12_tellQuery_229 rfl ?_
                        refine gM_i17 (v := (I 17)) hk hin12 (List.mem_cons_of_mem _ (List.mem_append_left _ (List.mem_of_getElem? (i := 8) rfl))) dX12_tellQuery_230 ((hI25452 17 rfl).trans ((hI25446 17 rfl).trans ((hI25084 17 rfl).trans ((hI21442 17 rfl).trans (hI21428 17 rfl))))) ?_
                        refine g_iconst (v := 1) hk dX12_tellQuery_233 (by decide) ?_
                        refine g_iadd hk dX12_tellQuery_234 ?_
                        refine g_topi (fun y25467 ey25467 => ?_)
                        replace hF := FE.lt hF ey25467
                        have hy25467 : y25467.toInt = (I 17).toInt + 1 := i32_add ey25467 rfl rfl (by omega) (by omega)
                        refine pM_i17 hk hin12 (List.mem_cons_of_mem _ (List.mem_append_left _ (List.mem_of_getElem? (i := 8) rfl))) dX12_tellQuery_235 ?_
                        refine g_aload_n hk dX12_tellQuery_238 rfl ?_
                        refine gM_r0_28 hk hin12 (List.mem_cons_of_mem _ (List.mem_append_left _ (List.mem_of_getElem? (i := 2) rfl))) dX12_tellQuery_239 ?_
                        refine g_aload_n hk dX12_tellQuery_242 rfl ?_
                        refine gM_i16 (v := (I 16)) hk hin12 (List.mem_cons_of_mem _ (List.mem_append_left _ (List.mem_of_getElem? (i := 1) rfl))) dX12_tellQuery_243 ((hI25452 16 rfl).trans ((hI25446 16 rfl).trans ((hI25084 16 rfl).trans ((hI21442 16 rfl).trans (hI21428 16 rfl))))) ?_
                        by_cases c25468 : (I 16).toInt = 1
                        · have ec25468 : (I 16) = 1 := Int32.toInt_inj.mp c25468
                          replace hF := FE.pos hF c25468
                          rw [ec25468]
                          show GW κ 4 0 0 (wM r g (upd (upd I25452 11 (-2)) 17 y25467) A25452 (up3L L25452 7 ((I 17).toNatClampNeg) y25466)) 246 [(3, .int x21438), (2, .int (I 4)), (1, .int y21424), (0, .ref (r 0))] [.int 1, .ref (r 11)]
                          refine g_dup2 hk dX12_tellQuery_246 rfl rfl ?_
                          refine lM_10 (v := (A 10 1)) hk (vp_in_iff.mpr ⟨by decide, by decide⟩) ((congrFun (hA25452 10 rfl) _).trans ((congrFun (hA25446 10 rfl) _).trans ((congrFun (hA25084 10 rfl) _).trans ((congrFun (hA21442 10 rfl) _).trans (congrFun (hA21428 10 rfl) _))))) dX12_tellQuery_247 ?_
                          refine g_iconst (v := 1) hk dX12_tellQuery_248 (by decide) ?_
                          refine g_iadd hk dX12_tellQuery_249 ?_
                          refine g_topi (fun y25469 ey25469 => ?_)
                          replace hF := FE.lt hF ey25469
                          have hy25469 : y25469.toInt = (A 10 1).toInt + 1 := i32_add ey25469 rfl rfl (by omega) (by omega)
                          refine sM_10 (j := 1) hk (vp_in_iff.mpr ⟨by decide, by decide⟩) (by decide) dX12_tellQuery_250 ?_
                          have f25470 := IvM_s10_0 hV25452
                          have f25471 := IvM_s10_1 hV25452
                          have g25472 : (I25452 15).toInt = (I 15).toInt := by rw [show (I25452 15) = (I 15) from ((hI25452 15 rfl).trans ((hI25446 15 rfl).trans ((hI25084 15 rfl).trans ((hI21442 15 rfl).trans (hI21428 15 rfl)))))]
                          have g25473 := IvM_s10_0 (I := I25452) (A := A25452) hV25452
                          have g25474 := IvM_s10_1 (I := I25452) (A := A25452) hV25452
                          have g25475 : (I25452 8).toInt = (I25446 8).toInt := by rw [show (I25452 8) = (I25446 8) from (hI25452 8 rfl)]
                          have q25476 := cl_int (y := y21424) (by omega)
                          have g25477 : (A25452 11 y21424.toNatClampNeg).toInt = (A25084 11 y21424.toNatClampNeg).toInt := by rw [show (A25452 11 y21424.toNatClampNeg) = (A25084 11 y21424.toNatClampNeg) from ((congrFun (hA25452 11 rfl) _).trans (congrFun (hA25446 11 rfl) _))]
                          have u25478 : 0 < (I21428 6).toInt ∨ ((I 6).toInt = 0 ∧ (A 2 (I 4).toNatClampNeg).toInt = (1 : Int32).toInt) := r21433
                          have u25479 : 0 < (I25452 6).toInt ∨ ((I25084 6).toInt = 0 ∧ (A 2 (I25084 4).toNatClampNeg).toInt = (4 : Int32).toInt) := r25457
                          exact g_vret hk hR ⟨(upd (upd I25452 11 (-2)) 17 y25467), (up3 A25452 10 1 y25469), (up3L L25452 7 ((I 17).toNatClampNeg) y25466), (show Md [4, 6, 7, 8, 9, 11, 12, 13, 17] I (upd (upd I25452 11 (-2)) 17 y25467) from (Md.up (Md.up (Md.tr (Md.tr (Md.tr (Md.tr (Md.tr (Md.up Md.rf rfl) hI21428 rfl) hI21442 rfl) hI25084 rfl) hI25446 rfl) hI25452 rfl) rfl) rfl)), (show Md [10, 11, 12] A (up3 A25452 10 1 y25469) from (Md.up3 (Md.tr (Md.tr (Md.tr (Md.up3 (Md.tr (Md.tr Md.rf hA21428 rfl) hA21442 rfl) rfl) hA25084 rfl) hA25446 rfl) hA25452 rfl) rfl)), ⟨(IvM_f1 (I := I25452) (A := A25452) hV25452), (IvM_f2 (I := I25452) (A := A25452) hV25452), (IvM_f3 (I := I25452) (A := A25452) hV25452), (IvM_f4 (I := I25452) (A := A25452) hV25452), (IvM_f6 (I := I25452) (A := A25452) hV25452), (IvM_f8 (I := I25452) (A := A25452) hV25452), (IvM_f15 (I := I25452) (A := A25452) hV25452), (IvM_f16 (I := I25452) (A := A25452) hV25452), (show 0 ≤ y25467.toInt ∧ y25467.toInt ≤ 5 from ⟨by omega, by omega⟩), (IvM_f18 (I := I25452) (A := A25452) hV25452), (IvM_f22 (I := I25452) (A := A25452) hV25452), (IvM_f23 (I := I25452) (A := A25452) hV25452), (IvM_f24 (I := I25452) (A := A25452) hV25452), (IvM_a11 (I := I25452) (A := A25452) hV25452), (IvM_a26 (I := I25452) (A := A25452) hV25452), (IvM_s8_0 (I := I25452) (A := A25452) hV25452), (IvM_s8_1 (I := I25452) (A := A25452) hV25452), (show 0 ≤ ((up3 A25452 10 1 y25469) 10 0).toInt ∧ ((up3 A25452 10 1 y25469) 10 0).toInt ≤ 5 from by rw [show (up3 A25452 10 1 y25469) 10 0 = (A25452 10 0) from rfl]; exact (IvM_s10_0 (I := I25452) (A := A25452) hV25452)), (show 0 ≤ ((up3 A25452 10 1 y25469) 10 1).toInt ∧ ((up3 A25452 10 1 y25469) 10 1).toInt ≤ 5 from by rw [show (up3 A25452 10 1 y25469) 10 1 = y25469 from rfl]; exact ⟨by omega, by omega⟩), (IvM_s17_0 (I := I25452) (A := A25452) hV25452), (IvM_s17_164 (I := I25452) (A := A25452) hV25452), ⟨fun e => by have e : (I25452 15).toInt = 0 := e; first | exact (IvM_lv (I := I25452) (A := A25452) hV25452).1 e | (exfalso; omega), fun e => by have e : (I25452 15).toInt = 1 := e; first | exact (IvM_lv (I := I25452) (A := A25452) hV25452).2 e | (exfalso; omega)⟩, (by first | (exfalso; omega) | (by_cases g8 : (I25452 8).toInt ≠ 0; exact Or.inr (Or.inl g8); rcases (IvM_sd (I := I25452) (A := A25452) hV25452) with h9 | h9 | h9; exact absurd h9 (by omega); exact absurd h9 g8; exact Or.inr (Or.inr ⟨fun e => by have e : (I25452 16).toInt = 0 := e; first | exact ghf_add (n := (A25452 10 0)) (f := (A25452 11)) (n2 := y25469) (p := y21424.toNatClampNeg) (h9.1 e) (by omega) (by omega) (by omega) | (exfalso; omega), fun e => by have e : (I25452 16).toInt = 1 := e; first | exact ghf_add (n := (A25452 10 1)) (f := (A25452 11)) (n2 := y25469) (p := y21424.toNatClampNeg) (h9.2 e) (by omega) (by omega) (by omega) | (exfalso; omega)⟩))), ⟨fun e => by have e : (I25452 16).toInt = 0 := e; first | (exfalso; omega) | (show y25467.toInt = (A25452 10 0).toInt; omega), fun e => by have e : (I25452 16).toInt = 1 := e; first | (exfalso; omega) | (show y25467.toInt = y25469.toInt; omega)⟩, (IvM_hr (I := I25452) (A := A25452) hV25452), (IvM_hh (I := I25452) (A := A25452) hV25452), trivial⟩, (by rw [show ((upd (upd I25452 11 (-2)) 17 y25467) 4) = (I25452 4) from rfl] <;> omega), (by rw [show ((upd (upd I25452 11 (-2)) 17 y25467) 6) = (I25452 6) from rfl] <;> omega), (by rw [show ((upd (upd I25452 11 (-2)) 17 y25467) 8) = (I25446 8) from (hI25452 8 rfl)] <;> omega), hF, rfl, rfl⟩ dX12_tellQuery_251
                        replace hF := FE.neg hF c25468
                        exfalso; omega
                      · skip
                        replace hF := FE.neg hF c25460
                        exact g_vret hk hR ⟨I25452, A25452, L25452, (show Md [4, 6, 7, 8, 9, 11, 12, 13, 17] I I25452 from (Md.tr (Md.tr (Md.tr (Md.tr (Md.tr (Md.up Md.rf rfl) hI21428 rfl) hI21442 rfl) hI25084 rfl) hI25446 rfl) hI25452 rfl)), (show Md [10, 11, 12] A A25452 from (Md.tr (Md.tr (Md.tr (Md.up3 (Md.tr (Md.tr Md.rf hA21428 rfl) hA21442 rfl) rfl) hA25084 rfl) hA25446 rfl) hA25452 rfl)), hV25452, (by omega), (by omega), (by rw [show (I25452 8) = (I25446 8) from (hI25452 8 rfl)] <;> omega), hF, rfl, rfl⟩ dX12_tellQuery_206
                · skip
                  replace hF := FE.neg hF (fe_ne hC (by decide))
                  show GW κ 4 0 0 (wM r g I25084 A25084 L25084) 88 [(3, .int x21438), (2, .int (I 4)), (1, .int y21424), (0, .ref (r 0))] [.int 1]
                  refine g_if_eq (tgt := 166) (a := 1) hk dX12_tellQuery_88 (by decide) rfl (fun z9 => absurd z9 (show ¬ ((1 : Int) = (0 : Int)) from by decide)) (fun _ => ?_)
                  refine g_aload_n hk dX12_tellQuery_91 rfl ?_
                  refine gM_r0_29 hk hin12 (List.mem_cons_of_mem _ (List.mem_append_left _ (List.mem_of_getElem? (i := 9) rfl))) dX12_tellQuery_92 ?_
                  refine g_iload_n hk dX12_tellQuery_95 rfl ?_
                  refine lM_11 (v := (A25084 11 y21424.toNatClampNeg)) hk (vp_in_iff.mpr ⟨by omega, by omega⟩) rfl dX12_tellQuery_96 ?_
                  have f25480 := IvM_a11 hV25084 (y21424.toNatClampNeg)
                  refine g_bipush (v := 16) hk dX12_tellQuery_97 (by decide) ?_
                  refine g_icmp_ne (tgt := 107) (a := (A25084 11 y21424.toNatClampNeg).toInt) (b := 16) hk dX12_tellQuery_99 (by decide) rfl rfl (fun c25481 => ?_) (fun c25481 => ?_)
                  · skip
                    replace hF := FE.pos hF c25481
                    refine g_aload_n hk dX12_tellQuery_107 rfl ?_
                    refine gM_i6 (v := (I25084 6)) hk hin12 (List.mem_cons_of_mem _ (List.mem_append_left _ (List.mem_of_getElem? (i := 16) rfl))) dX12_tellQuery_108 rfl ?_
                    refine g_if_le (tgt := 115) (a := (I25084 6).toInt) hk dX12_tellQuery_111 (by decide) rfl (fun c25482 => ?_) (fun c25482 => ?_)
                    · skip
                      replace hF := FE.pos hF c25482
                      refine g_aload_n hk dX12_tellQuery_115 rfl ?_
                      refine gM_r0_30 hk hin12 (List.mem_cons_of_mem _ (List.mem_append_left _ (List.mem_of_getElem? (i := 22) rfl))) dX12_tellQuery_116 ?_
                      refine g_bipush (v := 16) hk dX12_tellQuery_119 (by decide) ?_
                      refine g_iload_n hk dX12_tellQuery_121 rfl ?_
                      refine g_imul hk dX12_tellQuery_122 ?_
                      refine g_topi (fun y25483 ey25483 => ?_)
                      replace hF := FE.lt hF ey25483
                      have hy25483 : y25483.toInt = 16 * y21424.toInt := i32_mul ey25483 rfl rfl (by omega) (by omega)
                      refine g_aload_n hk dX12_tellQuery_123 rfl ?_
                      refine gM_r0_29 hk hin12 (List.mem_cons_of_mem _ (List.mem_append_left _ (List.mem_of_getElem? (i := 9) rfl))) dX12_tellQuery_124 ?_
                      refine g_iload_n hk dX12_tellQuery_127 rfl ?_
                      refine lM_11 (v := (A25084 11 y21424.toNatClampNeg)) hk (vp_in_iff.mpr ⟨by omega, by omega⟩) rfl dX12_tellQuery_128 ?_
                      refine g_iadd hk dX12_tellQuery_129 ?_
                      refine g_topi (fun y25484 ey25484 => ?_)
                      replace hF := FE.lt hF ey25484
                      have hy25484 : y25484.toInt = y25483.toInt + (A25084 11 y21424.toNatClampNeg).toInt := i32_add ey25484 rfl rfl (by omega) (by omega)
                      refine g_aload_n hk dX12_tellQuery_130 rfl ?_
                      refine g_callV (n := 0) hk (j132_X12_readingTold l D zt r g I25084 A25084 L25084  hV25084) (SP.same _) (fun _ h => h) (gi_V (List.mem_cons_of_mem _ (List.mem_append_left _ (List.mem_of_getElem? (i := 23) rfl))) (List.mem_cons_of_mem _ (List.mem_append_left _ (List.mem_of_getElem? (i := 24) rfl))) (List.mem_cons_of_mem _ (List.mem_append_left _ (List.mem_of_getElem? (i := 25) rfl))) (List.mem_cons_of_mem _ (List.mem_append_left _ (List.mem_of_getElem? (i := 7) rfl))) (gi_sub (fun w h => (List.mem_cons_of_mem _ (List.mem_append_right _ (List.mem_append_right _ (List.mem_append_right _ (List.mem_append_right _ (List.mem_append_right _ (List.mem_append_right _ (List.mem_append_left _ h))))))))) zg_j132_X12_readingTold)) rfl rfl rfl (by decide +kernel) ⟨Nat.le_of_ble_eq_true rfl, Nat.le_of_ble_eq_true rfl⟩ 0 rfl rfl rfl rfl (Nat.le_of_ble_eq_true rfl) ⟨Nat.le_of_ble_eq_true rfl, Nat.le_of_ble_eq_true rfl⟩ dX12_tellQuery_131 (fun v ty' w' hp hk' => ?_)
                      obtain ⟨I25486, A25486, L25486, hI25486, hA25486, hV25486, y25485, r25487, r25488, r25489, r25490, hL25486, hC, rfl, rfl⟩ := hp
                      replace hF := FE.bdM hF hC
                      have f25491 := IvM_f4 hV25486
                      have f25492 := IvM_f6 hV25486
                      have f25493 := IvM_f8 hV25486
                      show GW κ 4 0 0 (wM r g I25486 A25486 L25486) 134 [(3, .int x21438), (2, .int (I 4)), (1, .int y21424), (0, .ref (r 0))] [.int y25485, .int y25484, .ref (r 13)]
                      refine sM_12 (j := y25484.toNatClampNeg) hk (vp_in_iff.mpr ⟨by omega, by omega⟩) rfl dX12_tellQuery_134 ?_
                      refine g_aload_n hk dX12_tellQuery_135 rfl ?_
                      refine gM_i6 (v := (I25486 6)) hk hin12 (List.mem_cons_of_mem _ (List.mem_append_left _ (List.mem_of_getElem? (i := 16) rfl))) dX12_tellQuery_136 rfl ?_
                      refine g_if_le (tgt := 143) (a := (I25486 6).toInt) hk dX12_tellQuery_139 (by decide) rfl (fun c25494 => ?_) (fun c25494 => ?_)
                      · skip
                        replace hF := FE.pos hF c25494
                        refine g_aload_n hk dX12_tellQuery_143 rfl ?_
                        refine gM_r0_29 hk hin12 (List.mem_cons_of_mem _ (List.mem_append_left _ (List.mem_of_getElem? (i := 9) rfl))) dX12_tellQuery_144 ?_
                        refine g_iload_n hk dX12_tellQuery_147 rfl ?_
                        refine g_dup2 hk dX12_tellQuery_148 rfl rfl ?_
                        refine lM_11 (v := (A25084 11 y21424.toNatClampNeg)) hk (vp_in_iff.mpr ⟨by omega, by omega⟩) (congrFun (hA25486 11 rfl) _) dX12_tellQuery_149 ?_
                        refine g_iconst (v := 1) hk dX12_tellQuery_150 (by decide) ?_
                        refine g_iadd hk dX12_tellQuery_151 ?_
                        refine g_topi (fun y25495 ey25495 => ?_)
                        replace hF := FE.lt hF ey25495
                        have hy25495 : y25495.toInt = (A25084 11 y21424.toNatClampNeg).toInt + 1 := i32_add ey25495 rfl rfl (by omega) (by omega)
                        refine sM_11 (j := y21424.toNatClampNeg) hk (vp_in_iff.mpr ⟨by omega, by omega⟩) rfl dX12_tellQuery_152 ?_
                        have hA25496 : ∀ j, 0 ≤ ((up3 (up3 A25486 12 (y25484.toNatClampNeg) y25485) 11 (y21424.toNatClampNeg) y25495) 11 j).toInt ∧ ((up3 (up3 A25486 12 (y25484.toNatClampNeg) y25485) 11 (y21424.toNatClampNeg) y25495) 11 j).toInt ≤ 16 := ai_st ((IvM_a11 hV25486)) ⟨by omega, by omega⟩
                        refine g_aload_n hk dX12_tellQuery_153 rfl ?_
                        refine g_dup hk dX12_tellQuery_154 rfl ?_
                        refine gM_i11 (v := (I25084 11)) hk hin12 (List.mem_cons_of_mem _ (List.mem_append_left _ (List.mem_of_getElem? (i := 0) rfl))) dX12_tellQuery_155 (hI25486 11 rfl) ?_
                        refine g_iconst (v := 1) hk dX12_tellQuery_158 (by decide) ?_
                        have b25497l := Int32.le_toInt (I25084 11)
                        have b25497h := Int32.toInt_lt (I25084 11)
                        refine g_iadd hk dX12_tellQuery_159 ?_
                        refine g_topi (fun y25498 ey25498 => ?_)
                        replace hF := FE.lt hF ey25498
                        refine pM_i11 hk hin12 (List.mem_cons_of_mem _ (List.mem_append_left _ (List.mem_of_getElem? (i := 0) rfl))) dX12_tellQuery_160 ?_
                        refine g_goto (tgt := 84) hk dX12_tellQuery_163 (by decide) ?_
                        have g25499 : (I25486 15).toInt = (I 15).toInt := by rw [show (I25486 15) = (I 15) from ((hI25486 15 rfl).trans ((hI25084 15 rfl).trans ((hI21442 15 rfl).trans (hI21428 15 rfl))))]
                        have g25500 : (I25486 16).toInt = (I 16).toInt := by rw [show (I25486 16) = (I 16) from ((hI25486 16 rfl).trans ((hI25084 16 rfl).trans ((hI21442 16 rfl).trans (hI21428 16 rfl))))]
                        have g25501 := IvM_s10_0 (I := I25486) (A := A25486) hV25486
                        have g25502 := IvM_s10_1 (I := I25486) (A := A25486) hV25486
                        have q25503 := cl_int (y := y21424) (by omega)
                        have g25504 : (A25486 10 0).toInt = (A 10 0).toInt := by rw [show (A25486 10 0) = (A 10 0) from ((congrFun (hA25486 10 rfl) _).trans ((congrFun (hA25084 10 rfl) _).trans ((congrFun (hA21442 10 rfl) _).trans (congrFun (hA21428 10 rfl) _))))]
                        have g25505 : (A25486 10 1).toInt = (A 10 1).toInt := by rw [show (A25486 10 1) = (A 10 1) from ((congrFun (hA25486 10 rfl) _).trans ((congrFun (hA25084 10 rfl) _).trans ((congrFun (hA21442 10 rfl) _).trans (congrFun (hA21428 10 rfl) _))))]
                        have q25506 := cl_int (y := y21424) (by omega)
                        exact g_lv (List.forall_mem_cons.mpr ⟨List.mem_of_getElem? (i := 0) rfl, (List.forall_mem_cons.mpr ⟨List.mem_of_getElem? (i := 1) rfl, (List.forall_mem_cons.mpr ⟨List.mem_of_getElem? (i := 2) rfl, (List.forall_mem_cons.mpr ⟨List.mem_of_getElem? (i := 3) rfl, (fun _ h => absurd h List.not_mem_nil)⟩)⟩)⟩)⟩) (ih25373 (upd I25486 11 y25498) (up3 (up3 A25486 12 (y25484.toNatClampNeg) y25485) 11 (y21424.toNatClampNeg) y25495) L25486 (show Md [4, 6, 7, 8, 9, 11, 12, 13] I21442 (upd I25486 11 y25498) from Md.tr hI25084 (show Md [4, 6, 7, 8, 9, 11, 12, 13] I25084 (upd I25486 11 y25498) from (Md.up (Md.tr Md.rf hI25486 rfl) rfl)) rfl) (show Md [11, 12] (up3 A21442 11 (y21424.toNatClampNeg) 0) (up3 (up3 A25486 12 (y25484.toNatClampNeg) y25485) 11 (y21424.toNatClampNeg) y25495) from Md.tr hA25084 (show Md [11, 12] A25084 (up3 (up3 A25486 12 (y25484.toNatClampNeg) y25485) 11 (y21424.toNatClampNeg) y25495) from (Md.up3 (Md.up3 (Md.tr Md.rf hA25486 rfl) rfl) rfl)) rfl) ⟨(IvM_f1 (I := I25486) (A := A25486) hV25486), (IvM_f2 (I := I25486) (A := A25486) hV25486), (IvM_f3 (I := I25486) (A := A25486) hV25486), (IvM_f4 (I := I25486) (A := A25486) hV25486), (IvM_f6 (I := I25486) (A := A25486) hV25486), (IvM_f8 (I := I25486) (A := A25486) hV25486), (IvM_f15 (I := I25486) (A := A25486) hV25486), (IvM_f16 (I := I25486) (A := A25486) hV25486), (IvM_f17 (I := I25486) (A := A25486) hV25486), (IvM_f18 (I := I25486) (A := A25486) hV25486), (IvM_f22 (I := I25486) (A := A25486) hV25486), (IvM_f23 (I := I25486) (A := A25486) hV25486), (IvM_f24 (I := I25486) (A := A25486) hV25486), hA25496, (IvM_a26 (I := I25486) (A := A25486) hV25486), (IvM_s8_0 (I := I25486) (A := A25486) hV25486), (IvM_s8_1 (I := I25486) (A := A25486) hV25486), (IvM_s10_0 (I := I25486) (A := A25486) hV25486), (IvM_s10_1 (I := I25486) (A := A25486) hV25486), (IvM_s17_0 (I := I25486) (A := A25486) hV25486), (IvM_s17_164 (I := I25486) (A := A25486) hV25486), ⟨fun e => by have e : (I25486 15).toInt = 0 := e; first | exact ghf_upd (n := (A25486 10 0)) ((IvM_lv (I := I25486) (A := A25486) hV25486).1 e) (fun q hq => by omega) | (exfalso; omega), fun e => by have e : (I25486 15).toInt = 1 := e; first | exact ghf_upd (n := (A25486 10 1)) ((IvM_lv (I := I25486) (A := A25486) hV25486).2 e) (fun q hq => by omega) | (exfalso; omega)⟩, (by rcases (IvM_sd (I := I25486) (A := A25486) hV25486) with h9 | h9 | h9; exact Or.inl h9; exact Or.inr (Or.inl h9); exact Or.inr (Or.inr ⟨fun e => by have e : (I25486 16).toInt = 0 := e; first | exact ghf_upd (n := (A25486 10 0)) (h9.1 e) (fun q hq => by omega) | (exfalso; omega), fun e => by have e : (I25486 16).toInt = 1 := e; first | exact ghf_upd (n := (A25486 10 1)) (h9.2 e) (fun q hq => by omega) | (exfalso; omega)⟩)), (IvM_nq (I := I25486) (A := A25486) hV25486), (IvM_hr (I := I25486) (A := A25486) hV25486), (IvM_hh (I := I25486) (A := A25486) hV25486), trivial⟩ (show L25486 = L21442 from (hL25486.trans hL25084)) (by first | (rw [show ((upd I25486 11 y25498) 4) = (I25486 4) from rfl] <;> omega) | omega) (by first | (rw [show ((upd I25486 11 y25498) 6) = (I25486 6) from rfl] <;> omega) | omega) (by first | (rw [show ((upd I25486 11 y25498) 8) = (I25486 8) from rfl] <;> omega) | omega) (by first | (rw [show ((upd I25486 11 y25498) 4) = (I25486 4) from rfl] <;> omega) | omega) (by omega) hF)
                      · skip
                        replace hF := FE.neg hF c25494
                        exact g_vret hk hR ⟨I25486, (up3 A25486 12 (y25484.toNatClampNeg) y25485), L25486, (show Md [4, 6, 7, 8, 9, 11, 12, 13, 17] I I25486 from (Md.tr (Md.tr (Md.tr (Md.tr (Md.up Md.rf rfl) hI21428 rfl) hI21442 rfl) hI25084 rfl) hI25486 rfl)), (show Md [10, 11, 12] A (up3 A25486 12 (y25484.toNatClampNeg) y25485) from (Md.up3 (Md.tr (Md.tr (Md.up3 (Md.tr (Md.tr Md.rf hA21428 rfl) hA21442 rfl) rfl) hA25084 rfl) hA25486 rfl) rfl)), ⟨(IvM_f1 (I := I25486) (A := A25486) hV25486), (IvM_f2 (I := I25486) (A := A25486) hV25486), (IvM_f3 (I := I25486) (A := A25486) hV25486), (IvM_f4 (I := I25486) (A := A25486) hV25486), (IvM_f6 (I := I25486) (A := A25486) hV25486), (IvM_f8 (I := I25486) (A := A25486) hV25486), (IvM_f15 (I := I25486) (A := A25486) hV25486), (IvM_f16 (I := I25486) (A := A25486) hV25486), (IvM_f17 (I := I25486) (A := A25486) hV25486), (IvM_f18 (I := I25486) (A := A25486) hV25486), (IvM_f22 (I := I25486) (A := A25486) hV25486), (IvM_f23 (I := I25486) (A := A25486) hV25486), (IvM_f24 (I := I25486) (A := A25486) hV25486), (IvM_a11 (I := I25486) (A := A25486) hV25486), (IvM_a26 (I := I25486) (A := A25486) hV25486), (IvM_s8_0 (I := I25486) (A := A25486) hV25486), (IvM_s8_1 (I := I25486) (A := A25486) hV25486), (IvM_s10_0 (I := I25486) (A := A25486) hV25486), (IvM_s10_1 (I := I25486) (A := A25486) hV25486), (IvM_s17_0 (I := I25486) (A := A25486) hV25486), (IvM_s17_164 (I := I25486) (A := A25486) hV25486), (IvM_lv (I := I25486) (A := A25486) hV25486), (IvM_sd (I := I25486) (A := A25486) hV25486), (IvM_nq (I := I25486) (A := A25486) hV25486), (IvM_hr (I := I25486) (A := A25486) hV25486), (IvM_hh (I := I25486) (A := A25486) hV25486), trivial⟩, (by omega), (by omega), (by omega), hF, rfl, rfl⟩ dX12_tellQuery_142
                    · skip
                      replace hF := FE.neg hF c25482
                      exact g_vret hk hR ⟨I25084, A25084, L25084, (show Md [4, 6, 7, 8, 9, 11, 12, 13, 17] I I25084 from (Md.tr (Md.tr (Md.tr (Md.up Md.rf rfl) hI21428 rfl) hI21442 rfl) hI25084 rfl)), (show Md [10, 11, 12] A A25084 from (Md.tr (Md.up3 (Md.tr (Md.tr Md.rf hA21428 rfl) hA21442 rfl) rfl) hA25084 rfl)), hV25084, (by omega), (by omega), (by omega), hF, rfl, rfl⟩ dX12_tellQuery_114
                  · skip
                    replace hF := FE.neg hF c25481
                    refine g_aload_n hk dX12_tellQuery_102 rfl ?_
                    refine g_iconst (v := 2) hk dX12_tellQuery_103 (by decide) ?_
                    have k25507 : (2 : Int32).toInt = 2 := rfl
                    refine g_callV (n := 1) hk (j128_X12_fail l D zt r g I25084 A25084 L25084 2 hV25084 (by decide) (by decide)) (SP.same _) (fun _ h => h) (gi_V (List.mem_cons_of_mem _ (List.mem_append_left _ (List.mem_of_getElem? (i := 26) rfl))) (List.mem_cons_of_mem _ (List.mem_append_left _ (List.mem_of_getElem? (i := 27) rfl))) (List.mem_cons_of_mem _ (List.mem_append_left _ (List.mem_of_getElem? (i := 28) rfl))) (List.mem_cons_of_mem _ (List.mem_append_left _ (List.mem_of_getElem? (i := 7) rfl))) (gi_sub (fun w h => (List.mem_cons_of_mem _ (List.mem_append_right _ (List.mem_append_right _ (List.mem_append_right _ (List.mem_append_right _ (List.mem_append_right _ (List.mem_append_right _ (List.mem_append_right _ (List.mem_append_left _ h)))))))))) zg_j128_X12_fail)) rfl rfl rfl (by decide +kernel) ⟨Nat.le_of_ble_eq_true rfl, Nat.le_of_ble_eq_true rfl⟩ 0 rfl rfl rfl rfl (Nat.le_of_ble_eq_true rfl) ⟨Nat.le_of_ble_eq_true rfl, Nat.le_of_ble_eq_true rfl⟩ dX12_tellQuery_104 (fun v ty' w' hp hk' => ?_)
                    obtain ⟨I25509, A25509, L25509, hI25509, hA25509, hV25509, r25510, r25511, r25512, hL25509, hC, rfl, rfl⟩ := hp
                    replace hF := FE.bdM hF hC
                    have f25513 := IvM_f6 hV25509
                    rw [show (I25509 8) = (I25084 8) from (hI25509 8 rfl)] at r25511
                    show GW κ 4 0 0 (wM r g I25509 A25509 L25509) 107 [(3, .int x21438), (2, .int (I 4)), (1, .int y21424), (0, .ref (r 0))] []
                    refine g_aload_n hk dX12_tellQuery_107 rfl ?_
                    refine gM_i6 (v := (I25509 6)) hk hin12 (List.mem_cons_of_mem _ (List.mem_append_left _ (List.mem_of_getElem? (i := 16) rfl))) dX12_tellQuery_108 rfl ?_
                    refine g_if_le (tgt := 115) (a := (I25509 6).toInt) hk dX12_tellQuery_111 (by decide) rfl (fun c25514 => ?_) (fun c25514 => ?_)
                    · skip
                      replace hF := FE.pos hF c25514
                      refine g_aload_n hk dX12_tellQuery_115 rfl ?_
                      refine gM_r0_30 hk hin12 (List.mem_cons_of_mem _ (List.mem_append_left _ (List.mem_of_getElem? (i := 22) rfl))) dX12_tellQuery_116 ?_
                      refine g_bipush (v := 16) hk dX12_tellQuery_119 (by decide) ?_
                      refine g_iload_n hk dX12_tellQuery_121 rfl ?_
                      refine g_imul hk dX12_tellQuery_122 ?_
                      refine g_topi (fun y25515 ey25515 => ?_)
                      replace hF := FE.lt hF ey25515
                      have hy25515 : y25515.toInt = 16 * y21424.toInt := i32_mul ey25515 rfl rfl (by omega) (by omega)
                      refine g_aload_n hk dX12_tellQuery_123 rfl ?_
                      refine gM_r0_29 hk hin12 (List.mem_cons_of_mem _ (List.mem_append_left _ (List.mem_of_getElem? (i := 9) rfl))) dX12_tellQuery_124 ?_
                      refine g_iload_n hk dX12_tellQuery_127 rfl ?_
                      refine lM_11 (v := (A25084 11 y21424.toNatClampNeg)) hk (vp_in_iff.mpr ⟨by omega, by omega⟩) (congrFun (hA25509 11 rfl) _) dX12_tellQuery_128 ?_
                      refine g_iadd hk dX12_tellQuery_129 ?_
                      refine g_topi (fun y25516 ey25516 => ?_)
                      replace hF := FE.lt hF ey25516
                      have hy25516 : y25516.toInt = y25515.toInt + (A25084 11 y21424.toNatClampNeg).toInt := i32_add ey25516 rfl rfl (by omega) (by omega)
                      refine g_aload_n hk dX12_tellQuery_130 rfl ?_
                      refine g_callV (n := 0) hk (j132_X12_readingTold l D zt r g I25509 A25509 L25509  hV25509) (SP.same _) (fun _ h => h) (gi_V (List.mem_cons_of_mem _ (List.mem_append_left _ (List.mem_of_getElem? (i := 23) rfl))) (List.mem_cons_of_mem _ (List.mem_append_left _ (List.mem_of_getElem? (i := 24) rfl))) (List.mem_cons_of_mem _ (List.mem_append_left _ (List.mem_of_getElem? (i := 25) rfl))) (List.mem_cons_of_mem _ (List.mem_append_left _ (List.mem_of_getElem? (i := 7) rfl))) (gi_sub (fun w h => (List.mem_cons_of_mem _ (List.mem_append_right _ (List.mem_append_right _ (List.mem_append_right _ (List.mem_append_right _ (List.mem_append_right _ (List.mem_append_right _ (List.mem_append_left _ h))))))))) zg_j132_X12_readingTold)) rfl rfl rfl (by decide +kernel) ⟨Nat.le_of_ble_eq_true rfl, Nat.le_of_ble_eq_true rfl⟩ 0 rfl rfl rfl rfl (Nat.le_of_ble_eq_true rfl) ⟨Nat.le_of_ble_eq_true rfl, Nat.le_of_ble_eq_true rfl⟩ dX12_tellQuery_131 (fun v ty' w' hp hk' => ?_)
                      obtain ⟨I25518, A25518, L25518, hI25518, hA25518, hV25518, y25517, r25519, r25520, r25521, r25522, hL25518, hC, rfl, rfl⟩ := hp
                      replace hF := FE.bdM hF hC
                      have f25523 := IvM_f4 hV25518
                      rw [show (I25509 4) = (I25084 4) from (hI25509 4 rfl)] at r25519
                      have f25524 := IvM_f6 hV25518
                      have f25525 := IvM_f8 hV25518
                      rw [show (I25509 8) = (I25084 8) from (hI25509 8 rfl)] at r25521
                      rw [show (I25509 4) = (I25084 4) from (hI25509 4 rfl)] at r25522
                      show GW κ 4 0 0 (wM r g I25518 A25518 L25518) 134 [(3, .int x21438), (2, .int (I 4)), (1, .int y21424), (0, .ref (r 0))] [.int y25517, .int y25516, .ref (r 13)]
                      refine sM_12 (j := y25516.toNatClampNeg) hk (vp_in_iff.mpr ⟨by omega, by omega⟩) rfl dX12_tellQuery_134 ?_
                      refine g_aload_n hk dX12_tellQuery_135 rfl ?_
                      refine gM_i6 (v := (I25518 6)) hk hin12 (List.mem_cons_of_mem _ (List.mem_append_left _ (List.mem_of_getElem? (i := 16) rfl))) dX12_tellQuery_136 rfl ?_
                      refine g_if_le (tgt := 143) (a := (I25518 6).toInt) hk dX12_tellQuery_139 (by decide) rfl (fun c25526 => ?_) (fun c25526 => ?_)
                      · skip
                        replace hF := FE.pos hF c25526
                        refine g_aload_n hk dX12_tellQuery_143 rfl ?_
                        refine gM_r0_29 hk hin12 (List.mem_cons_of_mem _ (List.mem_append_left _ (List.mem_of_getElem? (i := 9) rfl))) dX12_tellQuery_144 ?_
                        refine g_iload_n hk dX12_tellQuery_147 rfl ?_
                        refine g_dup2 hk dX12_tellQuery_148 rfl rfl ?_
                        refine lM_11 (v := (A25084 11 y21424.toNatClampNeg)) hk (vp_in_iff.mpr ⟨by omega, by omega⟩) ((congrFun (hA25518 11 rfl) _).trans (congrFun (hA25509 11 rfl) _)) dX12_tellQuery_149 ?_
                        refine g_iconst (v := 1) hk dX12_tellQuery_150 (by decide) ?_
                        refine g_iadd hk dX12_tellQuery_151 ?_
                        refine g_topi (fun y25527 ey25527 => ?_)
                        replace hF := FE.lt hF ey25527
                        have hy25527 : y25527.toInt = (A25084 11 y21424.toNatClampNeg).toInt + 1 := i32_add ey25527 rfl rfl (by omega) (by omega)
                        refine sM_11 (j := y21424.toNatClampNeg) hk (vp_in_iff.mpr ⟨by omega, by omega⟩) rfl dX12_tellQuery_152 ?_
                        have hA25528 : ∀ j, 0 ≤ ((up3 (up3 A25518 12 (y25516.toNatClampNeg) y25517) 11 (y21424.toNatClampNeg) y25527) 11 j).toInt ∧ ((up3 (up3 A25518 12 (y25516.toNatClampNeg) y25517) 11 (y21424.toNatClampNeg) y25527) 11 j).toInt ≤ 16 := ai_st ((IvM_a11 hV25518)) ⟨by omega, by omega⟩
                        refine g_aload_n hk dX12_tellQuery_153 rfl ?_
                        refine g_dup hk dX12_tellQuery_154 rfl ?_
                        refine gM_i11 (v := (I25084 11)) hk hin12 (List.mem_cons_of_mem _ (List.mem_append_left _ (List.mem_of_getElem? (i := 0) rfl))) dX12_tellQuery_155 ((hI25518 11 rfl).trans (hI25509 11 rfl)) ?_
                        refine g_iconst (v := 1) hk dX12_tellQuery_158 (by decide) ?_
                        have b25529l := Int32.le_toInt (I25084 11)
                        have b25529h := Int32.toInt_lt (I25084 11)
                        refine g_iadd hk dX12_tellQuery_159 ?_
                        refine g_topi (fun y25530 ey25530 => ?_)
                        replace hF := FE.lt hF ey25530
                        refine pM_i11 hk hin12 (List.mem_cons_of_mem _ (List.mem_append_left _ (List.mem_of_getElem? (i := 0) rfl))) dX12_tellQuery_160 ?_
                        refine g_goto (tgt := 84) hk dX12_tellQuery_163 (by decide) ?_
                        have g25531 : (I25518 15).toInt = (I 15).toInt := by rw [show (I25518 15) = (I 15) from ((hI25518 15 rfl).trans ((hI25509 15 rfl).trans ((hI25084 15 rfl).trans ((hI21442 15 rfl).trans (hI21428 15 rfl)))))]
                        have g25532 : (I25518 16).toInt = (I 16).toInt := by rw [show (I25518 16) = (I 16) from ((hI25518 16 rfl).trans ((hI25509 16 rfl).trans ((hI25084 16 rfl).trans ((hI21442 16 rfl).trans (hI21428 16 rfl)))))]
                        have g25533 := IvM_s10_0 (I := I25518) (A := A25518) hV25518
                        have g25534 := IvM_s10_1 (I := I25518) (A := A25518) hV25518
                        have q25535 := cl_int (y := y21424) (by omega)
                        have g25536 : (A25518 10 0).toInt = (A 10 0).toInt := by rw [show (A25518 10 0) = (A 10 0) from ((congrFun (hA25518 10 rfl) _).trans ((congrFun (hA25509 10 rfl) _).trans ((congrFun (hA25084 10 rfl) _).trans ((congrFun (hA21442 10 rfl) _).trans (congrFun (hA21428 10 rfl) _)))))]
                        have g25537 : (A25518 10 1).toInt = (A 10 1).toInt := by rw [show (A25518 10 1) = (A 10 1) from ((congrFun (hA25518 10 rfl) _).trans ((congrFun (hA25509 10 rfl) _).trans ((congrFun (hA25084 10 rfl) _).trans ((congrFun (hA21442 10 rfl) _).trans (congrFun (hA21428 10 rfl) _)))))]
                        have q25538 := cl_int (y := y21424) (by omega)
                        exact g_lv (List.forall_mem_cons.mpr ⟨List.mem_of_getElem? (i := 0) rfl, (List.forall_mem_cons.mpr ⟨List.mem_of_getElem? (i := 1) rfl, (List.forall_mem_cons.mpr ⟨List.mem_of_getElem? (i := 2) rfl, (List.forall_mem_cons.mpr ⟨List.mem_of_getElem? (i := 3) rfl, (fun _ h => absurd h List.not_mem_nil)⟩)⟩)⟩)⟩) (ih25373 (upd I25518 11 y25530) (up3 (up3 A25518 12 (y25516.toNatClampNeg) y25517) 11 (y21424.toNatClampNeg) y25527) L25518 (show Md [4, 6, 7, 8, 9, 11, 12, 13] I21442 (upd I25518 11 y25530) from Md.tr hI25084 (show Md [4, 6, 7, 8, 9, 11, 12, 13] I25084 (upd I25518 11 y25530) from (Md.up (Md.tr (Md.tr Md.rf hI25509 rfl) hI25518 rfl) rfl)) rfl) (show Md [11, 12] (up3 A21442 11 (y21424.toNatClampNeg) 0) (up3 (up3 A25518 12 (y25516.toNatClampNeg) y25517) 11 (y21424.toNatClampNeg) y25527) from Md.tr hA25084 (show Md [11, 12] A25084 (up3 (up3 A25518 12 (y25516.toNatClampNeg) y25517) 11 (y21424.toNatClampNeg) y25527) from (Md.up3 (Md.up3 (Md.tr (Md.tr Md.rf hA25509 rfl) hA25518 rfl) rfl) rfl)) rfl) ⟨(IvM_f1 (I := I25518) (A := A25518) hV25518), (IvM_f2 (I := I25518) (A := A25518) hV25518), (IvM_f3 (I := I25518) (A := A25518) hV25518), (IvM_f4 (I := I25518) (A := A25518) hV25518), (IvM_f6 (I := I25518) (A := A25518) hV25518), (IvM_f8 (I := I25518) (A := A25518) hV25518), (IvM_f15 (I := I25518) (A := A25518) hV25518), (IvM_f16 (I := I25518) (A := A25518) hV25518), (IvM_f17 (I := I25518) (A := A25518) hV25518), (IvM_f18 (I := I25518) (A := A25518) hV25518), (IvM_f22 (I := I25518) (A := A25518) hV25518), (IvM_f23 (I := I25518) (A := A25518) hV25518), (IvM_f24 (I := I25518) (A := A25518) hV25518), hA25528, (IvM_a26 (I := I25518) (A := A25518) hV25518), (IvM_s8_0 (I := I25518) (A := A25518) hV25518), (IvM_s8_1 (I := I25518) (A := A25518) hV25518), (IvM_s10_0 (I := I25518) (A := A25518) hV25518), (IvM_s10_1 (I := I25518) (A := A25518) hV25518), (IvM_s17_0 (I := I25518) (A := A25518) hV25518), (IvM_s17_164 (I := I25518) (A := A25518) hV25518), ⟨fun e => by have e : (I25518 15).toInt = 0 := e; first | exact ghf_upd (n := (A25518 10 0)) ((IvM_lv (I := I25518) (A := A25518) hV25518).1 e) (fun q hq => by omega) | (exfalso; omega), fun e => by have e : (I25518 15).toInt = 1 := e; first | exact ghf_upd (n := (A25518 10 1)) ((IvM_lv (I := I25518) (A := A25518) hV25518).2 e) (fun q hq => by omega) | (exfalso; omega)⟩, (by rcases (IvM_sd (I := I25518) (A := A25518) hV25518) with h9 | h9 | h9; exact Or.inl h9; exact Or.inr (Or.inl h9); exact Or.inr (Or.inr ⟨fun e => by have e : (I25518 16).toInt = 0 := e; first | exact ghf_upd (n := (A25518 10 0)) (h9.1 e) (fun q hq => by omega) | (exfalso; omega), fun e => by have e : (I25518 16).toInt = 1 := e; first | exact ghf_upd (n := (A25518 10 1)) (h9.2 e) (fun q hq => by omega) | (exfalso; omega)⟩)), (IvM_nq (I := I25518) (A := A25518) hV25518), (IvM_hr (I := I25518) (A := A25518) hV25518), (IvM_hh (I := I25518) (A := A25518) hV25518), trivial⟩ (show L25518 = L21442 from ((hL25518.trans hL25509).trans hL25084)) (by first | (rw [show ((upd I25518 11 y25530) 4) = (I25518 4) from rfl] <;> omega) | omega) (by first | (rw [show ((upd I25518 11 y25530) 6) = (I25518 6) from rfl] <;> omega) | omega) (by first | (rw [show ((upd I25518 11 y25530) 8) = (I25518 8) from rfl] <;> omega) | omega) (by first | (rw [show ((upd I25518 11 y25530) 4) = (I25518 4) from rfl] <;> omega) | omega) (by omega) hF)
                      · skip
                        replace hF := FE.neg hF c25526
                        exact g_vret hk hR ⟨I25518, (up3 A25518 12 (y25516.toNatClampNeg) y25517), L25518, (show Md [4, 6, 7, 8, 9, 11, 12, 13, 17] I I25518 from (Md.tr (Md.tr (Md.tr (Md.tr (Md.tr (Md.up Md.rf rfl) hI21428 rfl) hI21442 rfl) hI25084 rfl) hI25509 rfl) hI25518 rfl)), (show Md [10, 11, 12] A (up3 A25518 12 (y25516.toNatClampNeg) y25517) from (Md.up3 (Md.tr (Md.tr (Md.tr (Md.up3 (Md.tr (Md.tr Md.rf hA21428 rfl) hA21442 rfl) rfl) hA25084 rfl) hA25509 rfl) hA25518 rfl) rfl)), ⟨(IvM_f1 (I := I25518) (A := A25518) hV25518), (IvM_f2 (I := I25518) (A := A25518) hV25518), (IvM_f3 (I := I25518) (A := A25518) hV25518), (IvM_f4 (I := I25518) (A := A25518) hV25518), (IvM_f6 (I := I25518) (A := A25518) hV25518), (IvM_f8 (I := I25518) (A := A25518) hV25518), (IvM_f15 (I := I25518) (A := A25518) hV25518), (IvM_f16 (I := I25518) (A := A25518) hV25518), (IvM_f17 (I := I25518) (A := A25518) hV25518), (IvM_f18 (I := I25518) (A := A25518) hV25518), (IvM_f22 (I := I25518) (A := A25518) hV25518), (IvM_f23 (I := I25518) (A := A25518) hV25518), (IvM_f24 (I := I25518) (A := A25518) hV25518), (IvM_a11 (I := I25518) (A := A25518) hV25518), (IvM_a26 (I := I25518) (A := A25518) hV25518), (IvM_s8_0 (I := I25518) (A := A25518) hV25518), (IvM_s8_1 (I := I25518) (A := A25518) hV25518), (IvM_s10_0 (I := I25518) (A := A25518) hV25518), (IvM_s10_1 (I := I25518) (A := A25518) hV25518), (IvM_s17_0 (I := I25518) (A := A25518) hV25518), (IvM_s17_164 (I := I25518) (A := A25518) hV25518), (IvM_lv (I := I25518) (A := A25518) hV25518), (IvM_sd (I := I25518) (A := A25518) hV25518), (IvM_nq (I := I25518) (A := A25518) hV25518), (IvM_hr (I := I25518) (A := A25518) hV25518), (IvM_hh (I := I25518) (A := A25518) hV25518), trivial⟩, (by omega), (by omega), (by omega), hF, rfl, rfl⟩ dX12_tellQuery_142
                    · skip
                      replace hF := FE.neg hF c25514
                      exact g_vret hk hR ⟨I25509, A25509, L25509, (show Md [4, 6, 7, 8, 9, 11, 12, 13, 17] I I25509 from (Md.tr (Md.tr (Md.tr (Md.tr (Md.up Md.rf rfl) hI21428 rfl) hI21442 rfl) hI25084 rfl) hI25509 rfl)), (show Md [10, 11, 12] A A25509 from (Md.tr (Md.tr (Md.up3 (Md.tr (Md.tr Md.rf hA21428 rfl) hA21442 rfl) rfl) hA25084 rfl) hA25509 rfl)), hV25509, (by rw [show (I25509 4) = (I25084 4) from (hI25509 4 rfl)] <;> omega), (by omega), (by rw [show (I25509 8) = (I25084 8) from (hI25509 8 rfl)] <;> omega), hF, rfl, rfl⟩ dX12_tellQuery_114
            have b25540 := Int32.le_toInt (I21428 4)
            have b25541 := Int32.toInt_lt (I21428 4)
            have n25539a : 401 - (I21428 4).toInt < (FU : Int) := by have := FU_eq; omega
            have n25539b : 0 < FU := by have := FU_eq; omega
            have g25542 : (I21442 15).toInt = (I 15).toInt := by rw [show (I21442 15) = (I 15) from ((hI21442 15 rfl).trans (hI21428 15 rfl))]
            have g25543 : (I21442 16).toInt = (I 16).toInt := by rw [show (I21442 16) = (I 16) from ((hI21442 16 rfl).trans (hI21428 16 rfl))]
            have g25544 := IvM_s10_0 (I := I21442) (A := A21442) hV21442
            have g25545 := IvM_s10_1 (I := I21442) (A := A21442) hV21442
            have q25546 := cl_int (y := y21424) (by omega)
            have g25547 : (A21442 10 0).toInt = (A 10 0).toInt := by rw [show (A21442 10 0) = (A 10 0) from ((congrFun (hA21442 10 rfl) _).trans (congrFun (hA21428 10 rfl) _))]
            have g25548 : (A21442 10 1).toInt = (A 10 1).toInt := by rw [show (A21442 10 1) = (A 10 1) from ((congrFun (hA21442 10 rfl) _).trans (congrFun (hA21428 10 rfl) _))]
            have g25549 : (I21442 6).toInt = (I21428 6).toInt := by rw [show (I21442 6) = (I21428 6) from (hI21442 6 rfl)]
            have q25550 := cl_int (y := y21424) (by omega)
            exact lp25369 FU I21442 (up3 A21442 11 (y21424.toNatClampNeg) 0) L21442 Md.rf Md.rf ⟨(IvM_f1 (I := I21442) (A := A21442) hV21442), (IvM_f2 (I := I21442) (A := A21442) hV21442), (IvM_f3 (I := I21442) (A := A21442) hV21442), (IvM_f4 (I := I21442) (A := A21442) hV21442), (IvM_f6 (I := I21442) (A := A21442) hV21442), (IvM_f8 (I := I21442) (A := A21442) hV21442), (IvM_f15 (I := I21442) (A := A21442) hV21442), (IvM_f16 (I := I21442) (A := A21442) hV21442), (IvM_f17 (I := I21442) (A := A21442) hV21442), (IvM_f18 (I := I21442) (A := A21442) hV21442), (IvM_f22 (I := I21442) (A := A21442) hV21442), (IvM_f23 (I := I21442) (A := A21442) hV21442), (IvM_f24 (I := I21442) (A := A21442) hV21442), hA25079, (IvM_a26 (I := I21442) (A := A21442) hV21442), (IvM_s8_0 (I := I21442) (A := A21442) hV21442), (IvM_s8_1 (I := I21442) (A := A21442) hV21442), (IvM_s10_0 (I := I21442) (A := A21442) hV21442), (IvM_s10_1 (I := I21442) (A := A21442) hV21442), (IvM_s17_0 (I := I21442) (A := A21442) hV21442), (IvM_s17_164 (I := I21442) (A := A21442) hV21442), ⟨fun e => by have e : (I21442 15).toInt = 0 := e; first | exact ghf_upd (n := (A21442 10 0)) ((IvM_lv (I := I21442) (A := A21442) hV21442).1 e) (fun q hq => by omega) | (exfalso; omega), fun e => by have e : (I21442 15).toInt = 1 := e; first | exact ghf_upd (n := (A21442 10 1)) ((IvM_lv (I := I21442) (A := A21442) hV21442).2 e) (fun q hq => by omega) | (exfalso; omega)⟩, (by rcases (IvM_sd (I := I21442) (A := A21442) hV21442) with h9 | h9 | h9; exact Or.inl h9; exact Or.inr (Or.inl h9); exact Or.inr (Or.inr ⟨fun e => by have e : (I21442 16).toInt = 0 := e; first | exact ghf_upd (n := (A21442 10 0)) (h9.1 e) (fun q hq => by omega) | (exfalso; omega), fun e => by have e : (I21442 16).toInt = 1 := e; first | exact ghf_upd (n := (A21442 10 1)) (h9.2 e) (fun q hq => by omega) | (exfalso; omega)⟩)), (IvM_nq (I := I21442) (A := A21442) hV21442), (IvM_hr (I := I21442) (A := A21442) hV21442), (IvM_hh (I := I21442) (A := A21442) hV21442), trivial⟩ rfl (by first | (rw [show (I21442 4) = (I21428 4) from (hI21442 4 rfl)] <;> omega) | omega) (by first | (rw [show (I21442 6) = (I21428 6) from (hI21442 6 rfl)] <;> omega) | omega) (by omega) (by first | exact n25539a | (rw [show (I21442 4) = (I21428 4) from (hI21442 4 rfl)] <;> exact n25539a)) n25539b hF
          · skip
            replace hF := FE.neg hF c25077
            refine g_aload_n hk dX12_tellQuery_42 rfl ?_
            refine gM_i6 (v := (I21428 6)) hk hin12 (List.mem_cons_of_mem _ (List.mem_append_left _ (List.mem_of_getElem? (i := 16) rfl))) dX12_tellQuery_43 (hI21442 6 rfl) ?_
            refine g_if_ne (tgt := 77) (a := (I21428 6).toInt) hk dX12_tellQuery_46 (by decide) rfl (fun c25551 => ?_) (fun c25551 => ?_)
            · skip
              replace hF := FE.pos hF c25551
              refine g_aload_n hk dX12_tellQuery_77 rfl ?_
              refine gM_r0_29 hk hin12 (List.mem_cons_of_mem _ (List.mem_append_left _ (List.mem_of_getElem? (i := 9) rfl))) dX12_tellQuery_78 ?_
              refine g_iload_n hk dX12_tellQuery_81 rfl ?_
              refine g_iconst (v := 0) hk dX12_tellQuery_82 (by decide) ?_
              have k25552 : (0 : Int32).toInt = 0 := rfl
              refine sM_11 (j := y21424.toNatClampNeg) hk (vp_in_iff.mpr ⟨by omega, by omega⟩) rfl dX12_tellQuery_83 ?_
              have hA25553 : ∀ j, 0 ≤ ((up3 A21442 11 (y21424.toNatClampNeg) 0) 11 j).toInt ∧ ((up3 A21442 11 (y21424.toNatClampNeg) 0) 11 j).toInt ≤ 16 := ai_st ((IvM_a11 hV21442)) ⟨by omega, by omega⟩
              have f25818 := IvM_f4 hIv
              have f25819 := IvM_f6 hIv
              have f25820 := IvM_f8 hIv
              have lp25824 : ∀ (n25825 : Nat) (I25558 : Nat → Int32) (A25558 : Nat → Nat → Int32) (L25558 : Nat → Nat → Int64), (Md [4, 6, 7, 8, 9, 11, 12, 13] I21442 I25558) → (Md [11, 12] (up3 A21442 11 (y21424.toNatClampNeg) 0) A25558) → (IvM I25558 A25558) → (L25558 = L21442) → ((I 4).toInt ≤ (I25558 4).toInt) → ((I 6).toInt ≤ (I25558 6).toInt) → ((I 8).toInt ≤ 9 * (I25558 8).toInt) → (401 - (I25558 4).toInt < (n25825 : Int)) → (0 < n25825) → (FE (fM12_tellQuery I A L) (itr_IAL dfM (bM12_tellQuery_84xxx I A y21424) n25825 I25558 A25558 L25558)) → GW κ 4 0 0 (wM r g I25558 A25558 L25558) 84 [(3, .int x21438), (2, .int (I 4)), (1, .int y21424), (0, .ref (r 0))] [] := by
                intro n25825
                induction n25825 with
                | zero =>
                  intro I25558 A25558 L25558 hI25558 hA25558 hV25558 hL25558 h25821 h25822 h25823 m25826 m25826z hF
                  exact absurd m25826z (Nat.lt_irrefl 0)
                | succ n25825 ih25828 =>
                  intro I25558 A25558 L25558 hI25558 hA25558 hV25558 hL25558 h25821 h25822 h25823 m25826 m25826z hF
                  have f25829 := IvM_f4 hV25558
                  have f25830 := IvM_f6 hV25558
                  have f25831 := IvM_f8 hV25558
                  replace hF := FE.itr_IAL hF
                  refine g_aload_n hk dX12_tellQuery_84 rfl ?_
                  refine g_callV (n := 0) hk (j130_X12_isReading l D zt r g I25558 A25558 L25558  hV25558) (SP.same _) (fun _ h => h) (gi_V (List.mem_cons_of_mem _ (List.mem_append_left _ (List.mem_of_getElem? (i := 10) rfl))) (List.mem_cons_of_mem _ (List.mem_append_left _ (List.mem_of_getElem? (i := 11) rfl))) (List.mem_cons_of_mem _ (List.mem_append_left _ (List.mem_of_getElem? (i := 12) rfl))) (List.mem_cons_of_mem _ (List.mem_append_left _ (List.mem_of_getElem? (i := 7) rfl))) (gi_sub (fun w h => (List.mem_cons_of_mem _ (List.mem_append_right _ (List.mem_append_right _ (List.mem_append_right _ (List.mem_append_left _ h)))))) zg_j130_X12_isReading)) rfl rfl rfl (by decide +kernel) ⟨Nat.le_of_ble_eq_true rfl, Nat.le_of_ble_eq_true rfl⟩ 0 rfl rfl rfl rfl (Nat.le_of_ble_eq_true rfl) ⟨Nat.le_of_ble_eq_true rfl, Nat.le_of_ble_eq_true rfl⟩ dX12_tellQuery_85 (fun v ty' w' hp hk' => ?_)
                  rcases hp with ⟨hC, rfl, rfl⟩ | ⟨hC, rfl, rfl⟩
                  · skip
                    replace hF := FE.pos hF hC
                    show GW κ 4 0 0 (wM r g I25558 A25558 L25558) 88 [(3, .int x21438), (2, .int (I 4)), (1, .int y21424), (0, .ref (r 0))] [.int 0]
                    refine g_if_eq (tgt := 166) (a := 0) hk dX12_tellQuery_88 (by decide) rfl (fun _ => ?_) (fun z9 => absurd (show (0 : Int) = (0 : Int) from by decide) z9)
                    refine g_aload_n hk dX12_tellQuery_166 rfl ?_
                    refine g_iconst (v := 4) hk dX12_tellQuery_167 (by decide) ?_
                    have k25834 : (4 : Int32).toInt = 4 := rfl
                    refine g_callV (n := 1) hk (j125_X12_is l D zt r g I25558 A25558 L25558 4 hV25558) (SP.same _) (fun _ h => h) (gi_V (List.mem_cons_of_mem _ (List.mem_append_left _ (List.mem_of_getElem? (i := 13) rfl))) (List.mem_cons_of_mem _ (List.mem_append_left _ (List.mem_of_getElem? (i := 14) rfl))) (List.mem_cons_of_mem _ (List.mem_append_left _ (List.mem_of_getElem? (i := 15) rfl))) (List.mem_cons_of_mem _ (List.mem_append_left _ (List.mem_of_getElem? (i := 7) rfl))) (gi_sub (fun w h => (List.mem_cons_of_mem _ (List.mem_append_right _ (List.mem_append_right _ (List.mem_append_right _ (List.mem_append_right _ (List.mem_append_left _ h))))))) zg_j125_X12_is)) rfl rfl rfl (by decide +kernel) ⟨Nat.le_of_ble_eq_true rfl, Nat.le_of_ble_eq_true rfl⟩ 0 rfl rfl rfl rfl (Nat.le_of_ble_eq_true rfl) ⟨Nat.le_of_ble_eq_true rfl, Nat.le_of_ble_eq_true rfl⟩ dX12_tellQuery_168 (fun v ty' w' hp hk' => ?_)
                    rcases hp with ⟨c25835, hC, rfl, rfl⟩ | ⟨c25837, hC, rfl, rfl⟩
                    · skip
                      replace hF := FE.pos hF hC
                      rw [show (A25558 2 (I25558 4).toNatClampNeg) = (A 2 (I25558 4).toNatClampNeg) from ((congrFun (hA25558 2 rfl) _).trans ((congrFun (hA21442 2 rfl) _).trans (congrFun (hA21428 2 rfl) _)))] at c25835
                      show GW κ 4 0 0 (wM r g I25558 A25558 L25558) 171 [(3, .int x21438), (2, .int (I 4)), (1, .int y21424), (0, .ref (r 0))] [.int 0]
                      refine g_if_eq (tgt := 194) (a := 0) hk dX12_tellQuery_171 (by decide) rfl (fun _ => ?_) (fun z9 => absurd (show (0 : Int) = (0 : Int) from by decide) z9)
                      refine g_aload_n hk dX12_tellQuery_194 rfl ?_
                      refine g_iconst (v := 4) hk dX12_tellQuery_195 (by decide) ?_
                      refine g_callV (n := 1) hk (j131_X12_must l D zt r g I25558 A25558 L25558 4 hV25558) (SP.same _) (fun _ h => h) (gi_V (List.mem_cons_of_mem _ (List.mem_append_left _ (List.mem_of_getElem? (i := 4) rfl))) (List.mem_cons_of_mem _ (List.mem_append_left _ (List.mem_of_getElem? (i := 5) rfl))) (List.mem_cons_of_mem _ (List.mem_append_left _ (List.mem_of_getElem? (i := 6) rfl))) (List.mem_cons_of_mem _ (List.mem_append_left _ (List.mem_of_getElem? (i := 7) rfl))) (gi_sub (fun w h => (List.mem_cons_of_mem _ (List.mem_append_right _ (List.mem_append_right _ (List.mem_append_left _ h))))) zg_j131_X12_must)) rfl rfl rfl (by decide +kernel) ⟨Nat.le_of_ble_eq_true rfl, Nat.le_of_ble_eq_true rfl⟩ 0 rfl rfl rfl rfl (Nat.le_of_ble_eq_true rfl) ⟨Nat.le_of_ble_eq_true rfl, Nat.le_of_ble_eq_true rfl⟩ dX12_tellQuery_196 (fun v ty' w' hp hk' => ?_)
                      obtain ⟨I25840, A25840, L25840, hI25840, hA25840, hV25840, r25841, r25842, r25843, r25844, r25845, hL25840, hC, rfl, rfl⟩ := hp
                      replace hF := FE.bdM hF hC
                      have f25846 := IvM_f4 hV25840
                      have f25847 := IvM_f6 hV25840
                      rw [show (I25840 8) = (I25558 8) from (hI25840 8 rfl)] at r25843
                      rw [show (A25558 2 (I25558 4).toNatClampNeg) = (A 2 (I25558 4).toNatClampNeg) from ((congrFun (hA25558 2 rfl) _).trans ((congrFun (hA21442 2 rfl) _).trans (congrFun (hA21428 2 rfl) _)))] at r25845
                      show GW κ 4 0 0 (wM r g I25840 A25840 L25840) 199 [(3, .int x21438), (2, .int (I 4)), (1, .int y21424), (0, .ref (r 0))] []
                      refine g_aload_n hk dX12_tellQuery_199 rfl ?_
                      refine gM_i6 (v := (I25840 6)) hk hin12 (List.mem_cons_of_mem _ (List.mem_append_left _ (List.mem_of_getElem? (i := 16) rfl))) dX12_tellQuery_200 rfl ?_
                      refine g_if_le (tgt := 207) (a := (I25840 6).toInt) hk dX12_tellQuery_203 (by decide) rfl (fun c25848 => ?_) (fun c25848 => ?_)
                      · skip
                        replace hF := FE.pos hF c25848
                        refine g_aload_n hk dX12_tellQuery_207 rfl ?_
                        refine g_bipush (v := (-2)) hk dX12_tellQuery_208 (by decide) ?_
                        refine pM_i11 hk hin12 (List.mem_cons_of_mem _ (List.mem_append_left _ (List.mem_of_getElem? (i := 0) rfl))) dX12_tellQuery_210 ?_
                        refine g_aload_n hk dX12_tellQuery_213 rfl ?_
                        refine gM_r0_25 hk hin12 (List.mem_cons_of_mem _ (List.mem_append_left _ (List.mem_of_getElem? (i := 17) rfl))) dX12_tellQuery_214 ?_
                        refine g_aload_n hk dX12_tellQuery_217 rfl ?_
                        refine gM_i17 (v := (I 17)) hk hin12 (List.mem_cons_of_mem _ (List.mem_append_left _ (List.mem_of_getElem? (i := 8) rfl))) dX12_tellQuery_218 ((hI25840 17 rfl).trans ((hI25558 17 rfl).trans ((hI21442 17 rfl).trans (hI21428 17 rfl)))) ?_
                        have g25849 : (I25840 16).toInt = (I 16).toInt := by rw [show (I25840 16) = (I 16) from ((hI25840 16 rfl).trans ((hI25558 16 rfl).trans ((hI21442 16 rfl).trans (hI21428 16 rfl))))]
                        have g25850 : (I25840 17).toInt = (I 17).toInt := by rw [show (I25840 17) = (I 17) from ((hI25840 17 rfl).trans ((hI25558 17 rfl).trans ((hI21442 17 rfl).trans (hI21428 17 rfl))))]
                        have g25851 : (A25840 10 0).toInt = (A 10 0).toInt := by rw [show (A25840 10 0) = (A 10 0) from ((congrFun (hA25840 10 rfl) _).trans ((congrFun (hA25558 10 rfl) _).trans ((congrFun (hA21442 10 rfl) _).trans (congrFun (hA21428 10 rfl) _))))]
                        have g25852 : (A25840 10 1).toInt = (A 10 1).toInt := by rw [show (A25840 10 1) = (A 10 1) from ((congrFun (hA25840 10 rfl) _).trans ((congrFun (hA25558 10 rfl) _).trans ((congrFun (hA21442 10 rfl) _).trans (congrFun (hA21428 10 rfl) _))))]
                        have g25853 := (IvM_nq (I := I25840) (A := A25840) hV25840).2 (by omega)
                        refine g_aload_n hk dX12_tellQuery_221 rfl ?_
                        refine gM_r0_8 hk hin12 (List.mem_cons_of_mem _ (List.mem_append_left _ (List.mem_of_getElem? (i := 18) rfl))) dX12_tellQuery_222 ?_
                        refine g_iload_n hk dX12_tellQuery_225 rfl ?_
                        refine lM_5 hk (vp_in_iff.mpr ⟨by omega, by omega⟩) rfl dX12_tellQuery_226 ?_
                        refine g_topl (fun y25854 ey25854 => ?_)
                        replace hF := FE.lt hF ey25854
                        refine sM_7 (j := (I 17).toNatClampNeg) hk (vp_in_iff.mpr ⟨by omega, by omega⟩) rfl dX12_tellQuery_227 ?_
                        refine g_aload_n hk dX12_tellQuery_228 rfl ?_
                        refine g_dup hk dX12_tellQuery_229 rfl ?_
                        refine gM_i17 (v := (I 17)) hk hin12 (List.mem_cons_of_mem _ (List.mem_append_left _ (List.mem_of_getElem? (i := 8) rfl))) dX12_tellQuery_230 ((hI25840 17 rfl).trans ((hI25558 17 rfl).trans ((hI21442 17 rfl).trans (hI21428 17 rfl)))) ?_
                        refine g_iconst (v := 1) hk dX12_tellQuery_233 (by decide) ?_
                        refine g_iadd hk dX12_tellQuery_234 ?_
                        refine g_topi (fun y25855 ey25855 => ?_)
                        replace hF := FE.lt hF ey25855
                        have hy25855 : y25855.toInt = (I 17).toInt + 1 := i32_add ey25855 rfl rfl (by omega) (by omega)
                        refine pM_i17 hk hin12 (List.mem_cons_of_mem _ (List.mem_append_left _ (List.mem_of_getElem? (i := 8) rfl))) dX12_tellQuery_235 ?_
                        refine g_aload_n hk dX12_tellQuery_238 rfl ?_
                        refine gM_r0_28 hk hin12 (List.mem_cons_of_mem _ (List.mem_append_left _ (List.mem_of_getElem? (i := 2) rfl))) dX12_tellQuery_239 ?_
                        refine g_aload_n hk dX12_tellQuery_242 rfl ?_
                        refine gM_i16 (v := (I 16)) hk hin12 (List.mem_cons_of_mem _ (List.mem_append_left _ (List.mem_of_getElem? (i := 1) rfl))) dX12_tellQuery_243 ((hI25840 16 rfl).trans ((hI25558 16 rfl).trans ((hI21442 16 rfl).trans (hI21428 16 rfl)))) ?_
                        by_cases c25856 : (I 16).toInt = 1
                        · have ec25856 : (I 16) = 1 := Int32.toInt_inj.mp c25856
                          replace hF := FE.pos hF c25856
                          rw [ec25856]
                          show GW κ 4 0 0 (wM r g (upd (upd I25840 11 (-2)) 17 y25855) A25840 (up3L L25840 7 ((I 17).toNatClampNeg) y25854)) 246 [(3, .int x21438), (2, .int (I 4)), (1, .int y21424), (0, .ref (r 0))] [.int 1, .ref (r 11)]
                          refine g_dup2 hk dX12_tellQuery_246 rfl rfl ?_
                          refine lM_10 (v := (A 10 1)) hk (vp_in_iff.mpr ⟨by decide, by decide⟩) ((congrFun (hA25840 10 rfl) _).trans ((congrFun (hA25558 10 rfl) _).trans ((congrFun (hA21442 10 rfl) _).trans (congrFun (hA21428 10 rfl) _)))) dX12_tellQuery_247 ?_
                          refine g_iconst (v := 1) hk dX12_tellQuery_248 (by decide) ?_
                          refine g_iadd hk dX12_tellQuery_249 ?_
                          refine g_topi (fun y25857 ey25857 => ?_)
                          replace hF := FE.lt hF ey25857
                          have hy25857 : y25857.toInt = (A 10 1).toInt + 1 := i32_add ey25857 rfl rfl (by omega) (by omega)
                          refine sM_10 (j := 1) hk (vp_in_iff.mpr ⟨by decide, by decide⟩) (by decide) dX12_tellQuery_250 ?_
                          have f25858 := IvM_s10_0 hV25840
                          have f25859 := IvM_s10_1 hV25840
                          have g25860 : (I25840 15).toInt = (I 15).toInt := by rw [show (I25840 15) = (I 15) from ((hI25840 15 rfl).trans ((hI25558 15 rfl).trans ((hI21442 15 rfl).trans (hI21428 15 rfl))))]
                          have g25861 := IvM_s10_0 (I := I25840) (A := A25840) hV25840
                          have g25862 := IvM_s10_1 (I := I25840) (A := A25840) hV25840
                          have g25863 : (I25840 8).toInt = (I25558 8).toInt := by rw [show (I25840 8) = (I25558 8) from (hI25840 8 rfl)]
                          have q25864 := cl_int (y := y21424) (by omega)
                          have g25865 : (A25840 11 y21424.toNatClampNeg).toInt = (A25558 11 y21424.toNatClampNeg).toInt := by rw [show (A25840 11 y21424.toNatClampNeg) = (A25558 11 y21424.toNatClampNeg) from (congrFun (hA25840 11 rfl) _)]
                          have u25866 : (I25558 6).toInt ≠ 0 ∨ (A 2 (I25558 4).toNatClampNeg).toInt ≠ (4 : Int32).toInt := c25835
                          have u25867 : 0 < (I25840 6).toInt ∨ ((I25558 6).toInt = 0 ∧ (A 2 (I25558 4).toNatClampNeg).toInt = (4 : Int32).toInt) := r25845
                          exact g_vret hk hR ⟨(upd (upd I25840 11 (-2)) 17 y25855), (up3 A25840 10 1 y25857), (up3L L25840 7 ((I 17).toNatClampNeg) y25854), (show Md [4, 6, 7, 8, 9, 11, 12, 13, 17] I (upd (upd I25840 11 (-2)) 17 y25855) from (Md.up (Md.up (Md.tr (Md.tr (Md.tr (Md.tr (Md.up Md.rf rfl) hI21428 rfl) hI21442 rfl) hI25558 rfl) hI25840 rfl) rfl) rfl)), (show Md [10, 11, 12] A (up3 A25840 10 1 y25857) from (Md.up3 (Md.tr (Md.tr (Md.up3 (Md.tr (Md.tr Md.rf hA21428 rfl) hA21442 rfl) rfl) hA25558 rfl) hA25840 rfl) rfl)), ⟨(IvM_f1 (I := I25840) (A := A25840) hV25840), (IvM_f2 (I := I25840) (A := A25840) hV25840), (IvM_f3 (I := I25840) (A := A25840) hV25840), (IvM_f4 (I := I25840) (A := A25840) hV25840), (IvM_f6 (I := I25840) (A := A25840) hV25840), (IvM_f8 (I := I25840) (A := A25840) hV25840), (IvM_f15 (I := I25840) (A := A25840) hV25840), (IvM_f16 (I := I25840) (A := A25840) hV25840), (show 0 ≤ y25855.toInt ∧ y25855.toInt ≤ 5 from ⟨by omega, by omega⟩), (IvM_f18 (I := I25840) (A := A25840) hV25840), (IvM_f22 (I := I25840) (A := A25840) hV25840), (IvM_f23 (I := I25840) (A := A25840) hV25840), (IvM_f24 (I := I25840) (A := A25840) hV25840), (IvM_a11 (I := I25840) (A := A25840) hV25840), (IvM_a26 (I := I25840) (A := A25840) hV25840), (IvM_s8_0 (I := I25840) (A := A25840) hV25840), (IvM_s8_1 (I := I25840) (A := A25840) hV25840), (show 0 ≤ ((up3 A25840 10 1 y25857) 10 0).toInt ∧ ((up3 A25840 10 1 y25857) 10 0).toInt ≤ 5 from by rw [show (up3 A25840 10 1 y25857) 10 0 = (A25840 10 0) from rfl]; exact (IvM_s10_0 (I := I25840) (A := A25840) hV25840)), (show 0 ≤ ((up3 A25840 10 1 y25857) 10 1).toInt ∧ ((up3 A25840 10 1 y25857) 10 1).toInt ≤ 5 from by rw [show (up3 A25840 10 1 y25857) 10 1 = y25857 from rfl]; exact ⟨by omega, by omega⟩), (IvM_s17_0 (I := I25840) (A := A25840) hV25840), (IvM_s17_164 (I := I25840) (A := A25840) hV25840), ⟨fun e => by have e : (I25840 15).toInt = 0 := e; first | exact (IvM_lv (I := I25840) (A := A25840) hV25840).1 e | (exfalso; omega), fun e => by have e : (I25840 15).toInt = 1 := e; first | exact (IvM_lv (I := I25840) (A := A25840) hV25840).2 e | (exfalso; omega)⟩, (by first | (exfalso; omega) | (by_cases g8 : (I25840 8).toInt ≠ 0; exact Or.inr (Or.inl g8); rcases (IvM_sd (I := I25840) (A := A25840) hV25840) with h9 | h9 | h9; exact absurd h9 (by omega); exact absurd h9 g8; exact Or.inr (Or.inr ⟨fun e => by have e : (I25840 16).toInt = 0 := e; first | exact ghf_add (n := (A25840 10 0)) (f := (A25840 11)) (n2 := y25857) (p := y21424.toNatClampNeg) (h9.1 e) (by omega) (by omega) (by omega) | (exfalso; omega), fun e => by have e : (I25840 16).toInt = 1 := e; first | exact ghf_add (n := (A25840 10 1)) (f := (A25840 11)) (n2 := y25857) (p := y21424.toNatClampNeg) (h9.2 e) (by omega) (by omega) (by omega) | (exfalso; omega)⟩))), ⟨fun e => by have e : (I25840 16).toInt = 0 := e; first | (exfalso; omega) | (show y25855.toInt = (A25840 10 0).toInt; omega), fun e => by have e : (I25840 16).toInt = 1 := e; first | (exfalso; omega) | (show y25855.toInt = y25857.toInt; omega)⟩, (IvM_hr (I := I25840) (A := A25840) hV25840), (IvM_hh (I := I25840) (A := A25840) hV25840), trivial⟩, (by rw [show ((upd (upd I25840 11 (-2)) 17 y25855) 4) = (I25840 4) from rfl] <;> omega), (by rw [show ((upd (upd I25840 11 (-2)) 17 y25855) 6) = (I25840 6) from rfl] <;> omega), (by rw [show ((upd (upd I25840 11 (-2)) 17 y25855) 8) = (I25558 8) from (hI25840 8 rfl)] <;> omega), hF, rfl, rfl⟩ dX12_tellQuery_251
                        replace hF := FE.neg hF c25856
                        exfalso; omega
                      · skip
                        replace hF := FE.neg hF c25848
                        exact g_vret hk hR ⟨I25840, A25840, L25840, (show Md [4, 6, 7, 8, 9, 11, 12, 13, 17] I I25840 from (Md.tr (Md.tr (Md.tr (Md.tr (Md.up Md.rf rfl) hI21428 rfl) hI21442 rfl) hI25558 rfl) hI25840 rfl)), (show Md [10, 11, 12] A A25840 from (Md.tr (Md.tr (Md.up3 (Md.tr (Md.tr Md.rf hA21428 rfl) hA21442 rfl) rfl) hA25558 rfl) hA25840 rfl)), hV25840, (by omega), (by omega), (by rw [show (I25840 8) = (I25558 8) from (hI25840 8 rfl)] <;> omega), hF, rfl, rfl⟩ dX12_tellQuery_206
                    · skip
                      replace hF := FE.neg hF (fe_ne hC (by decide))
                      rw [show (A25558 2 (I25558 4).toNatClampNeg) = (A 2 (I25558 4).toNatClampNeg) from ((congrFun (hA25558 2 rfl) _).trans ((congrFun (hA21442 2 rfl) _).trans (congrFun (hA21428 2 rfl) _)))] at c25837
                      show GW κ 4 0 0 (wM r g I25558 A25558 L25558) 171 [(3, .int x21438), (2, .int (I 4)), (1, .int y21424), (0, .ref (r 0))] [.int 1]
                      refine g_if_eq (tgt := 194) (a := 1) hk dX12_tellQuery_171 (by decide) rfl (fun z9 => absurd z9 (show ¬ ((1 : Int) = (0 : Int)) from by decide)) (fun _ => ?_)
                      refine g_aload_n hk dX12_tellQuery_174 rfl ?_
                      refine gM_r0_29 hk hin12 (List.mem_cons_of_mem _ (List.mem_append_left _ (List.mem_of_getElem? (i := 9) rfl))) dX12_tellQuery_175 ?_
                      refine g_iload_n hk dX12_tellQuery_178 rfl ?_
                      refine lM_11 (v := (A25558 11 y21424.toNatClampNeg)) hk (vp_in_iff.mpr ⟨by omega, by omega⟩) rfl dX12_tellQuery_179 ?_
                      have f25868 := IvM_a11 hV25558 (y21424.toNatClampNeg)
                      refine g_iconst (v := 2) hk dX12_tellQuery_180 (by decide) ?_
                      refine g_icmp_ge (tgt := 194) (a := (A25558 11 y21424.toNatClampNeg).toInt) (b := 2) hk dX12_tellQuery_181 (by decide) rfl rfl (fun c25869 => ?_) (fun c25869 => ?_)
                      · skip
                        replace hF := FE.pos hF c25869
                        refine g_aload_n hk dX12_tellQuery_194 rfl ?_
                        refine g_iconst (v := 4) hk dX12_tellQuery_195 (by decide) ?_
                        refine g_callV (n := 1) hk (j131_X12_must l D zt r g I25558 A25558 L25558 4 hV25558) (SP.same _) (fun _ h => h) (gi_V (List.mem_cons_of_mem _ (List.mem_append_left _ (List.mem_of_getElem? (i := 4) rfl))) (List.mem_cons_of_mem _ (List.mem_append_left _ (List.mem_of_getElem? (i := 5) rfl))) (List.mem_cons_of_mem _ (List.mem_append_left _ (List.mem_of_getElem? (i := 6) rfl))) (List.mem_cons_of_mem _ (List.mem_append_left _ (List.mem_of_getElem? (i := 7) rfl))) (gi_sub (fun w h => (List.mem_cons_of_mem _ (List.mem_append_right _ (List.mem_append_right _ (List.mem_append_left _ h))))) zg_j131_X12_must)) rfl rfl rfl (by decide +kernel) ⟨Nat.le_of_ble_eq_true rfl, Nat.le_of_ble_eq_true rfl⟩ 0 rfl rfl rfl rfl (Nat.le_of_ble_eq_true rfl) ⟨Nat.le_of_ble_eq_true rfl, Nat.le_of_ble_eq_true rfl⟩ dX12_tellQuery_196 (fun v ty' w' hp hk' => ?_)
                        obtain ⟨I25871, A25871, L25871, hI25871, hA25871, hV25871, r25872, r25873, r25874, r25875, r25876, hL25871, hC, rfl, rfl⟩ := hp
                        replace hF := FE.bdM hF hC
                        have f25877 := IvM_f4 hV25871
                        have f25878 := IvM_f6 hV25871
                        rw [show (I25871 8) = (I25558 8) from (hI25871 8 rfl)] at r25874
                        rw [show (A25558 2 (I25558 4).toNatClampNeg) = (A 2 (I25558 4).toNatClampNeg) from ((congrFun (hA25558 2 rfl) _).trans ((congrFun (hA21442 2 rfl) _).trans (congrFun (hA21428 2 rfl) _)))] at r25876
                        show GW κ 4 0 0 (wM r g I25871 A25871 L25871) 199 [(3, .int x21438), (2, .int (I 4)), (1, .int y21424), (0, .ref (r 0))] []
                        refine g_aload_n hk dX12_tellQuery_199 rfl ?_
                        refine gM_i6 (v := (I25871 6)) hk hin12 (List.mem_cons_of_mem _ (List.mem_append_left _ (List.mem_of_getElem? (i := 16) rfl))) dX12_tellQuery_200 rfl ?_
                        refine g_if_le (tgt := 207) (a := (I25871 6).toInt) hk dX12_tellQuery_203 (by decide) rfl (fun c25879 => ?_) (fun c25879 => ?_)
                        · skip
                          replace hF := FE.pos hF c25879
                          refine g_aload_n hk dX12_tellQuery_207 rfl ?_
                          refine g_bipush (v := (-2)) hk dX12_tellQuery_208 (by decide) ?_
                          refine pM_i11 hk hin12 (List.mem_cons_of_mem _ (List.mem_append_left _ (List.mem_of_getElem? (i := 0) rfl))) dX12_tellQuery_210 ?_
                          refine g_aload_n hk dX12_tellQuery_213 rfl ?_
                          refine gM_r0_25 hk hin12 (List.mem_cons_of_mem _ (List.mem_append_left _ (List.mem_of_getElem? (i := 17) rfl))) dX12_tellQuery_214 ?_
                          refine g_aload_n hk dX12_tellQuery_217 rfl ?_
                          refine gM_i17 (v := (I 17)) hk hin12 (List.mem_cons_of_mem _ (List.mem_append_left _ (List.mem_of_getElem? (i := 8) rfl))) dX12_tellQuery_218 ((hI25871 17 rfl).trans ((hI25558 17 rfl).trans ((hI21442 17 rfl).trans (hI21428 17 rfl)))) ?_
                          have g25880 : (I25871 16).toInt = (I 16).toInt := by rw [show (I25871 16) = (I 16) from ((hI25871 16 rfl).trans ((hI25558 16 rfl).trans ((hI21442 16 rfl).trans (hI21428 16 rfl))))]
                          have g25881 : (I25871 17).toInt = (I 17).toInt := by rw [show (I25871 17) = (I 17) from ((hI25871 17 rfl).trans ((hI25558 17 rfl).trans ((hI21442 17 rfl).trans (hI21428 17 rfl))))]
                          have g25882 : (A25871 10 0).toInt = (A 10 0).toInt := by rw [show (A25871 10 0) = (A 10 0) from ((congrFun (hA25871 10 rfl) _).trans ((congrFun (hA25558 10 rfl) _).trans ((congrFun (hA21442 10 rfl) _).trans (congrFun (hA21428 10 rfl) _))))]
                          have g25883 : (A25871 10 1).toInt = (A 10 1).toInt := by rw [show (A25871 10 1) = (A 10 1) from ((congrFun (hA25871 10 rfl) _).trans ((congrFun (hA25558 10 rfl) _).trans ((congrFun (hA21442 10 rfl) _).trans (congrFun (hA21428 10 rfl) _))))]
                          have g25884 := (IvM_nq (I := I25871) (A := A25871) hV25871).2 (by omega)
                          refine g_aload_n hk dX12_tellQuery_221 rfl ?_
                          refine gM_r0_8 hk hin12 (List.mem_cons_of_mem _ (List.mem_append_left _ (List.mem_of_getElem? (i := 18) rfl))) dX12_tellQuery_222 ?_
                          refine g_iload_n hk dX12_tellQuery_225 rfl ?_
                          refine lM_5 hk (vp_in_iff.mpr ⟨by omega, by omega⟩) rfl dX12_tellQuery_226 ?_
                          refine g_topl (fun y25885 ey25885 => ?_)
                          replace hF := FE.lt hF ey25885
                          refine sM_7 (j := (I 17).toNatClampNeg) hk (vp_in_iff.mpr ⟨by omega, by omega⟩) rfl dX12_tellQuery_227 ?_
                          refine g_aload_n hk dX12_tellQuery_228 rfl ?_
                          refine g_dup hk dX12_tellQuery_229 rfl ?_
                          refine gM_i17 (v := (I 17)) hk hin12 (List.mem_cons_of_mem _ (List.mem_append_left _ (List.mem_of_getElem? (i := 8) rfl))) dX12_tellQuery_230 ((hI25871 17 rfl).trans ((hI25558 17 rfl).trans ((hI21442 17 rfl).trans (hI21428 17 rfl)))) ?_
                          refine g_iconst (v := 1) hk dX12_tellQuery_233 (by decide) ?_
                          refine g_iadd hk dX12_tellQuery_234 ?_
                          refine g_topi (fun y25886 ey25886 => ?_)
                          replace hF := FE.lt hF ey25886
                          have hy25886 : y25886.toInt = (I 17).toInt + 1 := i32_add ey25886 rfl rfl (by omega) (by omega)
                          refine pM_i17 hk hin12 (List.mem_cons_of_mem _ (List.mem_append_left _ (List.mem_of_getElem? (i := 8) rfl))) dX12_tellQuery_235 ?_
                          refine g_aload_n hk dX12_tellQuery_238 rfl ?_
                          refine gM_r0_28 hk hin12 (List.mem_cons_of_mem _ (List.mem_append_left _ (List.mem_of_getElem? (i := 2) rfl))) dX12_tellQuery_239 ?_
                          refine g_aload_n hk dX12_tellQuery_242 rfl ?_
                          refine gM_i16 (v := (I 16)) hk hin12 (List.mem_cons_of_mem _ (List.mem_append_left _ (List.mem_of_getElem? (i := 1) rfl))) dX12_tellQuery_243 ((hI25871 16 rfl).trans ((hI25558 16 rfl).trans ((hI21442 16 rfl).trans (hI21428 16 rfl)))) ?_
                          by_cases c25887 : (I 16).toInt = 1
                          · have ec25887 : (I 16) = 1 := Int32.toInt_inj.mp c25887
                            replace hF := FE.pos hF c25887
                            rw [ec25887]
                            show GW κ 4 0 0 (wM r g (upd (upd I25871 11 (-2)) 17 y25886) A25871 (up3L L25871 7 ((I 17).toNatClampNeg) y25885)) 246 [(3, .int x21438), (2, .int (I 4)), (1, .int y21424), (0, .ref (r 0))] [.int 1, .ref (r 11)]
                            refine g_dup2 hk dX12_tellQuery_246 rfl rfl ?_
                            refine lM_10 (v := (A 10 1)) hk (vp_in_iff.mpr ⟨by decide, by decide⟩) ((congrFun (hA25871 10 rfl) _).trans ((congrFun (hA25558 10 rfl) _).trans ((congrFun (hA21442 10 rfl) _).trans (congrFun (hA21428 10 rfl) _)))) dX12_tellQuery_247 ?_
                            refine g_iconst (v := 1) hk dX12_tellQuery_248 (by decide) ?_
                            refine g_iadd hk dX12_tellQuery_249 ?_
                            refine g_topi (fun y25888 ey25888 => ?_)
                            replace hF := FE.lt hF ey25888
                            have hy25888 : y25888.toInt = (A 10 1).toInt + 1 := i32_add ey25888 rfl rfl (by omega) (by omega)
                            refine sM_10 (j := 1) hk (vp_in_iff.mpr ⟨by decide, by decide⟩) (by decide) dX12_tellQuery_250 ?_
                            have f25889 := IvM_s10_0 hV25871
                            have f25890 := IvM_s10_1 hV25871
                            have g25891 : (I25871 15).toInt = (I 15).toInt := by rw [show (I25871 15) = (I 15) from ((hI25871 15 rfl).trans ((hI25558 15 rfl).trans ((hI21442 15 rfl).trans (hI21428 15 rfl))))]
                            have g25892 := IvM_s10_0 (I := I25871) (A := A25871) hV25871
                            have g25893 := IvM_s10_1 (I := I25871) (A := A25871) hV25871
                            have g25894 : (I25871 8).toInt = (I25558 8).toInt := by rw [show (I25871 8) = (I25558 8) from (hI25871 8 rfl)]
                            have q25895 := cl_int (y := y21424) (by omega)
                            have g25896 : (A25871 11 y21424.toNatClampNeg).toInt = (A25558 11 y21424.toNatClampNeg).toInt := by rw [show (A25871 11 y21424.toNatClampNeg) = (A25558 11 y21424.toNatClampNeg) from (congrFun (hA25871 11 rfl) _)]
                            have u25897 : 0 < (I21428 6).toInt ∨ ((I 6).toInt = 0 ∧ (A 2 (I 4).toNatClampNeg).toInt = (1 : Int32).toInt) := r21433
                            have u25898 : 0 < (I25871 6).toInt ∨ ((I25558 6).toInt = 0 ∧ (A 2 (I25558 4).toNatClampNeg).toInt = (4 : Int32).toInt) := r25876
                            exact g_vret hk hR ⟨(upd (upd I25871 11 (-2)) 17 y25886), (up3 A25871 10 1 y25888), (up3L L25871 7 ((I 17).toNatClampNeg) y25885), (show Md [4, 6, 7, 8, 9, 11, 12, 13, 17] I (upd (upd I25871 11 (-2)) 17 y25886) from (Md.up (Md.up (Md.tr (Md.tr (Md.tr (Md.tr (Md.up Md.rf rfl) hI21428 rfl) hI21442 rfl) hI25558 rfl) hI25871 rfl) rfl) rfl)), (show Md [10, 11, 12] A (up3 A25871 10 1 y25888) from (Md.up3 (Md.tr (Md.tr (Md.up3 (Md.tr (Md.tr Md.rf hA21428 rfl) hA21442 rfl) rfl) hA25558 rfl) hA25871 rfl) rfl)), ⟨(IvM_f1 (I := I25871) (A := A25871) hV25871), (IvM_f2 (I := I25871) (A := A25871) hV25871), (IvM_f3 (I := I25871) (A := A25871) hV25871), (IvM_f4 (I := I25871) (A := A25871) hV25871), (IvM_f6 (I := I25871) (A := A25871) hV25871), (IvM_f8 (I := I25871) (A := A25871) hV25871), (IvM_f15 (I := I25871) (A := A25871) hV25871), (IvM_f16 (I := I25871) (A := A25871) hV25871), (show 0 ≤ y25886.toInt ∧ y25886.toInt ≤ 5 from ⟨by omega, by omega⟩), (IvM_f18 (I := I25871) (A := A25871) hV25871), (IvM_f22 (I := I25871) (A := A25871) hV25871), (IvM_f23 (I := I25871) (A := A25871) hV25871), (IvM_f24 (I := I25871) (A := A25871) hV25871), (IvM_a11 (I := I25871) (A := A25871) hV25871), (IvM_a26 (I := I25871) (A := A25871) hV25871), (IvM_s8_0 (I := I25871) (A := A25871) hV25871), (IvM_s8_1 (I := I25871) (A := A25871) hV25871), (show 0 ≤ ((up3 A25871 10 1 y25888) 10 0).toInt ∧ ((up3 A25871 10 1 y25888) 10 0).toInt ≤ 5 from by rw [show (up3 A25871 10 1 y25888) 10 0 = (A25871 10 0) from rfl]; exact (IvM_s10_0 (I := I25871) (A := A25871) hV25871)), (show 0 ≤ ((up3 A25871 10 1 y25888) 10 1).toInt ∧ ((up3 A25871 10 1 y25888) 10 1).toInt ≤ 5 from by rw [show (up3 A25871 10 1 y25888) 10 1 = y25888 from rfl]; exact ⟨by omega, by omega⟩), (IvM_s17_0 (I := I25871) (A := A25871) hV25871), (IvM_s17_164 (I := I25871) (A := A25871) hV25871), ⟨fun e => by have e : (I25871 15).toInt = 0 := e; first | exact (IvM_lv (I := I25871) (A := A25871) hV25871).1 e | (exfalso; omega), fun e => by have e : (I25871 15).toInt = 1 := e; first | exact (IvM_lv (I := I25871) (A := A25871) hV25871).2 e | (exfalso; omega)⟩, (by first | (exfalso; omega) | (by_cases g8 : (I25871 8).toInt ≠ 0; exact Or.inr (Or.inl g8); rcases (IvM_sd (I := I25871) (A := A25871) hV25871) with h9 | h9 | h9; exact absurd h9 (by omega); exact absurd h9 g8; exact Or.inr (Or.inr ⟨fun e => by have e : (I25871 16).toInt = 0 := e; first | exact ghf_add (n := (A25871 10 0)) (f := (A25871 11)) (n2 := y25888) (p := y21424.toNatClampNeg) (h9.1 e) (by omega) (by omega) (by omega) | (exfalso; omega), fun e => by have e : (I25871 16).toInt = 1 := e; first | exact ghf_add (n := (A25871 10 1)) (f := (A25871 11)) (n2 := y25888) (p := y21424.toNatClampNeg) (h9.2 e) (by omega) (by omega) (by omega) | (exfalso; omega)⟩))), ⟨fun e => by have e : (I25871 16).toInt = 0 := e; first | (exfalso; omega) | (show y25886.toInt = (A25871 10 0).toInt; omega), fun e => by have e : (I25871 16).toInt = 1 := e; first | (exfalso; omega) | (show y25886.toInt = y25888.toInt; omega)⟩, (IvM_hr (I := I25871) (A := A25871) hV25871), (IvM_hh (I := I25871) (A := A25871) hV25871), trivial⟩, (by rw [show ((upd (upd I25871 11 (-2)) 17 y25886) 4) = (I25871 4) from rfl] <;> omega), (by rw [show ((upd (upd I25871 11 (-2)) 17 y25886) 6) = (I25871 6) from rfl] <;> omega), (by rw [show ((upd (upd I25871 11 (-2)) 17 y25886) 8) = (I25558 8) from (hI25871 8 rfl)] <;> omega), hF, rfl, rfl⟩ dX12_tellQuery_251
                          replace hF := FE.neg hF c25887
                          exfalso; omega
                        · skip
                          replace hF := FE.neg hF c25879
                          exact g_vret hk hR ⟨I25871, A25871, L25871, (show Md [4, 6, 7, 8, 9, 11, 12, 13, 17] I I25871 from (Md.tr (Md.tr (Md.tr (Md.tr (Md.up Md.rf rfl) hI21428 rfl) hI21442 rfl) hI25558 rfl) hI25871 rfl)), (show Md [10, 11, 12] A A25871 from (Md.tr (Md.tr (Md.up3 (Md.tr (Md.tr Md.rf hA21428 rfl) hA21442 rfl) rfl) hA25558 rfl) hA25871 rfl)), hV25871, (by omega), (by omega), (by rw [show (I25871 8) = (I25558 8) from (hI25871 8 rfl)] <;> omega), hF, rfl, rfl⟩ dX12_tellQuery_206
                      · skip
                        replace hF := FE.neg hF c25869
                        refine g_aload_n hk dX12_tellQuery_184 rfl ?_
                        refine g_bipush (v := 6) hk dX12_tellQuery_185 (by decide) ?_
                        refine g_aload_n hk dX12_tellQuery_187 rfl ?_
                        refine gM_i4 (v := (I25558 4)) hk hin12 (List.mem_cons_of_mem _ (List.mem_append_left _ (List.mem_of_getElem? (i := 3) rfl))) dX12_tellQuery_188 rfl ?_
                        have k25899 : (6 : Int32).toInt = 6 := rfl
                        refine g_callV (n := 2) hk (j134_X12_wrong l D zt r g I25558 A25558 L25558 6 (I25558 4) hV25558 (by decide) (by decide) (by omega) (by omega)) (SP.same _) (fun _ h => h) (gi_V (List.mem_cons_of_mem _ (List.mem_append_left _ (List.mem_of_getElem? (i := 19) rfl))) (List.mem_cons_of_mem _ (List.mem_append_left _ (List.mem_of_getElem? (i := 20) rfl))) (List.mem_cons_of_mem _ (List.mem_append_left _ (List.mem_of_getElem? (i := 21) rfl))) (List.mem_cons_of_mem _ (List.mem_append_left _ (List.mem_of_getElem? (i := 7) rfl))) (gi_sub (fun w h => (List.mem_cons_of_mem _ (List.mem_append_right _ (List.mem_append_right _ (List.mem_append_right _ (List.mem_append_right _ (List.mem_append_right _ (List.mem_append_left _ h)))))))) zg_j134_X12_wrong)) rfl rfl rfl (by decide +kernel) ⟨Nat.le_of_ble_eq_true rfl, Nat.le_of_ble_eq_true rfl⟩ 0 rfl rfl rfl rfl (Nat.le_of_ble_eq_true rfl) ⟨Nat.le_of_ble_eq_true rfl, Nat.le_of_ble_eq_true rfl⟩ dX12_tellQuery_191 (fun v ty' w' hp hk' => ?_)
                        obtain ⟨I25901, A25901, L25901, hI25901, hA25901, hV25901, r25902, r25903, r25904, hL25901, hC, rfl, rfl⟩ := hp
                        replace hF := FE.bdM hF hC
                        rw [show (I25901 6) = (I25558 6) from (hI25901 6 rfl)] at r25902
                        have f25905 := IvM_f8 hV25901
                        rw [show (I25901 6) = (I25558 6) from (hI25901 6 rfl)] at r25904
                        show GW κ 4 0 0 (wM r g I25901 A25901 L25901) 194 [(3, .int x21438), (2, .int (I 4)), (1, .int y21424), (0, .ref (r 0))] []
                        refine g_aload_n hk dX12_tellQuery_194 rfl ?_
                        refine g_iconst (v := 4) hk dX12_tellQuery_195 (by decide) ?_
                        refine g_callV (n := 1) hk (j131_X12_must l D zt r g I25901 A25901 L25901 4 hV25901) (SP.same _) (fun _ h => h) (gi_V (List.mem_cons_of_mem _ (List.mem_append_left _ (List.mem_of_getElem? (i := 4) rfl))) (List.mem_cons_of_mem _ (List.mem_append_left _ (List.mem_of_getElem? (i := 5) rfl))) (List.mem_cons_of_mem _ (List.mem_append_left _ (List.mem_of_getElem? (i := 6) rfl))) (List.mem_cons_of_mem _ (List.mem_append_left _ (List.mem_of_getElem? (i := 7) rfl))) (gi_sub (fun w h => (List.mem_cons_of_mem _ (List.mem_append_right _ (List.mem_append_right _ (List.mem_append_left _ h))))) zg_j131_X12_must)) rfl rfl rfl (by decide +kernel) ⟨Nat.le_of_ble_eq_true rfl, Nat.le_of_ble_eq_true rfl⟩ 0 rfl rfl rfl rfl (Nat.le_of_ble_eq_true rfl) ⟨Nat.le_of_ble_eq_true rfl, Nat.le_of_ble_eq_true rfl⟩ dX12_tellQuery_196 (fun v ty' w' hp hk' => ?_)
                        obtain ⟨I25907, A25907, L25907, hI25907, hA25907, hV25907, r25908, r25909, r25910, r25911, r25912, hL25907, hC, rfl, rfl⟩ := hp
                        replace hF := FE.bdM hF hC
                        have f25913 := IvM_f4 hV25907
                        rw [show (I25901 4) = (I25558 4) from (hI25901 4 rfl)] at r25908
                        have f25914 := IvM_f6 hV25907
                        rw [show (I25901 6) = (I25558 6) from (hI25901 6 rfl)] at r25909
                        rw [show (I25907 8) = (I25901 8) from (hI25907 8 rfl)] at r25910
                        rw [show (I25901 4) = (I25558 4) from (hI25901 4 rfl)] at r25911
                        rw [show (I25901 6) = (I25558 6) from (hI25901 6 rfl), show (A25901 2 (I25901 4).toNatClampNeg) = (A 2 (I25558 4).toNatClampNeg) from (by rw [show I25901 4 = (I25558 4) from (hI25901 4 rfl)]; exact ((congrFun (hA25901 2 rfl) _).trans ((congrFun (hA25558 2 rfl) _).trans ((congrFun (hA21442 2 rfl) _).trans (congrFun (hA21428 2 rfl) _)))))] at r25912
                        show GW κ 4 0 0 (wM r g I25907 A25907 L25907) 199 [(3, .int x21438), (2, .int (I 4)), (1, .int y21424), (0, .ref (r 0))] []
                        refine g_aload_n hk dX12_tellQuery_199 rfl ?_
                        refine gM_i6 (v := (I25907 6)) hk hin12 (List.mem_cons_of_mem _ (List.mem_append_left _ (List.mem_of_getElem? (i := 16) rfl))) dX12_tellQuery_200 rfl ?_
                        refine g_if_le (tgt := 207) (a := (I25907 6).toInt) hk dX12_tellQuery_203 (by decide) rfl (fun c25915 => ?_) (fun c25915 => ?_)
                        · skip
                          replace hF := FE.pos hF c25915
                          refine g_aload_n hk dX12_tellQuery_207 rfl ?_
                          refine g_bipush (v := (-2)) hk dX12_tellQuery_208 (by decide) ?_
                          refine pM_i11 hk hin12 (List.mem_cons_of_mem _ (List.mem_append_left _ (List.mem_of_getElem? (i := 0) rfl))) dX12_tellQuery_210 ?_
                          refine g_aload_n hk dX12_tellQuery_213 rfl ?_
                          refine gM_r0_25 hk hin12 (List.mem_cons_of_mem _ (List.mem_append_left _ (List.mem_of_getElem? (i := 17) rfl))) dX12_tellQuery_214 ?_
                          refine g_aload_n hk dX12_tellQuery_217 rfl ?_
                          refine gM_i17 (v := (I 17)) hk hin12 (List.mem_cons_of_mem _ (List.mem_append_left _ (List.mem_of_getElem? (i := 8) rfl))) dX12_tellQuery_218 ((hI25907 17 rfl).trans ((hI25901 17 rfl).trans ((hI25558 17 rfl).trans ((hI21442 17 rfl).trans (hI21428 17 rfl))))) ?_
                          have g25916 : (I25907 16).toInt = (I 16).toInt := by rw [show (I25907 16) = (I 16) from ((hI25907 16 rfl).trans ((hI25901 16 rfl).trans ((hI25558 16 rfl).trans ((hI21442 16 rfl).trans (hI21428 16 rfl)))))]
                          have g25917 : (I25907 17).toInt = (I 17).toInt := by rw [show (I25907 17) = (I 17) from ((hI25907 17 rfl).trans ((hI25901 17 rfl).trans ((hI25558 17 rfl).trans ((hI21442 17 rfl).trans (hI21428 17 rfl)))))]
                          have g25918 : (A25907 10 0).toInt = (A 10 0).toInt := by rw [show (A25907 10 0) = (A 10 0) from ((congrFun (hA25907 10 rfl) _).trans ((congrFun (hA25901 10 rfl) _).trans ((congrFun (hA25558 10 rfl) _).trans ((congrFun (hA21442 10 rfl) _).trans (congrFun (hA21428 10 rfl) _)))))]
                          have g25919 : (A25907 10 1).toInt = (A 10 1).toInt := by rw [show (A25907 10 1) = (A 10 1) from ((congrFun (hA25907 10 rfl) _).trans ((congrFun (hA25901 10 rfl) _).trans ((congrFun (hA25558 10 rfl) _).trans ((congrFun (hA21442 10 rfl) _).trans (congrFun (hA21428 10 rfl) _)))))]
                          have g25920 := (IvM_nq (I := I25907) (A := A25907) hV25907).2 (by omega)
                          refine g_aload_n hk dX12_tellQuery_221 rfl ?_
                          refine gM_r0_8 hk hin12 (List.mem_cons_of_mem _ (List.mem_append_left _ (List.mem_of_getElem? (i := 18) rfl))) dX12_tellQuery_222 ?_
                          refine g_iload_n hk dX12_tellQuery_225 rfl ?_
                          refine lM_5 hk (vp_in_iff.mpr ⟨by omega, by omega⟩) rfl dX12_tellQuery_226 ?_
                          refine g_topl (fun y25921 ey25921 => ?_)
                          replace hF := FE.lt hF ey25921
                          refine sM_7 (j := (I 17).toNatClampNeg) hk (vp_in_iff.mpr ⟨by omega, by omega⟩) rfl dX12_tellQuery_227 ?_
                          refine g_aload_n hk dX12_tellQuery_228 rfl ?_
                          refine g_dup hk dX12_tellQuery_229 rfl ?_
                          refine gM_i17 (v := (I 17)) hk hin12 (List.mem_cons_of_mem _ (List.mem_append_left _ (List.mem_of_getElem? (i := 8) rfl))) dX12_tellQuery_230 ((hI25907 17 rfl).trans ((hI25901 17 rfl).trans ((hI25558 17 rfl).trans ((hI21442 17 rfl).trans (hI21428 17 rfl))))) ?_
                          refine g_iconst (v := 1) hk dX12_tellQuery_233 (by decide) ?_
                          refine g_iadd hk dX12_tellQuery_234 ?_
                          refine g_topi (fun y25922 ey25922 => ?_)
                          replace hF := FE.lt hF ey25922
                          have hy25922 : y25922.toInt = (I 17).toInt + 1 := i32_add ey25922 rfl rfl (by omega) (by omega)
                          refine pM_i17 hk hin12 (List.mem_cons_of_mem _ (List.mem_append_left _ (List.mem_of_getElem? (i := 8) rfl))) dX12_tellQuery_235 ?_
                          refine g_aload_n hk dX12_tellQuery_238 rfl ?_
                          refine gM_r0_28 hk hin12 (List.mem_cons_of_mem _ (List.mem_append_left _ (List.mem_of_getElem? (i := 2) rfl))) dX12_tellQuery_239 ?_
                          refine g_aload_n hk dX12_tellQuery_242 rfl ?_
                          refine gM_i16 (v := (I 16)) hk hin12 (List.mem_cons_of_mem _ (List.mem_append_left _ (List.mem_of_getElem? (i := 1) rfl))) dX12_tellQuery_243 ((hI25907 16 rfl).trans ((hI25901 16 rfl).trans ((hI25558 16 rfl).trans ((hI21442 16 rfl).trans (hI21428 16 rfl))))) ?_
                          by_cases c25923 : (I 16).toInt = 1
                          · have ec25923 : (I 16) = 1 := Int32.toInt_inj.mp c25923
                            replace hF := FE.pos hF c25923
                            rw [ec25923]
                            show GW κ 4 0 0 (wM r g (upd (upd I25907 11 (-2)) 17 y25922) A25907 (up3L L25907 7 ((I 17).toNatClampNeg) y25921)) 246 [(3, .int x21438), (2, .int (I 4)), (1, .int y21424), (0, .ref (r 0))] [.int 1, .ref (r 11)]
                            refine g_dup2 hk dX12_tellQuery_246 rfl rfl ?_
                            refine lM_10 (v := (A 10 1)) hk (vp_in_iff.mpr ⟨by decide, by decide⟩) ((congrFun (hA25907 10 rfl) _).trans ((congrFun (hA25901 10 rfl) _).trans ((congrFun (hA25558 10 rfl) _).trans ((congrFun (hA21442 10 rfl) _).trans (congrFun (hA21428 10 rfl) _))))) dX12_tellQuery_247 ?_
                            refine g_iconst (v := 1) hk dX12_tellQuery_248 (by decide) ?_
                            refine g_iadd hk dX12_tellQuery_249 ?_
                            refine g_topi (fun y25924 ey25924 => ?_)
                            replace hF := FE.lt hF ey25924
                            have hy25924 : y25924.toInt = (A 10 1).toInt + 1 := i32_add ey25924 rfl rfl (by omega) (by omega)
                            refine sM_10 (j := 1) hk (vp_in_iff.mpr ⟨by decide, by decide⟩) (by decide) dX12_tellQuery_250 ?_
                            have f25925 := IvM_s10_0 hV25907
                            have f25926 := IvM_s10_1 hV25907
                            have g25927 : (I25907 15).toInt = (I 15).toInt := by rw [show (I25907 15) = (I 15) from ((hI25907 15 rfl).trans ((hI25901 15 rfl).trans ((hI25558 15 rfl).trans ((hI21442 15 rfl).trans (hI21428 15 rfl)))))]
                            have g25928 := IvM_s10_0 (I := I25907) (A := A25907) hV25907
                            have g25929 := IvM_s10_1 (I := I25907) (A := A25907) hV25907
                            have g25930 : (I25907 8).toInt = (I25901 8).toInt := by rw [show (I25907 8) = (I25901 8) from (hI25907 8 rfl)]
                            have q25931 := cl_int (y := y21424) (by omega)
                            have g25932 : (A25907 11 y21424.toNatClampNeg).toInt = (A25558 11 y21424.toNatClampNeg).toInt := by rw [show (A25907 11 y21424.toNatClampNeg) = (A25558 11 y21424.toNatClampNeg) from ((congrFun (hA25907 11 rfl) _).trans (congrFun (hA25901 11 rfl) _))]
                            have u25933 : 0 < (I21428 6).toInt ∨ ((I 6).toInt = 0 ∧ (A 2 (I 4).toNatClampNeg).toInt = (1 : Int32).toInt) := r21433
                            have u25934 : 0 < (I25907 6).toInt ∨ ((I25558 6).toInt = 0 ∧ (A 2 (I25558 4).toNatClampNeg).toInt = (4 : Int32).toInt) := r25912
                            exact g_vret hk hR ⟨(upd (upd I25907 11 (-2)) 17 y25922), (up3 A25907 10 1 y25924), (up3L L25907 7 ((I 17).toNatClampNeg) y25921), (show Md [4, 6, 7, 8, 9, 11, 12, 13, 17] I (upd (upd I25907 11 (-2)) 17 y25922) from (Md.up (Md.up (Md.tr (Md.tr (Md.tr (Md.tr (Md.tr (Md.up Md.rf rfl) hI21428 rfl) hI21442 rfl) hI25558 rfl) hI25901 rfl) hI25907 rfl) rfl) rfl)), (show Md [10, 11, 12] A (up3 A25907 10 1 y25924) from (Md.up3 (Md.tr (Md.tr (Md.tr (Md.up3 (Md.tr (Md.tr Md.rf hA21428 rfl) hA21442 rfl) rfl) hA25558 rfl) hA25901 rfl) hA25907 rfl) rfl)), ⟨(IvM_f1 (I := I25907) (A := A25907) hV25907), (IvM_f2 (I := I25907) (A := A25907) hV25907), (IvM_f3 (I := I25907) (A := A25907) hV25907), (IvM_f4 (I := I25907) (A := A25907) hV25907), (IvM_f6 (I := I25907) (A := A25907) hV25907), (IvM_f8 (I := I25907) (A := A25907) hV25907), (IvM_f15 (I := I25907) (A := A25907) hV25907), (IvM_f16 (I := I25907) (A := A25907) hV25907), (show 0 ≤ y25922.toInt ∧ y25922.toInt ≤ 5 from ⟨by omega, by omega⟩), (IvM_f18 (I := I25907) (A := A25907) hV25907), (IvM_f22 (I := I25907) (A := A25907) hV25907), (IvM_f23 (I := I25907) (A := A25907) hV25907), (IvM_f24 (I := I25907) (A := A25907) hV25907), (IvM_a11 (I := I25907) (A := A25907) hV25907), (IvM_a26 (I := I25907) (A := A25907) hV25907), (IvM_s8_0 (I := I25907) (A := A25907) hV25907), (IvM_s8_1 (I := I25907) (A := A25907) hV25907), (show 0 ≤ ((up3 A25907 10 1 y25924) 10 0).toInt ∧ ((up3 A25907 10 1 y25924) 10 0).toInt ≤ 5 from by rw [show (up3 A25907 10 1 y25924) 10 0 = (A25907 10 0) from rfl]; exact (IvM_s10_0 (I := I25907) (A := A25907) hV25907)), (show 0 ≤ ((up3 A25907 10 1 y25924) 10 1).toInt ∧ ((up3 A25907 10 1 y25924) 10 1).toInt ≤ 5 from by rw [show (up3 A25907 10 1 y25924) 10 1 = y25924 from rfl]; exact ⟨by omega, by omega⟩), (IvM_s17_0 (I := I25907) (A := A25907) hV25907), (IvM_s17_164 (I := I25907) (A := A25907) hV25907), ⟨fun e => by have e : (I25907 15).toInt = 0 := e; first | exact (IvM_lv (I := I25907) (A := A25907) hV25907).1 e | (exfalso; omega), fun e => by have e : (I25907 15).toInt = 1 := e; first | exact (IvM_lv (I := I25907) (A := A25907) hV25907).2 e | (exfalso; omega)⟩, (by first | (exfalso; omega) | (by_cases g8 : (I25907 8).toInt ≠ 0; exact Or.inr (Or.inl g8); rcases (IvM_sd (I := I25907) (A := A25907) hV25907) with h9 | h9 | h9; exact absurd h9 (by omega); exact absurd h9 g8; exact Or.inr (Or.inr ⟨fun e => by have e : (I25907 16).toInt = 0 := e; first | exact ghf_add (n := (A25907 10 0)) (f := (A25907 11)) (n2 := y25924) (p := y21424.toNatClampNeg) (h9.1 e) (by omega) (by omega) (by omega) | (exfalso; omega), fun e => by have e : (I25907 16).toInt = 1 := e; first | exact ghf_add (n := (A25907 10 1)) (f := (A25907 11)) (n2 := y25924) (p := y21424.toNatClampNeg) (h9.2 e) (by omega) (by omega) (by omega) | (exfalso; omega)⟩))), ⟨fun e => by have e : (I25907 16).toInt = 0 := e; first | (exfalso; omega) | (show y25922.toInt = (A25907 10 0).toInt; omega), fun e => by have e : (I25907 16).toInt = 1 := e; first | (exfalso; omega) | (show y25922.toInt = y25924.toInt; omega)⟩, (IvM_hr (I := I25907) (A := A25907) hV25907), (IvM_hh (I := I25907) (A := A25907) hV25907), trivial⟩, (by rw [show ((upd (upd I25907 11 (-2)) 17 y25922) 4) = (I25907 4) from rfl] <;> omega), (by rw [show ((upd (upd I25907 11 (-2)) 17 y25922) 6) = (I25907 6) from rfl] <;> omega), (by rw [show ((upd (upd I25907 11 (-2)) 17 y25922) 8) = (I25901 8) from (hI25907 8 rfl)] <;> omega), hF, rfl, rfl⟩ dX12_tellQuery_251
                          replace hF := FE.neg hF c25923
                          exfalso; omega
                        · skip
                          replace hF := FE.neg hF c25915
                          exact g_vret hk hR ⟨I25907, A25907, L25907, (show Md [4, 6, 7, 8, 9, 11, 12, 13, 17] I I25907 from (Md.tr (Md.tr (Md.tr (Md.tr (Md.tr (Md.up Md.rf rfl) hI21428 rfl) hI21442 rfl) hI25558 rfl) hI25901 rfl) hI25907 rfl)), (show Md [10, 11, 12] A A25907 from (Md.tr (Md.tr (Md.tr (Md.up3 (Md.tr (Md.tr Md.rf hA21428 rfl) hA21442 rfl) rfl) hA25558 rfl) hA25901 rfl) hA25907 rfl)), hV25907, (by omega), (by omega), (by rw [show (I25907 8) = (I25901 8) from (hI25907 8 rfl)] <;> omega), hF, rfl, rfl⟩ dX12_tellQuery_206
                  · skip
                    replace hF := FE.neg hF (fe_ne hC (by decide))
                    show GW κ 4 0 0 (wM r g I25558 A25558 L25558) 88 [(3, .int x21438), (2, .int (I 4)), (1, .int y21424), (0, .ref (r 0))] [.int 1]
                    refine g_if_eq (tgt := 166) (a := 1) hk dX12_tellQuery_88 (by decide) rfl (fun z9 => absurd z9 (show ¬ ((1 : Int) = (0 : Int)) from by decide)) (fun _ => ?_)
                    refine g_aload_n hk dX12_tellQuery_91 rfl ?_
                    refine gM_r0_29 hk hin12 (List.mem_cons_of_mem _ (List.mem_append_left _ (List.mem_of_getElem? (i := 9) rfl))) dX12_tellQuery_92 ?_
                    refine g_iload_n hk dX12_tellQuery_95 rfl ?_
                    refine lM_11 (v := (A25558 11 y21424.toNatClampNeg)) hk (vp_in_iff.mpr ⟨by omega, by omega⟩) rfl dX12_tellQuery_96 ?_
                    have f25935 := IvM_a11 hV25558 (y21424.toNatClampNeg)
                    refine g_bipush (v := 16) hk dX12_tellQuery_97 (by decide) ?_
                    refine g_icmp_ne (tgt := 107) (a := (A25558 11 y21424.toNatClampNeg).toInt) (b := 16) hk dX12_tellQuery_99 (by decide) rfl rfl (fun c25936 => ?_) (fun c25936 => ?_)
                    · skip
                      replace hF := FE.pos hF c25936
                      refine g_aload_n hk dX12_tellQuery_107 rfl ?_
                      refine gM_i6 (v := (I25558 6)) hk hin12 (List.mem_cons_of_mem _ (List.mem_append_left _ (List.mem_of_getElem? (i := 16) rfl))) dX12_tellQuery_108 rfl ?_
                      refine g_if_le (tgt := 115) (a := (I25558 6).toInt) hk dX12_tellQuery_111 (by decide) rfl (fun c25937 => ?_) (fun c25937 => ?_)
                      · skip
                        replace hF := FE.pos hF c25937
                        refine g_aload_n hk dX12_tellQuery_115 rfl ?_
                        refine gM_r0_30 hk hin12 (List.mem_cons_of_mem _ (List.mem_append_left _ (List.mem_of_getElem? (i := 22) rfl))) dX12_tellQuery_116 ?_
                        refine g_bipush (v := 16) hk dX12_tellQuery_119 (by decide) ?_
                        refine g_iload_n hk dX12_tellQuery_121 rfl ?_
                        refine g_imul hk dX12_tellQuery_122 ?_
                        refine g_topi (fun y25938 ey25938 => ?_)
                        replace hF := FE.lt hF ey25938
                        have hy25938 : y25938.toInt = 16 * y21424.toInt := i32_mul ey25938 rfl rfl (by omega) (by omega)
                        refine g_aload_n hk dX12_tellQuery_123 rfl ?_
                        refine gM_r0_29 hk hin12 (List.mem_cons_of_mem _ (List.mem_append_left _ (List.mem_of_getElem? (i := 9) rfl))) dX12_tellQuery_124 ?_
                        refine g_iload_n hk dX12_tellQuery_127 rfl ?_
                        refine lM_11 (v := (A25558 11 y21424.toNatClampNeg)) hk (vp_in_iff.mpr ⟨by omega, by omega⟩) rfl dX12_tellQuery_128 ?_
                        refine g_iadd hk dX12_tellQuery_129 ?_
                        refine g_topi (fun y25939 ey25939 => ?_)
                        replace hF := FE.lt hF ey25939
                        have hy25939 : y25939.toInt = y25938.toInt + (A25558 11 y21424.toNatClampNeg).toInt := i32_add ey25939 rfl rfl (by omega) (by omega)
                        refine g_aload_n hk dX12_tellQuery_130 rfl ?_
                        refine g_callV (n := 0) hk (j132_X12_readingTold l D zt r g I25558 A25558 L25558  hV25558) (SP.same _) (fun _ h => h) (gi_V (List.mem_cons_of_mem _ (List.mem_append_left _ (List.mem_of_getElem? (i := 23) rfl))) (List.mem_cons_of_mem _ (List.mem_append_left _ (List.mem_of_getElem? (i := 24) rfl))) (List.mem_cons_of_mem _ (List.mem_append_left _ (List.mem_of_getElem? (i := 25) rfl))) (List.mem_cons_of_mem _ (List.mem_append_left _ (List.mem_of_getElem? (i := 7) rfl))) (gi_sub (fun w h => (List.mem_cons_of_mem _ (List.mem_append_right _ (List.mem_append_right _ (List.mem_append_right _ (List.mem_append_right _ (List.mem_append_right _ (List.mem_append_right _ (List.mem_append_left _ h))))))))) zg_j132_X12_readingTold)) rfl rfl rfl (by decide +kernel) ⟨Nat.le_of_ble_eq_true rfl, Nat.le_of_ble_eq_true rfl⟩ 0 rfl rfl rfl rfl (Nat.le_of_ble_eq_true rfl) ⟨Nat.le_of_ble_eq_true rfl, Nat.le_of_ble_eq_true rfl⟩ dX12_tellQuery_131 (fun v ty' w' hp hk' => ?_)
                        obtain ⟨I25941, A25941, L25941, hI25941, hA25941, hV25941, y25940, r25942, r25943, r25944, r25945, hL25941, hC, rfl, rfl⟩ := hp
                        replace hF := FE.bdM hF hC
                        have f25946 := IvM_f4 hV25941
                        have f25947 := IvM_f6 hV25941
                        have f25948 := IvM_f8 hV25941
                        show GW κ 4 0 0 (wM r g I25941 A25941 L25941) 134 [(3, .int x21438), (2, .int (I 4)), (1, .int y21424), (0, .ref (r 0))] [.int y25940, .int y25939, .ref (r 13)]
                        refine sM_12 (j := y25939.toNatClampNeg) hk (vp_in_iff.mpr ⟨by omega, by omega⟩) rfl dX12_tellQuery_134 ?_
                        refine g_aload_n hk dX12_tellQuery_135 rfl ?_
                        refine gM_i6 (v := (I25941 6)) hk hin12 (List.mem_cons_of_mem _ (List.mem_append_left _ (List.mem_of_getElem? (i := 16) rfl))) dX12_tellQuery_136 rfl ?_
                        refine g_if_le (tgt := 143) (a := (I25941 6).toInt) hk dX12_tellQuery_139 (by decide) rfl (fun c25949 => ?_) (fun c25949 => ?_)
                        · skip
                          replace hF := FE.pos hF c25949
                          refine g_aload_n hk dX12_tellQuery_143 rfl ?_
                          refine gM_r0_29 hk hin12 (List.mem_cons_of_mem _ (List.mem_append_left _ (List.mem_of_getElem? (i := 9) rfl))) dX12_tellQuery_144 ?_
                          refine g_iload_n hk dX12_tellQuery_147 rfl ?_
                          refine g_dup2 hk dX12_tellQuery_148 rfl rfl ?_
                          refine lM_11 (v := (A25558 11 y21424.toNatClampNeg)) hk (vp_in_iff.mpr ⟨by omega, by omega⟩) (congrFun (hA25941 11 rfl) _) dX12_tellQuery_149 ?_
                          refine g_iconst (v := 1) hk dX12_tellQuery_150 (by decide) ?_
                          refine g_iadd hk dX12_tellQuery_151 ?_
                          refine g_topi (fun y25950 ey25950 => ?_)
                          replace hF := FE.lt hF ey25950
                          have hy25950 : y25950.toInt = (A25558 11 y21424.toNatClampNeg).toInt + 1 := i32_add ey25950 rfl rfl (by omega) (by omega)
                          refine sM_11 (j := y21424.toNatClampNeg) hk (vp_in_iff.mpr ⟨by omega, by omega⟩) rfl dX12_tellQuery_152 ?_
                          have hA25951 : ∀ j, 0 ≤ ((up3 (up3 A25941 12 (y25939.toNatClampNeg) y25940) 11 (y21424.toNatClampNeg) y25950) 11 j).toInt ∧ ((up3 (up3 A25941 12 (y25939.toNatClampNeg) y25940) 11 (y21424.toNatClampNeg) y25950) 11 j).toInt ≤ 16 := ai_st ((IvM_a11 hV25941)) ⟨by omega, by omega⟩
                          refine g_aload_n hk dX12_tellQuery_153 rfl ?_
                          refine g_dup hk dX12_tellQuery_154 rfl ?_
                          refine gM_i11 (v := (I25558 11)) hk hin12 (List.mem_cons_of_mem _ (List.mem_append_left _ (List.mem_of_getElem? (i := 0) rfl))) dX12_tellQuery_155 (hI25941 11 rfl) ?_
                          refine g_iconst (v := 1) hk dX12_tellQuery_158 (by decide) ?_
                          have b25952l := Int32.le_toInt (I25558 11)
                          have b25952h := Int32.toInt_lt (I25558 11)
                          refine g_iadd hk dX12_tellQuery_159 ?_
                          refine g_topi (fun y25953 ey25953 => ?_)
                          replace hF := FE.lt hF ey25953
                          refine pM_i11 hk hin12 (List.mem_cons_of_mem _ (List.mem_append_left _ (List.mem_of_getElem? (i := 0) rfl))) dX12_tellQuery_160 ?_
                          refine g_goto (tgt := 84) hk dX12_tellQuery_163 (by decide) ?_
                          have g25954 : (I25941 15).toInt = (I 15).toInt := by rw [show (I25941 15) = (I 15) from ((hI25941 15 rfl).trans ((hI25558 15 rfl).trans ((hI21442 15 rfl).trans (hI21428 15 rfl))))]
                          have g25955 : (I25941 16).toInt = (I 16).toInt := by rw [show (I25941 16) = (I 16) from ((hI25941 16 rfl).trans ((hI25558 16 rfl).trans ((hI21442 16 rfl).trans (hI21428 16 rfl))))]
                          have g25956 := IvM_s10_0 (I := I25941) (A := A25941) hV25941
                          have g25957 := IvM_s10_1 (I := I25941) (A := A25941) hV25941
                          have q25958 := cl_int (y := y21424) (by omega)
                          have g25959 : (A25941 10 0).toInt = (A 10 0).toInt := by rw [show (A25941 10 0) = (A 10 0) from ((congrFun (hA25941 10 rfl) _).trans ((congrFun (hA25558 10 rfl) _).trans ((congrFun (hA21442 10 rfl) _).trans (congrFun (hA21428 10 rfl) _))))]
                          have g25960 : (A25941 10 1).toInt = (A 10 1).toInt := by rw [show (A25941 10 1) = (A 10 1) from ((congrFun (hA25941 10 rfl) _).trans ((congrFun (hA25558 10 rfl) _).trans ((congrFun (hA21442 10 rfl) _).trans (congrFun (hA21428 10 rfl) _))))]
                          have q25961 := cl_int (y := y21424) (by omega)
                          exact g_lv (List.forall_mem_cons.mpr ⟨List.mem_of_getElem? (i := 0) rfl, (List.forall_mem_cons.mpr ⟨List.mem_of_getElem? (i := 1) rfl, (List.forall_mem_cons.mpr ⟨List.mem_of_getElem? (i := 2) rfl, (List.forall_mem_cons.mpr ⟨List.mem_of_getElem? (i := 3) rfl, (fun _ h => absurd h List.not_mem_nil)⟩)⟩)⟩)⟩) (ih25828 (upd I25941 11 y25953) (up3 (up3 A25941 12 (y25939.toNatClampNeg) y25940) 11 (y21424.toNatClampNeg) y25950) L25941 (show Md [4, 6, 7, 8, 9, 11, 12, 13] I21442 (upd I25941 11 y25953) from Md.tr hI25558 (show Md [4, 6, 7, 8, 9, 11, 12, 13] I25558 (upd I25941 11 y25953) from (Md.up (Md.tr Md.rf hI25941 rfl) rfl)) rfl) (show Md [11, 12] (up3 A21442 11 (y21424.toNatClampNeg) 0) (up3 (up3 A25941 12 (y25939.toNatClampNeg) y25940) 11 (y21424.toNatClampNeg) y25950) from Md.tr hA25558 (show Md [11, 12] A25558 (up3 (up3 A25941 12 (y25939.toNatClampNeg) y25940) 11 (y21424.toNatClampNeg) y25950) from (Md.up3 (Md.up3 (Md.tr Md.rf hA25941 rfl) rfl) rfl)) rfl) ⟨(IvM_f1 (I := I25941) (A := A25941) hV25941), (IvM_f2 (I := I25941) (A := A25941) hV25941), (IvM_f3 (I := I25941) (A := A25941) hV25941), (IvM_f4 (I := I25941) (A := A25941) hV25941), (IvM_f6 (I := I25941) (A := A25941) hV25941), (IvM_f8 (I := I25941) (A := A25941) hV25941), (IvM_f15 (I := I25941) (A := A25941) hV25941), (IvM_f16 (I := I25941) (A := A25941) hV25941), (IvM_f17 (I := I25941) (A := A25941) hV25941), (IvM_f18 (I := I25941) (A := A25941) hV25941), (IvM_f22 (I := I25941) (A := A25941) hV25941), (IvM_f23 (I := I25941) (A := A25941) hV25941), (IvM_f24 (I := I25941) (A := A25941) hV25941), hA25951, (IvM_a26 (I := I25941) (A := A25941) hV25941), (IvM_s8_0 (I := I25941) (A := A25941) hV25941), (IvM_s8_1 (I := I25941) (A := A25941) hV25941), (IvM_s10_0 (I := I25941) (A := A25941) hV25941), (IvM_s10_1 (I := I25941) (A := A25941) hV25941), (IvM_s17_0 (I := I25941) (A := A25941) hV25941), (IvM_s17_164 (I := I25941) (A := A25941) hV25941), ⟨fun e => by have e : (I25941 15).toInt = 0 := e; first | exact ghf_upd (n := (A25941 10 0)) ((IvM_lv (I := I25941) (A := A25941) hV25941).1 e) (fun q hq => by omega) | (exfalso; omega), fun e => by have e : (I25941 15).toInt = 1 := e; first | exact ghf_upd (n := (A25941 10 1)) ((IvM_lv (I := I25941) (A := A25941) hV25941).2 e) (fun q hq => by omega) | (exfalso; omega)⟩, (by rcases (IvM_sd (I := I25941) (A := A25941) hV25941) with h9 | h9 | h9; exact Or.inl h9; exact Or.inr (Or.inl h9); exact Or.inr (Or.inr ⟨fun e => by have e : (I25941 16).toInt = 0 := e; first | exact ghf_upd (n := (A25941 10 0)) (h9.1 e) (fun q hq => by omega) | (exfalso; omega), fun e => by have e : (I25941 16).toInt = 1 := e; first | exact ghf_upd (n := (A25941 10 1)) (h9.2 e) (fun q hq => by omega) | (exfalso; omega)⟩)), (IvM_nq (I := I25941) (A := A25941) hV25941), (IvM_hr (I := I25941) (A := A25941) hV25941), (IvM_hh (I := I25941) (A := A25941) hV25941), trivial⟩ (show L25941 = L21442 from (hL25941.trans hL25558)) (by first | (rw [show ((upd I25941 11 y25953) 4) = (I25941 4) from rfl] <;> omega) | omega) (by first | (rw [show ((upd I25941 11 y25953) 6) = (I25941 6) from rfl] <;> omega) | omega) (by first | (rw [show ((upd I25941 11 y25953) 8) = (I25941 8) from rfl] <;> omega) | omega) (by first | (rw [show ((upd I25941 11 y25953) 4) = (I25941 4) from rfl] <;> omega) | omega) (by omega) hF)
                        · skip
                          replace hF := FE.neg hF c25949
                          exact g_vret hk hR ⟨I25941, (up3 A25941 12 (y25939.toNatClampNeg) y25940), L25941, (show Md [4, 6, 7, 8, 9, 11, 12, 13, 17] I I25941 from (Md.tr (Md.tr (Md.tr (Md.tr (Md.up Md.rf rfl) hI21428 rfl) hI21442 rfl) hI25558 rfl) hI25941 rfl)), (show Md [10, 11, 12] A (up3 A25941 12 (y25939.toNatClampNeg) y25940) from (Md.up3 (Md.tr (Md.tr (Md.up3 (Md.tr (Md.tr Md.rf hA21428 rfl) hA21442 rfl) rfl) hA25558 rfl) hA25941 rfl) rfl)), ⟨(IvM_f1 (I := I25941) (A := A25941) hV25941), (IvM_f2 (I := I25941) (A := A25941) hV25941), (IvM_f3 (I := I25941) (A := A25941) hV25941), (IvM_f4 (I := I25941) (A := A25941) hV25941), (IvM_f6 (I := I25941) (A := A25941) hV25941), (IvM_f8 (I := I25941) (A := A25941) hV25941), (IvM_f15 (I := I25941) (A := A25941) hV25941), (IvM_f16 (I := I25941) (A := A25941) hV25941), (IvM_f17 (I := I25941) (A := A25941) hV25941), (IvM_f18 (I := I25941) (A := A25941) hV25941), (IvM_f22 (I := I25941) (A := A25941) hV25941), (IvM_f23 (I := I25941) (A := A25941) hV25941), (IvM_f24 (I := I25941) (A := A25941) hV25941), (IvM_a11 (I := I25941) (A := A25941) hV25941), (IvM_a26 (I := I25941) (A := A25941) hV25941), (IvM_s8_0 (I := I25941) (A := A25941) hV25941), (IvM_s8_1 (I := I25941) (A := A25941) hV25941), (IvM_s10_0 (I := I25941) (A := A25941) hV25941), (IvM_s10_1 (I := I25941) (A := A25941) hV25941), (IvM_s17_0 (I := I25941) (A := A25941) hV25941), (IvM_s17_164 (I := I25941) (A := A25941) hV25941), (IvM_lv (I := I25941) (A := A25941) hV25941), (IvM_sd (I := I25941) (A := A25941) hV25941), (IvM_nq (I := I25941) (A := A25941) hV25941), (IvM_hr (I := I25941) (A := A25941) hV25941), (IvM_hh (I := I25941) (A := A25941) hV25941), trivial⟩, (by omega), (by omega), (by omega), hF, rfl, rfl⟩ dX12_tellQuery_142
                      · skip
                        replace hF := FE.neg hF c25937
                        exact g_vret hk hR ⟨I25558, A25558, L25558, (show Md [4, 6, 7, 8, 9, 11, 12, 13, 17] I I25558 from (Md.tr (Md.tr (Md.tr (Md.up Md.rf rfl) hI21428 rfl) hI21442 rfl) hI25558 rfl)), (show Md [10, 11, 12] A A25558 from (Md.tr (Md.up3 (Md.tr (Md.tr Md.rf hA21428 rfl) hA21442 rfl) rfl) hA25558 rfl)), hV25558, (by omega), (by omega), (by omega), hF, rfl, rfl⟩ dX12_tellQuery_114
                    · skip
                      replace hF := FE.neg hF c25936
                      refine g_aload_n hk dX12_tellQuery_102 rfl ?_
                      refine g_iconst (v := 2) hk dX12_tellQuery_103 (by decide) ?_
                      have k25962 : (2 : Int32).toInt = 2 := rfl
                      refine g_callV (n := 1) hk (j128_X12_fail l D zt r g I25558 A25558 L25558 2 hV25558 (by decide) (by decide)) (SP.same _) (fun _ h => h) (gi_V (List.mem_cons_of_mem _ (List.mem_append_left _ (List.mem_of_getElem? (i := 26) rfl))) (List.mem_cons_of_mem _ (List.mem_append_left _ (List.mem_of_getElem? (i := 27) rfl))) (List.mem_cons_of_mem _ (List.mem_append_left _ (List.mem_of_getElem? (i := 28) rfl))) (List.mem_cons_of_mem _ (List.mem_append_left _ (List.mem_of_getElem? (i := 7) rfl))) (gi_sub (fun w h => (List.mem_cons_of_mem _ (List.mem_append_right _ (List.mem_append_right _ (List.mem_append_right _ (List.mem_append_right _ (List.mem_append_right _ (List.mem_append_right _ (List.mem_append_right _ (List.mem_append_left _ h)))))))))) zg_j128_X12_fail)) rfl rfl rfl (by decide +kernel) ⟨Nat.le_of_ble_eq_true rfl, Nat.le_of_ble_eq_true rfl⟩ 0 rfl rfl rfl rfl (Nat.le_of_ble_eq_true rfl) ⟨Nat.le_of_ble_eq_true rfl, Nat.le_of_ble_eq_true rfl⟩ dX12_tellQuery_104 (fun v ty' w' hp hk' => ?_)
                      obtain ⟨I25964, A25964, L25964, hI25964, hA25964, hV25964, r25965, r25966, r25967, hL25964, hC, rfl, rfl⟩ := hp
                      replace hF := FE.bdM hF hC
                      have f25968 := IvM_f6 hV25964
                      rw [show (I25964 8) = (I25558 8) from (hI25964 8 rfl)] at r25966
                      show GW κ 4 0 0 (wM r g I25964 A25964 L25964) 107 [(3, .int x21438), (2, .int (I 4)), (1, .int y21424), (0, .ref (r 0))] []
                      refine g_aload_n hk dX12_tellQuery_107 rfl ?_
                      refine gM_i6 (v := (I25964 6)) hk hin12 (List.mem_cons_of_mem _ (List.mem_append_left _ (List.mem_of_getElem? (i := 16) rfl))) dX12_tellQuery_108 rfl ?_
                      refine g_if_le (tgt := 115) (a := (I25964 6).toInt) hk dX12_tellQuery_111 (by decide) rfl (fun c25969 => ?_) (fun c25969 => ?_)
                      · skip
                        replace hF := FE.pos hF c25969
                        refine g_aload_n hk dX12_tellQuery_115 rfl ?_
                        refine gM_r0_30 hk hin12 (List.mem_cons_of_mem _ (List.mem_append_left _ (List.mem_of_getElem? (i := 22) rfl))) dX12_tellQuery_116 ?_
                        refine g_bipush (v := 16) hk dX12_tellQuery_119 (by decide) ?_
                        refine g_iload_n hk dX12_tellQuery_121 rfl ?_
                        refine g_imul hk dX12_tellQuery_122 ?_
                        refine g_topi (fun y25970 ey25970 => ?_)
                        replace hF := FE.lt hF ey25970
                        have hy25970 : y25970.toInt = 16 * y21424.toInt := i32_mul ey25970 rfl rfl (by omega) (by omega)
                        refine g_aload_n hk dX12_tellQuery_123 rfl ?_
                        refine gM_r0_29 hk hin12 (List.mem_cons_of_mem _ (List.mem_append_left _ (List.mem_of_getElem? (i := 9) rfl))) dX12_tellQuery_124 ?_
                        refine g_iload_n hk dX12_tellQuery_127 rfl ?_
                        refine lM_11 (v := (A25558 11 y21424.toNatClampNeg)) hk (vp_in_iff.mpr ⟨by omega, by omega⟩) (congrFun (hA25964 11 rfl) _) dX12_tellQuery_128 ?_
                        refine g_iadd hk dX12_tellQuery_129 ?_
                        refine g_topi (fun y25971 ey25971 => ?_)
                        replace hF := FE.lt hF ey25971
                        have hy25971 : y25971.toInt = y25970.toInt + (A25558 11 y21424.toNatClampNeg).toInt := i32_add ey25971 rfl rfl (by omega) (by omega)
                        refine g_aload_n hk dX12_tellQuery_130 rfl ?_
                        refine g_callV (n := 0) hk (j132_X12_readingTold l D zt r g I25964 A25964 L25964  hV25964) (SP.same _) (fun _ h => h) (gi_V (List.mem_cons_of_mem _ (List.mem_append_left _ (List.mem_of_getElem? (i := 23) rfl))) (List.mem_cons_of_mem _ (List.mem_append_left _ (List.mem_of_getElem? (i := 24) rfl))) (List.mem_cons_of_mem _ (List.mem_append_left _ (List.mem_of_getElem? (i := 25) rfl))) (List.mem_cons_of_mem _ (List.mem_append_left _ (List.mem_of_getElem? (i := 7) rfl))) (gi_sub (fun w h => (List.mem_cons_of_mem _ (List.mem_append_right _ (List.mem_append_right _ (List.mem_append_right _ (List.mem_append_right _ (List.mem_append_right _ (List.mem_append_right _ (List.mem_append_left _ h))))))))) zg_j132_X12_readingTold)) rfl rfl rfl (by decide +kernel) ⟨Nat.le_of_ble_eq_true rfl, Nat.le_of_ble_eq_true rfl⟩ 0 rfl rfl rfl rfl (Nat.le_of_ble_eq_true rfl) ⟨Nat.le_of_ble_eq_true rfl, Nat.le_of_ble_eq_true rfl⟩ dX12_tellQuery_131 (fun v ty' w' hp hk' => ?_)
                        obtain ⟨I25973, A25973, L25973, hI25973, hA25973, hV25973, y25972, r25974, r25975, r25976, r25977, hL25973, hC, rfl, rfl⟩ := hp
                        replace hF := FE.bdM hF hC
                        have f25978 := IvM_f4 hV25973
                        rw [show (I25964 4) = (I25558 4) from (hI25964 4 rfl)] at r25974
                        have f25979 := IvM_f6 hV25973
                        have f25980 := IvM_f8 hV25973
                        rw [show (I25964 8) = (I25558 8) from (hI25964 8 rfl)] at r25976
                        rw [show (I25964 4) = (I25558 4) from (hI25964 4 rfl)] at r25977
                        show GW κ 4 0 0 (wM r g I25973 A25973 L25973) 134 [(3, .int x21438), (2, .int (I 4)), (1, .int y21424), (0, .ref (r 0))] [.int y25972, .int y25971, .ref (r 13)]
                        refine sM_12 (j := y25971.toNatClampNeg) hk (vp_in_iff.mpr ⟨by omega, by omega⟩) rfl dX12_tellQuery_134 ?_
                        refine g_aload_n hk dX12_tellQuery_135 rfl ?_
                        refine gM_i6 (v := (I25973 6)) hk hin12 (List.mem_cons_of_mem _ (List.mem_append_left _ (List.mem_of_getElem? (i := 16) rfl))) dX12_tellQuery_136 rfl ?_
                        refine g_if_le (tgt := 143) (a := (I25973 6).toInt) hk dX12_tellQuery_139 (by decide) rfl (fun c25981 => ?_) (fun c25981 => ?_)
                        · skip
                          replace hF := FE.pos hF c25981
                          refine g_aload_n hk dX12_tellQuery_143 rfl ?_
                          refine gM_r0_29 hk hin12 (List.mem_cons_of_mem _ (List.mem_append_left _ (List.mem_of_getElem? (i := 9) rfl))) dX12_tellQuery_144 ?_
                          refine g_iload_n hk dX12_tellQuery_147 rfl ?_
                          refine g_dup2 hk dX12_tellQuery_148 rfl rfl ?_
                          refine lM_11 (v := (A25558 11 y21424.toNatClampNeg)) hk (vp_in_iff.mpr ⟨by omega, by omega⟩) ((congrFun (hA25973 11 rfl) _).trans (congrFun (hA25964 11 rfl) _)) dX12_tellQuery_149 ?_
                          refine g_iconst (v := 1) hk dX12_tellQuery_150 (by decide) ?_
                          refine g_iadd hk dX12_tellQuery_151 ?_
                          refine g_topi (fun y25982 ey25982 => ?_)
                          replace hF := FE.lt hF ey25982
                          have hy25982 : y25982.toInt = (A25558 11 y21424.toNatClampNeg).toInt + 1 := i32_add ey25982 rfl rfl (by omega) (by omega)
                          refine sM_11 (j := y21424.toNatClampNeg) hk (vp_in_iff.mpr ⟨by omega, by omega⟩) rfl dX12_tellQuery_152 ?_
                          have hA25983 : ∀ j, 0 ≤ ((up3 (up3 A25973 12 (y25971.toNatClampNeg) y25972) 11 (y21424.toNatClampNeg) y25982) 11 j).toInt ∧ ((up3 (up3 A25973 12 (y25971.toNatClampNeg) y25972) 11 (y21424.toNatClampNeg) y25982) 11 j).toInt ≤ 16 := ai_st ((IvM_a11 hV25973)) ⟨by omega, by omega⟩
                          refine g_aload_n hk dX12_tellQuery_153 rfl ?_
                          refine g_dup hk dX12_tellQuery_154 rfl ?_
                          refine gM_i11 (v := (I25558 11)) hk hin12 (List.mem_cons_of_mem _ (List.mem_append_left _ (List.mem_of_getElem? (i := 0) rfl))) dX12_tellQuery_155 ((hI25973 11 rfl).trans (hI25964 11 rfl)) ?_
                          refine g_iconst (v := 1) hk dX12_tellQuery_158 (by decide) ?_
                          have b25984l := Int32.le_toInt (I25558 11)
                          have b25984h := Int32.toInt_lt (I25558 11)
                          refine g_iadd hk dX12_tellQuery_159 ?_
                          refine g_topi (fun y25985 ey25985 => ?_)
                          replace hF := FE.lt hF ey25985
                          refine pM_i11 hk hin12 (List.mem_cons_of_mem _ (List.mem_append_left _ (List.mem_of_getElem? (i := 0) rfl))) dX12_tellQuery_160 ?_
                          refine g_goto (tgt := 84) hk dX12_tellQuery_163 (by decide) ?_
                          have g25986 : (I25973 15).toInt = (I 15).toInt := by rw [show (I25973 15) = (I 15) from ((hI25973 15 rfl).trans ((hI25964 15 rfl).trans ((hI25558 15 rfl).trans ((hI21442 15 rfl).trans (hI21428 15 rfl)))))]
                          have g25987 : (I25973 16).toInt = (I 16).toInt := by rw [show (I25973 16) = (I 16) from ((hI25973 16 rfl).trans ((hI25964 16 rfl).trans ((hI25558 16 rfl).trans ((hI21442 16 rfl).trans (hI21428 16 rfl)))))]
                          have g25988 := IvM_s10_0 (I := I25973) (A := A25973) hV25973
                          have g25989 := IvM_s10_1 (I := I25973) (A := A25973) hV25973
                          have q25990 := cl_int (y := y21424) (by omega)
                          have g25991 : (A25973 10 0).toInt = (A 10 0).toInt := by rw [show (A25973 10 0) = (A 10 0) from ((congrFun (hA25973 10 rfl) _).trans ((congrFun (hA25964 10 rfl) _).trans ((congrFun (hA25558 10 rfl) _).trans ((congrFun (hA21442 10 rfl) _).trans (congrFun (hA21428 10 rfl) _)))))]
                          have g25992 : (A25973 10 1).toInt = (A 10 1).toInt := by rw [show (A25973 10 1) = (A 10 1) from ((congrFun (hA25973 10 rfl) _).trans ((congrFun (hA25964 10 rfl) _).trans ((congrFun (hA25558 10 rfl) _).trans ((congrFun (hA21442 10 rfl) _).trans (congrFun (hA21428 10 rfl) _)))))]
                          have q25993 := cl_int (y := y21424) (by omega)
                          exact g_lv (List.forall_mem_cons.mpr ⟨List.mem_of_getElem? (i := 0) rfl, (List.forall_mem_cons.mpr ⟨List.mem_of_getElem? (i := 1) rfl, (List.forall_mem_cons.mpr ⟨List.mem_of_getElem? (i := 2) rfl, (List.forall_mem_cons.mpr ⟨List.mem_of_getElem? (i := 3) rfl, (fun _ h => absurd h List.not_mem_nil)⟩)⟩)⟩)⟩) (ih25828 (upd I25973 11 y25985) (up3 (up3 A25973 12 (y25971.toNatClampNeg) y25972) 11 (y21424.toNatClampNeg) y25982) L25973 (show Md [4, 6, 7, 8, 9, 11, 12, 13] I21442 (upd I25973 11 y25985) from Md.tr hI25558 (show Md [4, 6, 7, 8, 9, 11, 12, 13] I25558 (upd I25973 11 y25985) from (Md.up (Md.tr (Md.tr Md.rf hI25964 rfl) hI25973 rfl) rfl)) rfl) (show Md [11, 12] (up3 A21442 11 (y21424.toNatClampNeg) 0) (up3 (up3 A25973 12 (y25971.toNatClampNeg) y25972) 11 (y21424.toNatClampNeg) y25982) from Md.tr hA25558 (show Md [11, 12] A25558 (up3 (up3 A25973 12 (y25971.toNatClampNeg) y25972) 11 (y21424.toNatClampNeg) y25982) from (Md.up3 (Md.up3 (Md.tr (Md.tr Md.rf hA25964 rfl) hA25973 rfl) rfl) rfl)) rfl) ⟨(IvM_f1 (I := I25973) (A := A25973) hV25973), (IvM_f2 (I := I25973) (A := A25973) hV25973), (IvM_f3 (I := I25973) (A := A25973) hV25973), (IvM_f4 (I := I25973) (A := A25973) hV25973), (IvM_f6 (I := I25973) (A := A25973) hV25973), (IvM_f8 (I := I25973) (A := A25973) hV25973), (IvM_f15 (I := I25973) (A := A25973) hV25973), (IvM_f16 (I := I25973) (A := A25973) hV25973), (IvM_f17 (I := I25973) (A := A25973) hV25973), (IvM_f18 (I := I25973) (A := A25973) hV25973), (IvM_f22 (I := I25973) (A := A25973) hV25973), (IvM_f23 (I := I25973) (A := A25973) hV25973), (IvM_f24 (I := I25973) (A := A25973) hV25973), hA25983, (IvM_a26 (I := I25973) (A := A25973) hV25973), (IvM_s8_0 (I := I25973) (A := A25973) hV25973), (IvM_s8_1 (I := I25973) (A := A25973) hV25973), (IvM_s10_0 (I := I25973) (A := A25973) hV25973), (IvM_s10_1 (I := I25973) (A := A25973) hV25973), (IvM_s17_0 (I := I25973) (A := A25973) hV25973), (IvM_s17_164 (I := I25973) (A := A25973) hV25973), ⟨fun e => by have e : (I25973 15).toInt = 0 := e; first | exact ghf_upd (n := (A25973 10 0)) ((IvM_lv (I := I25973) (A := A25973) hV25973).1 e) (fun q hq => by omega) | (exfalso; omega), fun e => by have e : (I25973 15).toInt = 1 := e; first | exact ghf_upd (n := (A25973 10 1)) ((IvM_lv (I := I25973) (A := A25973) hV25973).2 e) (fun q hq => by omega) | (exfalso; omega)⟩, (by rcases (IvM_sd (I := I25973) (A := A25973) hV25973) with h9 | h9 | h9; exact Or.inl h9; exact Or.inr (Or.inl h9); exact Or.inr (Or.inr ⟨fun e => by have e : (I25973 16).toInt = 0 := e; first | exact ghf_upd (n := (A25973 10 0)) (h9.1 e) (fun q hq => by omega) | (exfalso; omega), fun e => by have e : (I25973 16).toInt = 1 := e; first | exact ghf_upd (n := (A25973 10 1)) (h9.2 e) (fun q hq => by omega) | (exfalso; omega)⟩)), (IvM_nq (I := I25973) (A := A25973) hV25973), (IvM_hr (I := I25973) (A := A25973) hV25973), (IvM_hh (I := I25973) (A := A25973) hV25973), trivial⟩ (show L25973 = L21442 from ((hL25973.trans hL25964).trans hL25558)) (by first | (rw [show ((upd I25973 11 y25985) 4) = (I25973 4) from rfl] <;> omega) | omega) (by first | (rw [show ((upd I25973 11 y25985) 6) = (I25973 6) from rfl] <;> omega) | omega) (by first | (rw [show ((upd I25973 11 y25985) 8) = (I25973 8) from rfl] <;> omega) | omega) (by first | (rw [show ((upd I25973 11 y25985) 4) = (I25973 4) from rfl] <;> omega) | omega) (by omega) hF)
                        · skip
                          replace hF := FE.neg hF c25981
                          exact g_vret hk hR ⟨I25973, (up3 A25973 12 (y25971.toNatClampNeg) y25972), L25973, (show Md [4, 6, 7, 8, 9, 11, 12, 13, 17] I I25973 from (Md.tr (Md.tr (Md.tr (Md.tr (Md.tr (Md.up Md.rf rfl) hI21428 rfl) hI21442 rfl) hI25558 rfl) hI25964 rfl) hI25973 rfl)), (show Md [10, 11, 12] A (up3 A25973 12 (y25971.toNatClampNeg) y25972) from (Md.up3 (Md.tr (Md.tr (Md.tr (Md.up3 (Md.tr (Md.tr Md.rf hA21428 rfl) hA21442 rfl) rfl) hA25558 rfl) hA25964 rfl) hA25973 rfl) rfl)), ⟨(IvM_f1 (I := I25973) (A := A25973) hV25973), (IvM_f2 (I := I25973) (A := A25973) hV25973), (IvM_f3 (I := I25973) (A := A25973) hV25973), (IvM_f4 (I := I25973) (A := A25973) hV25973), (IvM_f6 (I := I25973) (A := A25973) hV25973), (IvM_f8 (I := I25973) (A := A25973) hV25973), (IvM_f15 (I := I25973) (A := A25973) hV25973), (IvM_f16 (I := I25973) (A := A25973) hV25973), (IvM_f17 (I := I25973) (A := A25973) hV25973), (IvM_f18 (I := I25973) (A := A25973) hV25973), (IvM_f22 (I := I25973) (A := A25973) hV25973), (IvM_f23 (I := I25973) (A := A25973) hV25973), (IvM_f24 (I := I25973) (A := A25973) hV25973), (IvM_a11 (I := I25973) (A := A25973) hV25973), (IvM_a26 (I := I25973) (A := A25973) hV25973), (IvM_s8_0 (I := I25973) (A := A25973) hV25973), (IvM_s8_1 (I := I25973) (A := A25973) hV25973), (IvM_s10_0 (I := I25973) (A := A25973) hV25973), (IvM_s10_1 (I := I25973) (A := A25973) hV25973), (IvM_s17_0 (I := I25973) (A := A25973) hV25973), (IvM_s17_164 (I := I25973) (A := A25973) hV25973), (IvM_lv (I := I25973) (A := A25973) hV25973), (IvM_sd (I := I25973) (A := A25973) hV25973), (IvM_nq (I := I25973) (A := A25973) hV25973), (IvM_hr (I := I25973) (A := A25973) hV25973), (IvM_hh (I := I25973) (A := A25973) hV25973), trivial⟩, (by omega), (by omega), (by omega), hF, rfl, rfl⟩ dX12_tellQuery_142
                      · skip
                        replace hF := FE.neg hF c25969
                        exact g_vret hk hR ⟨I25964, A25964, L25964, (show Md [4, 6, 7, 8, 9, 11, 12, 13, 17] I I25964 from (Md.tr (Md.tr (Md.tr (Md.tr (Md.up Md.rf rfl) hI21428 rfl) hI21442 rfl) hI25558 rfl) hI25964 rfl)), (show Md [10, 11, 12] A A25964 from (Md.tr (Md.tr (Md.up3 (Md.tr (Md.tr Md.rf hA21428 rfl) hA21442 rfl) rfl) hA25558 rfl) hA25964 rfl)), hV25964, (by rw [show (I25964 4) = (I25558 4) from (hI25964 4 rfl)] <;> omega), (by omega), (by rw [show (I25964 8) = (I25558 8) from (hI25964 8 rfl)] <;> omega), hF, rfl, rfl⟩ dX12_tellQuery_114
              have b25995 := Int32.le_toInt (I21428 4)
              have b25996 := Int32.toInt_lt (I21428 4)
              have n25994a : 401 - (I21428 4).toInt < (FU : Int) := by have := FU_eq; omega
              have n25994b : 0 < FU := by have := FU_eq; omega
              have g25997 : (I21442 15).toInt = (I 15).toInt := by rw [show (I21442 15) = (I 15) from ((hI21442 15 rfl).trans (hI21428 15 rfl))]
              have g25998 : (I21442 16).toInt = (I 16).toInt := by rw [show (I21442 16) = (I 16) from ((hI21442 16 rfl).trans (hI21428 16 rfl))]
              have g25999 := IvM_s10_0 (I := I21442) (A := A21442) hV21442
              have g26000 := IvM_s10_1 (I := I21442) (A := A21442) hV21442
              have q26001 := cl_int (y := y21424) (by omega)
              have g26002 : (A21442 10 0).toInt = (A 10 0).toInt := by rw [show (A21442 10 0) = (A 10 0) from ((congrFun (hA21442 10 rfl) _).trans (congrFun (hA21428 10 rfl) _))]
              have g26003 : (A21442 10 1).toInt = (A 10 1).toInt := by rw [show (A21442 10 1) = (A 10 1) from ((congrFun (hA21442 10 rfl) _).trans (congrFun (hA21428 10 rfl) _))]
              have g26004 : (I21442 6).toInt = (I21428 6).toInt := by rw [show (I21442 6) = (I21428 6) from (hI21442 6 rfl)]
              have q26005 := cl_int (y := y21424) (by omega)
              exact lp25824 FU I21442 (up3 A21442 11 (y21424.toNatClampNeg) 0) L21442 Md.rf Md.rf ⟨(IvM_f1 (I := I21442) (A := A21442) hV21442), (IvM_f2 (I := I21442) (A := A21442) hV21442), (IvM_f3 (I := I21442) (A := A21442) hV21442), (IvM_f4 (I := I21442) (A := A21442) hV21442), (IvM_f6 (I := I21442) (A := A21442) hV21442), (IvM_f8 (I := I21442) (A := A21442) hV21442), (IvM_f15 (I := I21442) (A := A21442) hV21442), (IvM_f16 (I := I21442) (A := A21442) hV21442), (IvM_f17 (I := I21442) (A := A21442) hV21442), (IvM_f18 (I := I21442) (A := A21442) hV21442), (IvM_f22 (I := I21442) (A := A21442) hV21442), (IvM_f23 (I := I21442) (A := A21442) hV21442), (IvM_f24 (I := I21442) (A := A21442) hV21442), hA25553, (IvM_a26 (I := I21442) (A := A21442) hV21442), (IvM_s8_0 (I := I21442) (A := A21442) hV21442), (IvM_s8_1 (I := I21442) (A := A21442) hV21442), (IvM_s10_0 (I := I21442) (A := A21442) hV21442), (IvM_s10_1 (I := I21442) (A := A21442) hV21442), (IvM_s17_0 (I := I21442) (A := A21442) hV21442), (IvM_s17_164 (I := I21442) (A := A21442) hV21442), ⟨fun e => by have e : (I21442 15).toInt = 0 := e; first | exact ghf_upd (n := (A21442 10 0)) ((IvM_lv (I := I21442) (A := A21442) hV21442).1 e) (fun q hq => by omega) | (exfalso; omega), fun e => by have e : (I21442 15).toInt = 1 := e; first | exact ghf_upd (n := (A21442 10 1)) ((IvM_lv (I := I21442) (A := A21442) hV21442).2 e) (fun q hq => by omega) | (exfalso; omega)⟩, (by rcases (IvM_sd (I := I21442) (A := A21442) hV21442) with h9 | h9 | h9; exact Or.inl h9; exact Or.inr (Or.inl h9); exact Or.inr (Or.inr ⟨fun e => by have e : (I21442 16).toInt = 0 := e; first | exact ghf_upd (n := (A21442 10 0)) (h9.1 e) (fun q hq => by omega) | (exfalso; omega), fun e => by have e : (I21442 16).toInt = 1 := e; first | exact ghf_upd (n := (A21442 10 1)) (h9.2 e) (fun q hq => by omega) | (exfalso; omega)⟩)), (IvM_nq (I := I21442) (A := A21442) hV21442), (IvM_hr (I := I21442) (A := A21442) hV21442), (IvM_hh (I := I21442) (A := A21442) hV21442), trivial⟩ rfl (by first | (rw [show (I21442 4) = (I21428 4) from (hI21442 4 rfl)] <;> omega) | omega) (by first | (rw [show (I21442 6) = (I21428 6) from (hI21442 6 rfl)] <;> omega) | omega) (by omega) (by first | exact n25994a | (rw [show (I21442 4) = (I21428 4) from (hI21442 4 rfl)] <;> exact n25994a)) n25994b hF
            · skip
              replace hF := FE.neg hF c25551
              refine g_aload_n hk dX12_tellQuery_49 rfl ?_
              refine gM_r0_25 hk hin12 (List.mem_cons_of_mem _ (List.mem_append_left _ (List.mem_of_getElem? (i := 17) rfl))) dX12_tellQuery_50 ?_
              refine g_iload_n hk dX12_tellQuery_53 rfl ?_
              refine lM_7 hk (vp_in_iff.mpr ⟨by omega, by omega⟩) rfl dX12_tellQuery_54 ?_
              refine g_topl (fun y26006 ey26006 => ?_)
              replace hF := FE.lt hF ey26006
              refine g_aload_n hk dX12_tellQuery_55 rfl ?_
              refine gM_r0_8 hk hin12 (List.mem_cons_of_mem _ (List.mem_append_left _ (List.mem_of_getElem? (i := 18) rfl))) dX12_tellQuery_56 ?_
              refine g_iload_n hk dX12_tellQuery_59 rfl ?_
              refine lM_5 hk (vp_in_iff.mpr ⟨by omega, by omega⟩) rfl dX12_tellQuery_60 ?_
              refine g_topl (fun y26007 ey26007 => ?_)
              replace hF := FE.lt hF ey26007
              refine g_lcmp hk dX12_tellQuery_61 ?_
              refine g_topi (fun y26008 ey26008 => ?_)
              replace hF := FE.lt hF ey26008
              have b26009l := Int32.le_toInt y26008
              have b26009h := Int32.toInt_lt y26008
              refine g_if_ne (tgt := 71) (a := y26008.toInt) hk dX12_tellQuery_62 (by decide) rfl (fun c26010 => ?_) (fun c26010 => ?_)
              · skip
                replace hF := FE.pos hF c26010
                obtain ⟨y26011, ey26011⟩ : ∃ y : Int32, y = x21438 + Int32.ofInt 1 := ⟨_, rfl⟩
                replace hF := FE.lt hF ey26011
                have hy26011 : y26011.toInt = x21438.toInt + 1 := i32_add ey26011 rfl (by decide) (by omega) (by omega)
                refine g_iinc (v := y26011) (lv' := [(3, .int y26011), (2, .int (I 4)), (1, .int y21424), (0, .ref (r 0))]) hk 0 dX12_tellQuery_71 rfl ey26011.symm (by decide) rfl ?_
                refine g_goto (tgt := 34) hk dX12_tellQuery_74 (by decide) ?_
                exact g_lv (List.forall_mem_cons.mpr ⟨List.mem_of_getElem? (i := 0) rfl, (List.forall_mem_cons.mpr ⟨List.mem_of_getElem? (i := 1) rfl, (List.forall_mem_cons.mpr ⟨List.mem_of_getElem? (i := 2) rfl, (List.forall_mem_cons.mpr ⟨List.mem_of_getElem? (i := 3) rfl, (fun _ h => absurd h List.not_mem_nil)⟩)⟩)⟩)⟩) (ih25074 y26011 I21442 A21442 L21442 (show Md [8, 9, 13] I21428 I21442 from Md.tr hI21442 (show Md [8, 9, 13] I21442 I21442 from Md.rf) rfl) (show Md [] A21428 A21442 from Md.tr hA21442 (show Md [] A21442 A21442 from Md.rf) rfl) hV21442 (show L21442 = L21428 from hL21442) (by omega) (by omega) (by first | (rw [show (I21442 4) = (I21428 4) from (hI21442 4 rfl)] <;> omega) | omega) (by first | (rw [show (I21442 6) = (I21428 6) from (hI21442 6 rfl)] <;> omega) | omega) (by omega) (by omega) (by omega) hF)
              · skip
                replace hF := FE.neg hF c26010
                refine g_aload_n hk dX12_tellQuery_65 rfl ?_
                refine g_iconst (v := 3) hk dX12_tellQuery_66 (by decide) ?_
                refine g_iload_n hk dX12_tellQuery_67 rfl ?_
                have k26012 : (3 : Int32).toInt = 3 := rfl
                refine g_callV (n := 2) hk (j134_X12_wrong l D zt r g I21442 A21442 L21442 3 (I 4) hV21442 (by decide) (by decide) (by omega) (by omega)) (SP.same _) (fun _ h => h) (gi_V (List.mem_cons_of_mem _ (List.mem_append_left _ (List.mem_of_getElem? (i := 19) rfl))) (List.mem_cons_of_mem _ (List.mem_append_left _ (List.mem_of_getElem? (i := 20) rfl))) (List.mem_cons_of_mem _ (List.mem_append_left _ (List.mem_of_getElem? (i := 21) rfl))) (List.mem_cons_of_mem _ (List.mem_append_left _ (List.mem_of_getElem? (i := 7) rfl))) (gi_sub (fun w h => (List.mem_cons_of_mem _ (List.mem_append_right _ (List.mem_append_right _ (List.mem_append_right _ (List.mem_append_right _ (List.mem_append_right _ (List.mem_append_left _ h)))))))) zg_j134_X12_wrong)) rfl rfl rfl (by decide +kernel) ⟨Nat.le_of_ble_eq_true rfl, Nat.le_of_ble_eq_true rfl⟩ 0 rfl rfl rfl rfl (Nat.le_of_ble_eq_true rfl) ⟨Nat.le_of_ble_eq_true rfl, Nat.le_of_ble_eq_true rfl⟩ dX12_tellQuery_68 (fun v ty' w' hp hk' => ?_)
                obtain ⟨I26014, A26014, L26014, hI26014, hA26014, hV26014, r26015, r26016, r26017, hL26014, hC, rfl, rfl⟩ := hp
                replace hF := FE.bdM hF hC
                rw [show (I21442 6) = (I21428 6) from (hI21442 6 rfl), show (I26014 6) = (I21428 6) from ((hI26014 6 rfl).trans (hI21442 6 rfl))] at r26015
                have f26018 := IvM_f8 hV26014
                rw [show (I26014 6) = (I21428 6) from ((hI26014 6 rfl).trans (hI21442 6 rfl))] at r26017
                show GW κ 4 0 0 (wM r g I26014 A26014 L26014) 71 [(3, .int x21438), (2, .int (I 4)), (1, .int y21424), (0, .ref (r 0))] []
                obtain ⟨y26019, ey26019⟩ : ∃ y : Int32, y = x21438 + Int32.ofInt 1 := ⟨_, rfl⟩
                replace hF := FE.lt hF ey26019
                have hy26019 : y26019.toInt = x21438.toInt + 1 := i32_add ey26019 rfl (by decide) (by omega) (by omega)
                refine g_iinc (v := y26019) (lv' := [(3, .int y26019), (2, .int (I 4)), (1, .int y21424), (0, .ref (r 0))]) hk 0 dX12_tellQuery_71 rfl ey26019.symm (by decide) rfl ?_
                refine g_goto (tgt := 34) hk dX12_tellQuery_74 (by decide) ?_
                exact g_lv (List.forall_mem_cons.mpr ⟨List.mem_of_getElem? (i := 0) rfl, (List.forall_mem_cons.mpr ⟨List.mem_of_getElem? (i := 1) rfl, (List.forall_mem_cons.mpr ⟨List.mem_of_getElem? (i := 2) rfl, (List.forall_mem_cons.mpr ⟨List.mem_of_getElem? (i := 3) rfl, (fun _ h => absurd h List.not_mem_nil)⟩)⟩)⟩)⟩) (ih25074 y26019 I26014 A26014 L26014 (show Md [8, 9, 13] I21428 I26014 from Md.tr hI21442 (show Md [8, 9, 13] I21442 I26014 from (Md.tr Md.rf hI26014 rfl)) rfl) (show Md [] A21428 A26014 from Md.tr hA21442 (show Md [] A21442 A26014 from (Md.tr Md.rf hA26014 rfl)) rfl) hV26014 (show L26014 = L21428 from (hL26014.trans hL21442)) (by omega) (by omega) (by first | (rw [show (I26014 4) = (I21428 4) from ((hI26014 4 rfl).trans (hI21442 4 rfl))] <;> omega) | omega) (by first | (rw [show (I26014 6) = (I21428 6) from ((hI26014 6 rfl).trans (hI21442 6 rfl))] <;> omega) | omega) (by omega) (by omega) (by omega) hF)
      have k26020 : (0 : Int32).toInt = 0 := rfl
      have b26022 := Int32.le_toInt (0 : Int32)
      have b26023 := Int32.toInt_lt (0 : Int32)
      have n26021a : 6 - (0 : Int32).toInt < (FU : Int) := by have := FU_eq; omega
      have n26021b : 0 < FU := by have := FU_eq; omega
      exact lp25070 FU 0 I21428 A21428 L21428 Md.rf Md.rf hV21428 rfl (by omega) (by omega) (by omega) (by omega) (by first | (rw [show (I21428 8) = (I 8) from (hI21428 8 rfl)] <;> omega) | omega) n26021a n26021b hF
    replace hF := FE.neg hF c21422
    exfalso; omega
  replace hF := FE.neg hF c21421
  exfalso; omega
