theorem dX0_hasBoth_0 : decode cX0_hasBoth 0 = .ok (.aload_n 0, 1) := dec_0 oX0_hasBoth (of42 _) rfl
theorem dX0_hasBoth_1 : decode cX0_hasBoth 1 = .ok (.getfield 22, 3) := dec_2 oX0_hasBoth (of180 _) 0 22 rfl rfl
theorem dX0_hasBoth_34 : decode cX0_hasBoth 34 = .ok (.iconst 0, 1) := dec_0 oX0_hasBoth (of3 _) rfl
theorem dX0_hasBoth_35 : decode cX0_hasBoth 35 = .ok (.ireturn, 1) := dec_0 oX0_hasBoth (of172 _) rfl
theorem dX0_hasBoth_4 : decode cX0_hasBoth 4 = .ok (.iload_n 1, 1) := dec_0 oX0_hasBoth (of27 _) rfl
theorem dX0_hasBoth_5 : decode cX0_hasBoth 5 = .ok (.invokevirtual 30, 3) := dec_2 oX0_hasBoth (of182 _) 0 30 rfl rfl
theorem dX0_hasBoth_8 : decode cX0_hasBoth 8 = .ok (.ifCond .eq 26, 3) := dec_s2 oX0_hasBoth (of153 _) 0 26 rfl (sg16p rfl) rfl
theorem dX0_init_0 : decode cX0_init 0 = .ok (.aload_n 0, 1) := dec_0 oX0_init (of42 _) rfl
theorem dX0_init_1 : decode cX0_init 1 = .ok (.invokespecial 3, 3) := dec_2 oX0_init (of183 _) 0 3 rfl rfl
theorem dX0_init_12 : decode cX0_init 12 = .ok (.putfield 12, 3) := dec_2 oX0_init (of181 _) 0 12 rfl rfl
theorem dX0_init_15 : decode cX0_init 15 = .ok (.aload_n 0, 1) := dec_0 oX0_init (of42 _) rfl
theorem dX0_init_16 : decode cX0_init 16 = .ok (.aload_n 1, 1) := dec_0 oX0_init (of43 _) rfl
theorem dX0_init_17 : decode cX0_init 17 = .ok (.putfield 18, 3) := dec_2 oX0_init (of181 _) 0 18 rfl rfl
theorem dX0_init_20 : decode cX0_init 20 = .ok (.aload_n 0, 1) := dec_0 oX0_init (of42 _) rfl
theorem dX0_init_21 : decode cX0_init 21 = .ok (.aload_n 2, 1) := dec_0 oX0_init (of44 _) rfl
theorem dX0_init_22 : decode cX0_init 22 = .ok (.putfield 22, 3) := dec_2 oX0_init (of181 _) 0 22 rfl rfl
theorem dX0_init_25 : decode cX0_init 25 = .ok (.aload_n 0, 1) := dec_0 oX0_init (of42 _) rfl
theorem dX0_init_26 : decode cX0_init 26 = .ok (.aload_n 3, 1) := dec_0 oX0_init (of45 _) rfl
theorem dX0_init_27 : decode cX0_init 27 = .ok (.putfield 26, 3) := dec_2 oX0_init (of181 _) 0 26 rfl rfl
theorem dX0_init_30 : decode cX0_init 30 = .ok (.return_, 1) := dec_0 oX0_init (of177 _) rfl
theorem dX0_init_4 : decode cX0_init 4 = .ok (.aload_n 0, 1) := dec_0 oX0_init (of42 _) rfl
theorem dX0_init_5 : decode cX0_init 5 = .ok (.new 9, 3) := dec_2 oX0_init (of187 _) 0 9 rfl rfl
theorem dX0_init_8 : decode cX0_init 8 = .ok (.dup, 1) := dec_0 oX0_init (of89 _) rfl
theorem dX0_init_9 : decode cX0_init 9 = .ok (.invokespecial 11, 3) := dec_2 oX0_init (of183 _) 0 11 rfl rfl
theorem dX0_openBoth_0 : decode cX0_openBoth 0 = .ok (.aload_n 0, 1) := dec_0 oX0_openBoth (of42 _) rfl
theorem dX0_openBoth_1 : decode cX0_openBoth 1 = .ok (.iload_n 1, 1) := dec_0 oX0_openBoth (of27 _) rfl
theorem dX0_openBoth_10 : decode cX0_openBoth 10 = .ok (.ireturn, 1) := dec_0 oX0_openBoth (of172 _) rfl
theorem dX0_openBoth_2 : decode cX0_openBoth 2 = .ok (.iload_n 2, 1) := dec_0 oX0_openBoth (of28 _) rfl
theorem dX0_openBoth_3 : decode cX0_openBoth 3 = .ok (.invokevirtual 46, 3) := dec_2 oX0_openBoth (of182 _) 0 46 rfl rfl
theorem dX0_openBoth_6 : decode cX0_openBoth 6 = .ok (.ifCond .ne 5, 3) := dec_s2 oX0_openBoth (of154 _) 0 5 rfl (sg16p rfl) rfl
theorem dX0_openBoth_9 : decode cX0_openBoth 9 = .ok (.iconst 0, 1) := dec_0 oX0_openBoth (of3 _) rfl
theorem dX10_addFour_0 : decode cX10_addFour 0 = .ok (.bipush 24, 2) := dec_s1 oX10_addFour (of16 _) 24 rfl (sg8p rfl) rfl
theorem dX10_addFour_11 : decode cX10_addFour 11 = .ok (.ifCond .lt 41, 3) := dec_s2 oX10_addFour (of155 _) 0 41 rfl (sg16p rfl) rfl
theorem dX10_addFour_14 : decode cX10_addFour 14 = .ok (.aload_n 0, 1) := dec_0 oX10_addFour (of42 _) rfl
theorem dX10_addFour_15 : decode cX10_addFour 15 = .ok (.getfield 15, 3) := dec_2 oX10_addFour (of180 _) 0 15 rfl rfl
theorem dX10_addFour_18 : decode cX10_addFour 18 = .ok (.aload_n 0, 1) := dec_0 oX10_addFour (of42 _) rfl
theorem dX10_addFour_19 : decode cX10_addFour 19 = .ok (.getfield 9, 3) := dec_2 oX10_addFour (of180 _) 0 9 rfl rfl
theorem dX10_addFour_2 : decode cX10_addFour 2 = .ok (.istore_n 2, 1) := dec_0 oX10_addFour (of61 _) rfl
theorem dX10_addFour_22 : decode cX10_addFour 22 = .ok (.arraylength, 1) := dec_0 oX10_addFour (of190 _) rfl
theorem dX10_addFour_23 : decode cX10_addFour 23 = .ok (.if_icmp .ge 29, 3) := dec_s2 oX10_addFour (of162 _) 0 29 rfl (sg16p rfl) rfl
theorem dX10_addFour_26 : decode cX10_addFour 26 = .ok (.aload_n 0, 1) := dec_0 oX10_addFour (of42 _) rfl
theorem dX10_addFour_27 : decode cX10_addFour 27 = .ok (.getfield 9, 3) := dec_2 oX10_addFour (of180 _) 0 9 rfl rfl
theorem dX10_addFour_3 : decode cX10_addFour 3 = .ok (.iload_n 2, 1) := dec_0 oX10_addFour (of28 _) rfl
theorem dX10_addFour_30 : decode cX10_addFour 30 = .ok (.aload_n 0, 1) := dec_0 oX10_addFour (of42 _) rfl
theorem dX10_addFour_31 : decode cX10_addFour 31 = .ok (.getfield 15, 3) := dec_2 oX10_addFour (of180 _) 0 15 rfl rfl
theorem dX10_addFour_34 : decode cX10_addFour 34 = .ok (.iload_n 1, 1) := dec_0 oX10_addFour (of27 _) rfl
theorem dX10_addFour_35 : decode cX10_addFour 35 = .ok (.iload_n 2, 1) := dec_0 oX10_addFour (of28 _) rfl
theorem dX10_addFour_36 : decode cX10_addFour 36 = .ok (.iushr, 1) := dec_0 oX10_addFour (of124 _) rfl
theorem dX10_addFour_37 : decode cX10_addFour 37 = .ok (.sipush 255, 3) := dec_s2 oX10_addFour (of17 _) 0 255 rfl (sg16p rfl) rfl
