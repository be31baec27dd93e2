section
theorem dX0_hasBoth_0 : decode cX0_hasBoth 0 = .ok (.aload_n 0, 1) := dec_0 oX0_hasBoth (of42 _) rfl
theorem dX0_hasBoth_1 : decode cX0_hasBoth 1 = .ok (.getfield 22, 3) := dec_2 oX0_hasBoth (of180 _) 0 22 rfl rfl
theorem dX0_hasBoth_34 : decode cX0_hasBoth 34 = .ok (.iconst 0, 1) := dec_0 oX0_hasBoth (of3 _) rfl
theorem dX0_hasBoth_35 : decode cX0_hasBoth 35 = .ok (.ireturn, 1) := dec_0 oX0_hasBoth (of172 _) rfl
theorem dX0_hasBoth_4 : decode cX0_hasBoth 4 = .ok (.iload_n 1, 1) := dec_0 oX0_hasBoth (of27 _) rfl
theorem dX0_hasBoth_5 : decode cX0_hasBoth 5 = .ok (.invokevirtual 30, 3) := dec_2 oX0_hasBoth (of182 _) 0 30 rfl rfl
theorem dX0_hasBoth_8 : decode cX0_hasBoth 8 = .ok (.ifCond .eq 26, 3) := dec_s2 oX0_hasBoth (of153 _) 0 26 rfl (sg16p rfl) rfl
theorem dX0_init_0 : decode cX0_init 0 = .ok (.aload_n 0, 1) := dec_0 oX0_init (of42 _) rfl
theorem dX0_init_1 : decode cX0_init 1 = .ok (.invokespecial 3, 3) := dec_2 oX0_init (of183 _) 0 3 rfl rfl
theorem dX0_init_12 : decode cX0_init 12 = .ok (.putfield 12, 3) := dec_2 oX0_init (of181 _) 0 12 rfl rfl
theorem dX0_init_15 : decode cX0_init 15 = .ok (.aload_n 0, 1) := dec_0 oX0_init (of42 _) rfl
theorem dX0_init_16 : decode cX0_init 16 = .ok (.aload_n 1, 1) := dec_0 oX0_init (of43 _) rfl
theorem dX0_init_17 : decode cX0_init 17 = .ok (.putfield 18, 3) := dec_2 oX0_init (of181 _) 0 18 rfl rfl
theorem dX0_init_20 : decode cX0_init 20 = .ok (.aload_n 0, 1) := dec_0 oX0_init (of42 _) rfl
theorem dX0_init_21 : decode cX0_init 21 = .ok (.aload_n 2, 1) := dec_0 oX0_init (of44 _) rfl
theorem dX0_init_22 : decode cX0_init 22 = .ok (.putfield 22, 3) := dec_2 oX0_init (of181 _) 0 22 rfl rfl
theorem dX0_init_25 : decode cX0_init 25 = .ok (.aload_n 0, 1) := dec_0 oX0_init (of42 _) rfl
theorem dX0_init_26 : decode cX0_init 26 = .ok (.aload_n 3, 1) := dec_0 oX0_init (of45 _) rfl
theorem dX0_init_27 : decode cX0_init 27 = .ok (.putfield 26, 3) := dec_2 oX0_init (of181 _) 0 26 rfl rfl
theorem dX0_init_30 : decode cX0_init 30 = .ok (.return_, 1) := dec_0 oX0_init (of177 _) rfl
theorem dX0_init_4 : decode cX0_init 4 = .ok (.aload_n 0, 1) := dec_0 oX0_init (of42 _) rfl
theorem dX0_init_5 : decode cX0_init 5 = .ok (.new 9, 3) := dec_2 oX0_init (of187 _) 0 9 rfl rfl
theorem dX0_init_8 : decode cX0_init 8 = .ok (.dup, 1) := dec_0 oX0_init (of89 _) rfl
theorem dX0_init_9 : decode cX0_init 9 = .ok (.invokespecial 11, 3) := dec_2 oX0_init (of183 _) 0 11 rfl rfl
theorem dX0_openBoth_0 : decode cX0_openBoth 0 = .ok (.aload_n 0, 1) := dec_0 oX0_openBoth (of42 _) rfl
theorem dX0_openBoth_1 : decode cX0_openBoth 1 = .ok (.iload_n 1, 1) := dec_0 oX0_openBoth (of27 _) rfl
theorem dX0_openBoth_10 : decode cX0_openBoth 10 = .ok (.ireturn, 1) := dec_0 oX0_openBoth (of172 _) rfl
theorem dX0_openBoth_2 : decode cX0_openBoth 2 = .ok (.iload_n 2, 1) := dec_0 oX0_openBoth (of28 _) rfl
theorem dX0_openBoth_3 : decode cX0_openBoth 3 = .ok (.invokevirtual 46, 3) := dec_2 oX0_openBoth (of182 _) 0 46 rfl rfl
theorem dX0_openBoth_6 : decode cX0_openBoth 6 = .ok (.ifCond .ne 5, 3) := dec_s2 oX0_openBoth (of154 _) 0 5 rfl (sg16p rfl) rfl
theorem dX0_openBoth_9 : decode cX0_openBoth 9 = .ok (.iconst 0, 1) := dec_0 oX0_openBoth (of3 _) rfl
theorem dX10_addFour_0 : decode cX10_addFour 0 = .ok (.bipush 24, 2) := dec_s1 oX10_addFour (of16 _) 24 rfl (sg8p rfl) rfl
theorem dX10_addFour_11 : decode cX10_addFour 11 = .ok (.ifCond .lt 41, 3) := dec_s2 oX10_addFour (of155 _) 0 41 rfl (sg16p rfl) rfl
theorem dX10_addFour_14 : decode cX10_addFour 14 = .ok (.aload_n 0, 1) := dec_0 oX10_addFour (of42 _) rfl
theorem dX10_addFour_15 : decode cX10_addFour 15 = .ok (.getfield 15, 3) := dec_2 oX10_addFour (of180 _) 0 15 rfl rfl
theorem dX10_addFour_18 : decode cX10_addFour 18 = .ok (.aload_n 0, 1) := dec_0 oX10_addFour (of42 _) rfl
theorem dX10_addFour_19 : decode cX10_addFour 19 = .ok (.getfield 9, 3) := dec_2 oX10_addFour (of180 _) 0 9 rfl rfl
theorem dX10_addFour_2 : decode cX10_addFour 2 = .ok (.istore_n 2, 1) := dec_0 oX10_addFour (of61 _) rfl
theorem dX10_addFour_22 : decode cX10_addFour 22 = .ok (.arraylength, 1) := dec_0 oX10_addFour (of190 _) rfl
theorem dX10_addFour_23 : decode cX10_addFour 23 = .ok (.if_icmp .ge 29, 3) := dec_s2 oX10_addFour (of162 _) 0 29 rfl (sg16p rfl) rfl
theorem dX10_addFour_26 : decode cX10_addFour 26 = .ok (.aload_n 0, 1) := dec_0 oX10_addFour (of42 _) rfl
theorem dX10_addFour_27 : decode cX10_addFour 27 = .ok (.getfield 9, 3) := dec_2 oX10_addFour (of180 _) 0 9 rfl rfl
theorem dX10_addFour_3 : decode cX10_addFour 3 = .ok (.iload_n 2, 1) := dec_0 oX10_addFour (of28 _) rfl
theorem dX10_addFour_30 : decode cX10_addFour 30 = .ok (.aload_n 0, 1) := dec_0 oX10_addFour (of42 _) rfl
theorem dX10_addFour_31 : decode cX10_addFour 31 = .ok (.getfield 15, 3) := dec_2 oX10_addFour (of180 _) 0 15 rfl rfl
theorem dX10_addFour_34 : decode cX10_addFour 34 = .ok (.iload_n 1, 1) := dec_0 oX10_addFour (of27 _) rfl
theorem dX10_addFour_35 : decode cX10_addFour 35 = .ok (.iload_n 2, 1) := dec_0 oX10_addFour (of28 _) rfl
theorem dX10_addFour_36 : decode cX10_addFour 36 = .ok (.iushr, 1) := dec_0 oX10_addFour (of124 _) rfl
theorem dX10_addFour_37 : decode cX10_addFour 37 = .ok (.sipush 255, 3) := dec_s2 oX10_addFour (of17 _) 0 255 rfl (sg16p rfl) rfl
end
section
theorem dX10_addFour_4 : decode cX10_addFour 4 = .ok (.ifCond .lt 54, 3) := dec_s2 oX10_addFour (of155 _) 0 54 rfl (sg16p rfl) rfl
theorem dX10_addFour_40 : decode cX10_addFour 40 = .ok (.iand, 1) := dec_0 oX10_addFour (of126 _) rfl
theorem dX10_addFour_41 : decode cX10_addFour 41 = .ok (.iastore, 1) := dec_0 oX10_addFour (of79 _) rfl
theorem dX10_addFour_42 : decode cX10_addFour 42 = .ok (.aload_n 0, 1) := dec_0 oX10_addFour (of42 _) rfl
theorem dX10_addFour_43 : decode cX10_addFour 43 = .ok (.dup, 1) := dec_0 oX10_addFour (of89 _) rfl
theorem dX10_addFour_44 : decode cX10_addFour 44 = .ok (.getfield 15, 3) := dec_2 oX10_addFour (of180 _) 0 15 rfl rfl
theorem dX10_addFour_47 : decode cX10_addFour 47 = .ok (.iconst 1, 1) := dec_0 oX10_addFour (of4 _) rfl
theorem dX10_addFour_48 : decode cX10_addFour 48 = .ok (.iadd, 1) := dec_0 oX10_addFour (of96 _) rfl
theorem dX10_addFour_49 : decode cX10_addFour 49 = .ok (.putfield 15, 3) := dec_2 oX10_addFour (of181 _) 0 15 rfl rfl
theorem dX10_addFour_52 : decode cX10_addFour 52 = .ok (.iinc 2 (-8), 3) := dec_ii oX10_addFour (of132 _) 2 248 rfl (sg8n (k := 8) rfl) rfl
theorem dX10_addFour_55 : decode cX10_addFour 55 = .ok (.goto (-52), 3) := dec_s2 oX10_addFour (of167 _) 255 204 rfl (sg16n (k := 52) rfl) rfl
theorem dX10_addFour_58 : decode cX10_addFour 58 = .ok (.return_, 1) := dec_0 oX10_addFour (of177 _) rfl
theorem dX10_addFour_7 : decode cX10_addFour 7 = .ok (.aload_n 0, 1) := dec_0 oX10_addFour (of42 _) rfl
theorem dX10_addFour_8 : decode cX10_addFour 8 = .ok (.getfield 15, 3) := dec_2 oX10_addFour (of180 _) 0 15 rfl rfl
theorem dX10_behindBlanks_0 : decode cX10_behindBlanks 0 = .ok (.iload_n 1, 1) := dec_0 oX10_behindBlanks (of27 _) rfl
theorem dX10_behindBlanks_1 : decode cX10_behindBlanks 1 = .ok (.istore_n 2, 1) := dec_0 oX10_behindBlanks (of61 _) rfl
theorem dX10_behindBlanks_2 : decode cX10_behindBlanks 2 = .ok (.iload_n 2, 1) := dec_0 oX10_behindBlanks (of28 _) rfl
theorem dX10_behindBlanks_3 : decode cX10_behindBlanks 3 = .ok (.aload_n 0, 1) := dec_0 oX10_behindBlanks (of42 _) rfl
theorem dX10_behindBlanks_4 : decode cX10_behindBlanks 4 = .ok (.getfield 15, 3) := dec_2 oX10_behindBlanks (of180 _) 0 15 rfl rfl
theorem dX10_behindBlanks_48 : decode cX10_behindBlanks 48 = .ok (.aload_n 0, 1) := dec_0 oX10_behindBlanks (of42 _) rfl
theorem dX10_behindBlanks_49 : decode cX10_behindBlanks 49 = .ok (.getfield 15, 3) := dec_2 oX10_behindBlanks (of180 _) 0 15 rfl rfl
theorem dX10_behindBlanks_52 : decode cX10_behindBlanks 52 = .ok (.ireturn, 1) := dec_0 oX10_behindBlanks (of172 _) rfl
theorem dX10_behindBlanks_7 : decode cX10_behindBlanks 7 = .ok (.if_icmp .ge 41, 3) := dec_s2 oX10_behindBlanks (of162 _) 0 41 rfl (sg16p rfl) rfl
theorem dX10_byteAt_0 : decode cX10_byteAt 0 = .ok (.iload_n 1, 1) := dec_0 oX10_byteAt (of27 _) rfl
theorem dX10_byteAt_1 : decode cX10_byteAt 1 = .ok (.ifCond .lt 29, 3) := dec_s2 oX10_byteAt (of155 _) 0 29 rfl (sg16p rfl) rfl
theorem dX10_byteAt_30 : decode cX10_byteAt 30 = .ok (.iconst (-1), 1) := dec_0 oX10_byteAt (of2 _) rfl
theorem dX10_byteAt_31 : decode cX10_byteAt 31 = .ok (.ireturn, 1) := dec_0 oX10_byteAt (of172 _) rfl
theorem dX10_byteAt_4 : decode cX10_byteAt 4 = .ok (.iload_n 1, 1) := dec_0 oX10_byteAt (of27 _) rfl
theorem dX10_byteAt_5 : decode cX10_byteAt 5 = .ok (.aload_n 0, 1) := dec_0 oX10_byteAt (of42 _) rfl
theorem dX10_byteAt_6 : decode cX10_byteAt 6 = .ok (.getfield 15, 3) := dec_2 oX10_byteAt (of180 _) 0 15 rfl rfl
theorem dX10_byteAt_9 : decode cX10_byteAt 9 = .ok (.if_icmp .ge 21, 3) := dec_s2 oX10_byteAt (of162 _) 0 21 rfl (sg16p rfl) rfl
theorem dX10_init_0 : decode cX10_init 0 = .ok (.aload_n 0, 1) := dec_0 oX10_init (of42 _) rfl
theorem dX10_init_1 : decode cX10_init 1 = .ok (.invokespecial 3, 3) := dec_2 oX10_init (of183 _) 0 3 rfl rfl
theorem dX10_init_10 : decode cX10_init 10 = .ok (.putfield 9, 3) := dec_2 oX10_init (of181 _) 0 9 rfl rfl
theorem dX10_init_13 : decode cX10_init 13 = .ok (.return_, 1) := dec_0 oX10_init (of177 _) rfl
theorem dX10_init_4 : decode cX10_init 4 = .ok (.aload_n 0, 1) := dec_0 oX10_init (of42 _) rfl
theorem dX10_init_5 : decode cX10_init 5 = .ok (.sipush 2000, 3) := dec_s2 oX10_init (of17 _) 7 208 rfl (sg16p rfl) rfl
theorem dX10_init_8 : decode cX10_init 8 = .ok (.newarray .int, 2) := by decide +kernel
theorem dX10_toFirstToken_0 : decode cX10_toFirstToken 0 = .ok (.aload_n 0, 1) := dec_0 oX10_toFirstToken (of42 _) rfl
theorem dX10_toFirstToken_1 : decode cX10_toFirstToken 1 = .ok (.iconst 0, 1) := dec_0 oX10_toFirstToken (of3 _) rfl
theorem dX10_toFirstToken_10 : decode cX10_toFirstToken 10 = .ok (.aload_n 0, 1) := dec_0 oX10_toFirstToken (of42 _) rfl
theorem dX10_toFirstToken_11 : decode cX10_toFirstToken 11 = .ok (.invokevirtual 25, 3) := dec_2 oX10_toFirstToken (of182 _) 0 25 rfl rfl
theorem dX10_toFirstToken_14 : decode cX10_toFirstToken 14 = .ok (.return_, 1) := dec_0 oX10_toFirstToken (of177 _) rfl
theorem dX10_toFirstToken_2 : decode cX10_toFirstToken 2 = .ok (.putfield 19, 3) := dec_2 oX10_toFirstToken (of181 _) 0 19 rfl rfl
theorem dX10_toFirstToken_5 : decode cX10_toFirstToken 5 = .ok (.aload_n 0, 1) := dec_0 oX10_toFirstToken (of42 _) rfl
theorem dX10_toFirstToken_6 : decode cX10_toFirstToken 6 = .ok (.iconst 0, 1) := dec_0 oX10_toFirstToken (of3 _) rfl
theorem dX10_toFirstToken_7 : decode cX10_toFirstToken 7 = .ok (.putfield 22, 3) := dec_2 oX10_toFirstToken (of181 _) 0 22 rfl rfl
theorem dX10_toNextToken_0 : decode cX10_toNextToken 0 = .ok (.aload_n 0, 1) := dec_0 oX10_toNextToken (of42 _) rfl
theorem dX10_toNextToken_1 : decode cX10_toNextToken 1 = .ok (.aload_n 0, 1) := dec_0 oX10_toNextToken (of42 _) rfl
theorem dX10_toNextToken_119 : decode cX10_toNextToken 119 = .ok (.return_, 1) := dec_0 oX10_toNextToken (of177 _) rfl
theorem dX10_toNextToken_12 : decode cX10_toNextToken 12 = .ok (.aload_n 0, 1) := dec_0 oX10_toNextToken (of42 _) rfl
theorem dX10_toNextToken_13 : decode cX10_toNextToken 13 = .ok (.dup, 1) := dec_0 oX10_toNextToken (of89 _) rfl
theorem dX10_toNextToken_14 : decode cX10_toNextToken 14 = .ok (.getfield 22, 3) := dec_2 oX10_toNextToken (of180 _) 0 22 rfl rfl
theorem dX10_toNextToken_17 : decode cX10_toNextToken 17 = .ok (.iconst 1, 1) := dec_0 oX10_toNextToken (of4 _) rfl
theorem dX10_toNextToken_18 : decode cX10_toNextToken 18 = .ok (.iadd, 1) := dec_0 oX10_toNextToken (of96 _) rfl
theorem dX10_toNextToken_19 : decode cX10_toNextToken 19 = .ok (.putfield 22, 3) := dec_2 oX10_toNextToken (of181 _) 0 22 rfl rfl
theorem dX10_toNextToken_2 : decode cX10_toNextToken 2 = .ok (.aload_n 0, 1) := dec_0 oX10_toNextToken (of42 _) rfl
theorem dX10_toNextToken_22 : decode cX10_toNextToken 22 = .ok (.aload_n 0, 1) := dec_0 oX10_toNextToken (of42 _) rfl
theorem dX10_toNextToken_23 : decode cX10_toNextToken 23 = .ok (.iconst 0, 1) := dec_0 oX10_toNextToken (of3 _) rfl
theorem dX10_toNextToken_24 : decode cX10_toNextToken 24 = .ok (.putfield 35, 3) := dec_2 oX10_toNextToken (of181 _) 0 35 rfl rfl
theorem dX10_toNextToken_27 : decode cX10_toNextToken 27 = .ok (.aload_n 0, 1) := dec_0 oX10_toNextToken (of42 _) rfl
theorem dX10_toNextToken_28 : decode cX10_toNextToken 28 = .ok (.aload_n 0, 1) := dec_0 oX10_toNextToken (of42 _) rfl
theorem dX10_toNextToken_29 : decode cX10_toNextToken 29 = .ok (.getfield 32, 3) := dec_2 oX10_toNextToken (of180 _) 0 32 rfl rfl
theorem dX10_toNextToken_3 : decode cX10_toNextToken 3 = .ok (.getfield 19, 3) := dec_2 oX10_toNextToken (of180 _) 0 19 rfl rfl
theorem dX10_toNextToken_32 : decode cX10_toNextToken 32 = .ok (.invokevirtual 38, 3) := dec_2 oX10_toNextToken (of182 _) 0 38 rfl rfl
theorem dX10_toNextToken_35 : decode cX10_toNextToken 35 = .ok (.istore_n 1, 1) := dec_0 oX10_toNextToken (of60 _) rfl
theorem dX10_toNextToken_36 : decode cX10_toNextToken 36 = .ok (.iload_n 1, 1) := dec_0 oX10_toNextToken (of27 _) rfl
theorem dX10_toNextToken_37 : decode cX10_toNextToken 37 = .ok (.ifCond .ge 19, 3) := dec_s2 oX10_toNextToken (of156 _) 0 19 rfl (sg16p rfl) rfl
theorem dX10_toNextToken_40 : decode cX10_toNextToken 40 = .ok (.aload_n 0, 1) := dec_0 oX10_toNextToken (of42 _) rfl
theorem dX10_toNextToken_41 : decode cX10_toNextToken 41 = .ok (.iconst 0, 1) := dec_0 oX10_toNextToken (of3 _) rfl
theorem dX10_toNextToken_42 : decode cX10_toNextToken 42 = .ok (.putfield 41, 3) := dec_2 oX10_toNextToken (of181 _) 0 41 rfl rfl
theorem dX10_toNextToken_45 : decode cX10_toNextToken 45 = .ok (.aload_n 0, 1) := dec_0 oX10_toNextToken (of42 _) rfl
theorem dX10_toNextToken_46 : decode cX10_toNextToken 46 = .ok (.aload_n 0, 1) := dec_0 oX10_toNextToken (of42 _) rfl
theorem dX10_toNextToken_47 : decode cX10_toNextToken 47 = .ok (.getfield 32, 3) := dec_2 oX10_toNextToken (of180 _) 0 32 rfl rfl
theorem dX10_toNextToken_50 : decode cX10_toNextToken 50 = .ok (.putfield 19, 3) := dec_2 oX10_toNextToken (of181 _) 0 19 rfl rfl
theorem dX10_toNextToken_53 : decode cX10_toNextToken 53 = .ok (.goto 66, 3) := dec_s2 oX10_toNextToken (of167 _) 0 66 rfl (sg16p rfl) rfl
theorem dX10_toNextToken_6 : decode cX10_toNextToken 6 = .ok (.invokevirtual 28, 3) := dec_2 oX10_toNextToken (of182 _) 0 28 rfl rfl
theorem dX10_toNextToken_9 : decode cX10_toNextToken 9 = .ok (.putfield 32, 3) := dec_2 oX10_toNextToken (of181 _) 0 32 rfl rfl
theorem dX11_alike_0 : decode cX11_alike 0 = .ok (.aload_n 0, 1) := dec_0 oX11_alike (of42 _) rfl
theorem dX11_alike_1 : decode cX11_alike 1 = .ok (.getfield 35, 3) := dec_2 oX11_alike (of180 _) 0 35 rfl rfl
theorem dX11_alike_22 : decode cX11_alike 22 = .ok (.iconst (-1), 1) := dec_0 oX11_alike (of2 _) rfl
theorem dX11_alike_23 : decode cX11_alike 23 = .ok (.ireturn, 1) := dec_0 oX11_alike (of172 _) rfl
theorem dX11_alike_4 : decode cX11_alike 4 = .ok (.iload_n 1, 1) := dec_0 oX11_alike (of27 _) rfl
theorem dX11_alike_5 : decode cX11_alike 5 = .ok (.invokevirtual 251, 3) := dec_2 oX11_alike (of182 _) 0 251 rfl rfl
theorem dX11_alike_8 : decode cX11_alike 8 = .ok (.ifCond .eq 14, 3) := dec_s2 oX11_alike (of153 _) 0 14 rfl (sg16p rfl) rfl
theorem dX11_appendPlace_0 : decode cX11_appendPlace 0 = .ok (.aload_n 0, 1) := dec_0 oX11_appendPlace (of42 _) rfl
theorem dX11_appendPlace_1 : decode cX11_appendPlace 1 = .ok (.getfield 28, 3) := dec_2 oX11_appendPlace (of180 _) 0 28 rfl rfl
theorem dX11_appendPlace_13 : decode cX11_appendPlace 13 = .ok (.aload_n 0, 1) := dec_0 oX11_appendPlace (of42 _) rfl
theorem dX11_appendPlace_14 : decode cX11_appendPlace 14 = .ok (.getfield 49, 3) := dec_2 oX11_appendPlace (of180 _) 0 49 rfl rfl
theorem dX11_appendPlace_17 : decode cX11_appendPlace 17 = .ok (.iconst 0, 1) := dec_0 oX11_appendPlace (of3 _) rfl
theorem dX11_appendPlace_18 : decode cX11_appendPlace 18 = .ok (.iconst 0, 1) := dec_0 oX11_appendPlace (of3 _) rfl
theorem dX11_appendPlace_19 : decode cX11_appendPlace 19 = .ok (.iconst 0, 1) := dec_0 oX11_appendPlace (of3 _) rfl
theorem dX11_appendPlace_20 : decode cX11_appendPlace 20 = .ok (.invokevirtual 134, 3) := dec_2 oX11_appendPlace (of182 _) 0 134 rfl rfl
theorem dX11_appendPlace_23 : decode cX11_appendPlace 23 = .ok (.aload_n 0, 1) := dec_0 oX11_appendPlace (of42 _) rfl
theorem dX11_appendPlace_24 : decode cX11_appendPlace 24 = .ok (.getfield 28, 3) := dec_2 oX11_appendPlace (of180 _) 0 28 rfl rfl
theorem dX11_appendPlace_27 : decode cX11_appendPlace 27 = .ok (.getfield 138, 3) := dec_2 oX11_appendPlace (of180 _) 0 138 rfl rfl
theorem dX11_appendPlace_30 : decode cX11_appendPlace 30 = .ok (.ireturn, 1) := dec_0 oX11_appendPlace (of172 _) rfl
theorem dX11_appendPlace_4 : decode cX11_appendPlace 4 = .ok (.iload_n 1, 1) := dec_0 oX11_appendPlace (of27 _) rfl
theorem dX11_appendPlace_5 : decode cX11_appendPlace 5 = .ok (.invokevirtual 130, 3) := dec_2 oX11_appendPlace (of182 _) 0 130 rfl rfl
theorem dX11_appendPlace_8 : decode cX11_appendPlace 8 = .ok (.ifCond .ne 5, 3) := dec_s2 oX11_appendPlace (of154 _) 0 5 rfl (sg16p rfl) rfl
theorem dX11_at_0 : decode cX11_at 0 = .ok (.aload_n 0, 1) := dec_0 oX11_at (of42 _) rfl
theorem dX11_at_1 : decode cX11_at 1 = .ok (.getfield 28, 3) := dec_2 oX11_at (of180 _) 0 28 rfl rfl
theorem dX11_at_4 : decode cX11_at 4 = .ok (.iload_n 1, 1) := dec_0 oX11_at (of27 _) rfl
theorem dX11_at_5 : decode cX11_at 5 = .ok (.invokevirtual 120, 3) := dec_2 oX11_at (of182 _) 0 120 rfl rfl
theorem dX11_at_8 : decode cX11_at 8 = .ok (.ireturn, 1) := dec_0 oX11_at (of172 _) rfl
theorem dX11_back_0 : decode cX11_back 0 = .ok (.iload_n 1, 1) := dec_0 oX11_back (of27 _) rfl
theorem dX11_back_1 : decode cX11_back 1 = .ok (.ifCond .lt 14, 3) := dec_s2 oX11_back (of155 _) 0 14 rfl (sg16p rfl) rfl
theorem dX11_back_12 : decode cX11_back 12 = .ok (.if_icmp .le 5, 3) := dec_s2 oX11_back (of164 _) 0 5 rfl (sg16p rfl) rfl
theorem dX11_back_15 : decode cX11_back 15 = .ok (.iconst (-1), 1) := dec_0 oX11_back (of2 _) rfl
theorem dX11_back_16 : decode cX11_back 16 = .ok (.ireturn, 1) := dec_0 oX11_back (of172 _) rfl
theorem dX11_back_17 : decode cX11_back 17 = .ok (.aload_n 0, 1) := dec_0 oX11_back (of42 _) rfl
theorem dX11_back_18 : decode cX11_back 18 = .ok (.getfield 10, 3) := dec_2 oX11_back (of180 _) 0 10 rfl rfl
theorem dX11_back_21 : decode cX11_back 21 = .ok (.dup, 1) := dec_0 oX11_back (of89 _) rfl
theorem dX11_back_22 : decode cX11_back 22 = .ok (.getfield 85, 3) := dec_2 oX11_back (of180 _) 0 85 rfl rfl
theorem dX11_back_25 : decode cX11_back 25 = .ok (.iload_n 1, 1) := dec_0 oX11_back (of27 _) rfl
theorem dX11_back_26 : decode cX11_back 26 = .ok (.isub, 1) := dec_0 oX11_back (of100 _) rfl
theorem dX11_back_27 : decode cX11_back 27 = .ok (.putfield 85, 3) := dec_2 oX11_back (of181 _) 0 85 rfl rfl
theorem dX11_back_30 : decode cX11_back 30 = .ok (.aload_n 0, 1) := dec_0 oX11_back (of42 _) rfl
theorem dX11_back_31 : decode cX11_back 31 = .ok (.getfield 10, 3) := dec_2 oX11_back (of180 _) 0 10 rfl rfl
theorem dX11_back_34 : decode cX11_back 34 = .ok (.getfield 85, 3) := dec_2 oX11_back (of180 _) 0 85 rfl rfl
theorem dX11_back_37 : decode cX11_back 37 = .ok (.ireturn, 1) := dec_0 oX11_back (of172 _) rfl
theorem dX11_back_4 : decode cX11_back 4 = .ok (.iload_n 1, 1) := dec_0 oX11_back (of27 _) rfl
theorem dX11_back_5 : decode cX11_back 5 = .ok (.aload_n 0, 1) := dec_0 oX11_back (of42 _) rfl
theorem dX11_back_6 : decode cX11_back 6 = .ok (.getfield 10, 3) := dec_2 oX11_back (of180 _) 0 10 rfl rfl
theorem dX11_back_9 : decode cX11_back 9 = .ok (.getfield 85, 3) := dec_2 oX11_back (of180 _) 0 85 rfl rfl
theorem dX11_best_0 : decode cX11_best 0 = .ok (.iload_n 2, 1) := dec_0 oX11_best (of28 _) rfl
theorem dX11_best_1 : decode cX11_best 1 = .ok (.ifCond .lt 19, 3) := dec_s2 oX11_best (of155 _) 0 19 rfl (sg16p rfl) rfl
theorem dX11_best_10 : decode cX11_best 10 = .ok (.getfield 35, 3) := dec_2 oX11_best (of180 _) 0 35 rfl rfl
theorem dX11_best_13 : decode cX11_best 13 = .ok (.iload_n 1, 1) := dec_0 oX11_best (of27 _) rfl
theorem dX11_best_14 : decode cX11_best 14 = .ok (.invokevirtual 251, 3) := dec_2 oX11_best (of182 _) 0 251 rfl rfl
theorem dX11_best_17 : decode cX11_best 17 = .ok (.ifCond .ne 5, 3) := dec_s2 oX11_best (of154 _) 0 5 rfl (sg16p rfl) rfl
theorem dX11_best_20 : decode cX11_best 20 = .ok (.iconst (-1), 1) := dec_0 oX11_best (of2 _) rfl
theorem dX11_best_21 : decode cX11_best 21 = .ok (.ireturn, 1) := dec_0 oX11_best (of172 _) rfl
theorem dX11_best_4 : decode cX11_best 4 = .ok (.iload_n 2, 1) := dec_0 oX11_best (of28 _) rfl
theorem dX11_best_5 : decode cX11_best 5 = .ok (.iconst 1, 1) := dec_0 oX11_best (of4 _) rfl
theorem dX11_best_6 : decode cX11_best 6 = .ok (.if_icmp .gt 14, 3) := dec_s2 oX11_best (of163 _) 0 14 rfl (sg16p rfl) rfl
theorem dX11_best_9 : decode cX11_best 9 = .ok (.aload_n 0, 1) := dec_0 oX11_best (of42 _) rfl
theorem dX11_bound_0 : decode cX11_bound 0 = .ok (.aload_n 0, 1) := dec_0 oX11_bound (of42 _) rfl
theorem dX11_bound_1 : decode cX11_bound 1 = .ok (.getfield 65, 3) := dec_2 oX11_bound (of180 _) 0 65 rfl rfl
theorem dX11_bound_12 : decode cX11_bound 12 = .ok (.iconst (-1), 1) := dec_0 oX11_bound (of2 _) rfl
theorem dX11_bound_13 : decode cX11_bound 13 = .ok (.ireturn, 1) := dec_0 oX11_bound (of172 _) rfl
theorem dX11_bound_4 : decode cX11_bound 4 = .ok (.iload_n 1, 1) := dec_0 oX11_bound (of27 _) rfl
theorem dX11_bound_5 : decode cX11_bound 5 = .ok (.iload_n 2, 1) := dec_0 oX11_bound (of28 _) rfl
theorem dX11_bound_6 : decode cX11_bound 6 = .ok (.invokevirtual 212, 3) := dec_2 oX11_bound (of182 _) 0 212 rfl rfl
theorem dX11_bound_9 : decode cX11_bound 9 = .ok (.ifCond .ne 5, 3) := dec_s2 oX11_bound (of154 _) 0 5 rfl (sg16p rfl) rfl
theorem dX11_cause_0 : decode cX11_cause 0 = .ok (.aload_n 0, 1) := dec_0 oX11_cause (of42 _) rfl
theorem dX11_cause_1 : decode cX11_cause 1 = .ok (.getfield 21, 3) := dec_2 oX11_cause (of180 _) 0 21 rfl rfl
theorem dX11_cause_4 : decode cX11_cause 4 = .ok (.getfield 117, 3) := dec_2 oX11_cause (of180 _) 0 117 rfl rfl
theorem dX11_cause_7 : decode cX11_cause 7 = .ok (.ireturn, 1) := dec_0 oX11_cause (of172 _) rfl
theorem dX11_count_0 : decode cX11_count 0 = .ok (.iload_n 1, 1) := dec_0 oX11_count (of27 _) rfl
theorem dX11_count_1 : decode cX11_count 1 = .ok (.tableswitch 221 0 14 #[75, 83, 91, 99, 108, 117, 126, 135, 143, 151, 159, 175, 180, 196, 212], 75) := by decide +kernel
theorem dX11_count_100 : decode cX11_count 100 = .ok (.aload_n 0, 1) := dec_0 oX11_count (of42 _) rfl
theorem dX11_count_101 : decode cX11_count 101 = .ok (.getfield 42, 3) := dec_2 oX11_count (of180 _) 0 42 rfl rfl
theorem dX11_count_104 : decode cX11_count 104 = .ok (.iconst 0, 1) := dec_0 oX11_count (of3 _) rfl
theorem dX11_count_105 : decode cX11_count 105 = .ok (.invokevirtual 154, 3) := dec_2 oX11_count (of182 _) 0 154 rfl rfl
theorem dX11_count_108 : decode cX11_count 108 = .ok (.ireturn, 1) := dec_0 oX11_count (of172 _) rfl
theorem dX11_count_109 : decode cX11_count 109 = .ok (.aload_n 0, 1) := dec_0 oX11_count (of42 _) rfl
theorem dX11_count_110 : decode cX11_count 110 = .ok (.getfield 42, 3) := dec_2 oX11_count (of180 _) 0 42 rfl rfl
theorem dX11_count_113 : decode cX11_count 113 = .ok (.iconst 1, 1) := dec_0 oX11_count (of4 _) rfl
theorem dX11_count_114 : decode cX11_count 114 = .ok (.invokevirtual 154, 3) := dec_2 oX11_count (of182 _) 0 154 rfl rfl
theorem dX11_count_117 : decode cX11_count 117 = .ok (.ireturn, 1) := dec_0 oX11_count (of172 _) rfl
theorem dX11_count_118 : decode cX11_count 118 = .ok (.aload_n 0, 1) := dec_0 oX11_count (of42 _) rfl
theorem dX11_count_119 : decode cX11_count 119 = .ok (.getfield 42, 3) := dec_2 oX11_count (of180 _) 0 42 rfl rfl
theorem dX11_count_122 : decode cX11_count 122 = .ok (.iconst 2, 1) := dec_0 oX11_count (of5 _) rfl
theorem dX11_count_123 : decode cX11_count 123 = .ok (.invokevirtual 154, 3) := dec_2 oX11_count (of182 _) 0 154 rfl rfl
theorem dX11_count_126 : decode cX11_count 126 = .ok (.ireturn, 1) := dec_0 oX11_count (of172 _) rfl
theorem dX11_count_127 : decode cX11_count 127 = .ok (.aload_n 0, 1) := dec_0 oX11_count (of42 _) rfl
theorem dX11_count_128 : decode cX11_count 128 = .ok (.getfield 42, 3) := dec_2 oX11_count (of180 _) 0 42 rfl rfl
theorem dX11_count_131 : decode cX11_count 131 = .ok (.iconst 3, 1) := dec_0 oX11_count (of6 _) rfl
theorem dX11_count_132 : decode cX11_count 132 = .ok (.invokevirtual 154, 3) := dec_2 oX11_count (of182 _) 0 154 rfl rfl
theorem dX11_count_135 : decode cX11_count 135 = .ok (.ireturn, 1) := dec_0 oX11_count (of172 _) rfl
theorem dX11_count_136 : decode cX11_count 136 = .ok (.aload_n 0, 1) := dec_0 oX11_count (of42 _) rfl
theorem dX11_count_137 : decode cX11_count 137 = .ok (.getfield 28, 3) := dec_2 oX11_count (of180 _) 0 28 rfl rfl
theorem dX11_count_140 : decode cX11_count 140 = .ok (.invokevirtual 378, 3) := dec_2 oX11_count (of182 _) 1 122 rfl rfl
theorem dX11_count_143 : decode cX11_count 143 = .ok (.ireturn, 1) := dec_0 oX11_count (of172 _) rfl
theorem dX11_count_144 : decode cX11_count 144 = .ok (.aload_n 0, 1) := dec_0 oX11_count (of42 _) rfl
theorem dX11_count_145 : decode cX11_count 145 = .ok (.getfield 10, 3) := dec_2 oX11_count (of180 _) 0 10 rfl rfl
theorem dX11_count_148 : decode cX11_count 148 = .ok (.getfield 85, 3) := dec_2 oX11_count (of180 _) 0 85 rfl rfl
theorem dX11_count_151 : decode cX11_count 151 = .ok (.ireturn, 1) := dec_0 oX11_count (of172 _) rfl
theorem dX11_count_152 : decode cX11_count 152 = .ok (.aload_n 0, 1) := dec_0 oX11_count (of42 _) rfl
theorem dX11_count_153 : decode cX11_count 153 = .ok (.getfield 49, 3) := dec_2 oX11_count (of180 _) 0 49 rfl rfl
theorem dX11_count_156 : decode cX11_count 156 = .ok (.getfield 381, 3) := dec_2 oX11_count (of180 _) 1 125 rfl rfl
theorem dX11_count_159 : decode cX11_count 159 = .ok (.ireturn, 1) := dec_0 oX11_count (of172 _) rfl
theorem dX11_count_160 : decode cX11_count 160 = .ok (.aload_n 0, 1) := dec_0 oX11_count (of42 _) rfl
theorem dX11_count_161 : decode cX11_count 161 = .ok (.getfield 28, 3) := dec_2 oX11_count (of180 _) 0 28 rfl rfl
theorem dX11_count_164 : decode cX11_count 164 = .ok (.iconst 0, 1) := dec_0 oX11_count (of3 _) rfl
theorem dX11_count_165 : decode cX11_count 165 = .ok (.aload_n 0, 1) := dec_0 oX11_count (of42 _) rfl
theorem dX11_count_166 : decode cX11_count 166 = .ok (.getfield 28, 3) := dec_2 oX11_count (of180 _) 0 28 rfl rfl
theorem dX11_count_169 : decode cX11_count 169 = .ok (.getfield 138, 3) := dec_2 oX11_count (of180 _) 0 138 rfl rfl
theorem dX11_count_172 : decode cX11_count 172 = .ok (.invokevirtual 187, 3) := dec_2 oX11_count (of182 _) 0 187 rfl rfl
theorem dX11_count_175 : decode cX11_count 175 = .ok (.ireturn, 1) := dec_0 oX11_count (of172 _) rfl
theorem dX11_count_176 : decode cX11_count 176 = .ok (.aload_n 0, 1) := dec_0 oX11_count (of42 _) rfl
theorem dX11_count_177 : decode cX11_count 177 = .ok (.invokevirtual 382, 3) := dec_2 oX11_count (of182 _) 1 126 rfl rfl
theorem dX11_count_180 : decode cX11_count 180 = .ok (.ireturn, 1) := dec_0 oX11_count (of172 _) rfl
theorem dX11_count_181 : decode cX11_count 181 = .ok (.aload_n 0, 1) := dec_0 oX11_count (of42 _) rfl
theorem dX11_count_182 : decode cX11_count 182 = .ok (.getfield 28, 3) := dec_2 oX11_count (of180 _) 0 28 rfl rfl
theorem dX11_count_185 : decode cX11_count 185 = .ok (.iconst 0, 1) := dec_0 oX11_count (of3 _) rfl
theorem dX11_count_186 : decode cX11_count 186 = .ok (.aload_n 0, 1) := dec_0 oX11_count (of42 _) rfl
theorem dX11_count_187 : decode cX11_count 187 = .ok (.getfield 28, 3) := dec_2 oX11_count (of180 _) 0 28 rfl rfl
theorem dX11_count_190 : decode cX11_count 190 = .ok (.getfield 138, 3) := dec_2 oX11_count (of180 _) 0 138 rfl rfl
theorem dX11_count_193 : decode cX11_count 193 = .ok (.invokevirtual 193, 3) := dec_2 oX11_count (of182 _) 0 193 rfl rfl
theorem dX11_count_196 : decode cX11_count 196 = .ok (.ireturn, 1) := dec_0 oX11_count (of172 _) rfl
theorem dX11_count_197 : decode cX11_count 197 = .ok (.aload_n 0, 1) := dec_0 oX11_count (of42 _) rfl
theorem dX11_count_198 : decode cX11_count 198 = .ok (.getfield 28, 3) := dec_2 oX11_count (of180 _) 0 28 rfl rfl
theorem dX11_count_201 : decode cX11_count 201 = .ok (.iconst 0, 1) := dec_0 oX11_count (of3 _) rfl
theorem dX11_count_202 : decode cX11_count 202 = .ok (.aload_n 0, 1) := dec_0 oX11_count (of42 _) rfl
theorem dX11_count_203 : decode cX11_count 203 = .ok (.getfield 28, 3) := dec_2 oX11_count (of180 _) 0 28 rfl rfl
theorem dX11_count_206 : decode cX11_count 206 = .ok (.getfield 138, 3) := dec_2 oX11_count (of180 _) 0 138 rfl rfl
theorem dX11_count_209 : decode cX11_count 209 = .ok (.invokevirtual 190, 3) := dec_2 oX11_count (of182 _) 0 190 rfl rfl
theorem dX11_count_212 : decode cX11_count 212 = .ok (.ireturn, 1) := dec_0 oX11_count (of172 _) rfl
theorem dX11_count_213 : decode cX11_count 213 = .ok (.aload_n 0, 1) := dec_0 oX11_count (of42 _) rfl
theorem dX11_count_214 : decode cX11_count 214 = .ok (.getfield 28, 3) := dec_2 oX11_count (of180 _) 0 28 rfl rfl
theorem dX11_count_217 : decode cX11_count 217 = .ok (.iconst 0, 1) := dec_0 oX11_count (of3 _) rfl
theorem dX11_count_218 : decode cX11_count 218 = .ok (.invokevirtual 359, 3) := dec_2 oX11_count (of182 _) 1 103 rfl rfl
theorem dX11_count_221 : decode cX11_count 221 = .ok (.ireturn, 1) := dec_0 oX11_count (of172 _) rfl
theorem dX11_count_222 : decode cX11_count 222 = .ok (.iconst (-1), 1) := dec_0 oX11_count (of2 _) rfl
theorem dX11_count_223 : decode cX11_count 223 = .ok (.ireturn, 1) := dec_0 oX11_count (of172 _) rfl
theorem dX11_count_76 : decode cX11_count 76 = .ok (.aload_n 0, 1) := dec_0 oX11_count (of42 _) rfl
theorem dX11_count_77 : decode cX11_count 77 = .ok (.getfield 28, 3) := dec_2 oX11_count (of180 _) 0 28 rfl rfl
theorem dX11_count_80 : decode cX11_count 80 = .ok (.getfield 138, 3) := dec_2 oX11_count (of180 _) 0 138 rfl rfl
theorem dX11_count_83 : decode cX11_count 83 = .ok (.ireturn, 1) := dec_0 oX11_count (of172 _) rfl
theorem dX11_count_84 : decode cX11_count 84 = .ok (.aload_n 0, 1) := dec_0 oX11_count (of42 _) rfl
theorem dX11_count_85 : decode cX11_count 85 = .ok (.getfield 28, 3) := dec_2 oX11_count (of180 _) 0 28 rfl rfl
theorem dX11_count_88 : decode cX11_count 88 = .ok (.invokevirtual 374, 3) := dec_2 oX11_count (of182 _) 1 118 rfl rfl
theorem dX11_count_91 : decode cX11_count 91 = .ok (.ireturn, 1) := dec_0 oX11_count (of172 _) rfl
theorem dX11_count_92 : decode cX11_count 92 = .ok (.aload_n 0, 1) := dec_0 oX11_count (of42 _) rfl
theorem dX11_count_93 : decode cX11_count 93 = .ok (.getfield 35, 3) := dec_2 oX11_count (of180 _) 0 35 rfl rfl
theorem dX11_count_96 : decode cX11_count 96 = .ok (.getfield 377, 3) := dec_2 oX11_count (of180 _) 1 121 rfl rfl
theorem dX11_count_99 : decode cX11_count 99 = .ok (.ireturn, 1) := dec_0 oX11_count (of172 _) rfl
theorem dX11_cover_0 : decode cX11_cover 0 = .ok (.iload_n 2, 1) := dec_0 oX11_cover (of28 _) rfl
theorem dX11_cover_1 : decode cX11_cover 1 = .ok (.ifCond .lt 14, 3) := dec_s2 oX11_cover (of155 _) 0 14 rfl (sg16p rfl) rfl
theorem dX11_cover_12 : decode cX11_cover 12 = .ok (.ifCond .ne 5, 3) := dec_s2 oX11_cover (of154 _) 0 5 rfl (sg16p rfl) rfl
theorem dX11_cover_15 : decode cX11_cover 15 = .ok (.iconst (-1), 1) := dec_0 oX11_cover (of2 _) rfl
theorem dX11_cover_16 : decode cX11_cover 16 = .ok (.ireturn, 1) := dec_0 oX11_cover (of172 _) rfl
theorem dX11_cover_4 : decode cX11_cover 4 = .ok (.aload_n 0, 1) := dec_0 oX11_cover (of42 _) rfl
theorem dX11_cover_5 : decode cX11_cover 5 = .ok (.getfield 35, 3) := dec_2 oX11_cover (of180 _) 0 35 rfl rfl
theorem dX11_cover_8 : decode cX11_cover 8 = .ok (.iload_n 1, 1) := dec_0 oX11_cover (of27 _) rfl
theorem dX11_cover_9 : decode cX11_cover 9 = .ok (.invokevirtual 251, 3) := dec_2 oX11_cover (of182 _) 0 251 rfl rfl
theorem dX11_distance_0 : decode cX11_distance 0 = .ok (.aload_n 0, 1) := dec_0 oX11_distance (of42 _) rfl
theorem dX11_distance_1 : decode cX11_distance 1 = .ok (.getfield 65, 3) := dec_2 oX11_distance (of180 _) 0 65 rfl rfl
theorem dX11_distance_25 : decode cX11_distance 25 = .ok (.iconst (-1), 1) := dec_0 oX11_distance (of2 _) rfl
theorem dX11_distance_26 : decode cX11_distance 26 = .ok (.ireturn, 1) := dec_0 oX11_distance (of172 _) rfl
theorem dX11_distance_4 : decode cX11_distance 4 = .ok (.iload_n 1, 1) := dec_0 oX11_distance (of27 _) rfl
theorem dX11_distance_5 : decode cX11_distance 5 = .ok (.iload_n 2, 1) := dec_0 oX11_distance (of28 _) rfl
theorem dX11_distance_6 : decode cX11_distance 6 = .ok (.invokevirtual 212, 3) := dec_2 oX11_distance (of182 _) 0 212 rfl rfl
theorem dX11_distance_9 : decode cX11_distance 9 = .ok (.ifCond .eq 16, 3) := dec_s2 oX11_distance (of153 _) 0 16 rfl (sg16p rfl) rfl
theorem dX11_drop_0 : decode cX11_drop 0 = .ok (.aload_n 0, 1) := dec_0 oX11_drop (of42 _) rfl
theorem dX11_drop_1 : decode cX11_drop 1 = .ok (.getfield 28, 3) := dec_2 oX11_drop (of180 _) 0 28 rfl rfl
theorem dX11_drop_11 : decode cX11_drop 11 = .ok (.iconst 0, 1) := dec_0 oX11_drop (of3 _) rfl
theorem dX11_drop_12 : decode cX11_drop 12 = .ok (.ireturn, 1) := dec_0 oX11_drop (of172 _) rfl
theorem dX11_drop_4 : decode cX11_drop 4 = .ok (.iload_n 1, 1) := dec_0 oX11_drop (of27 _) rfl
theorem dX11_drop_5 : decode cX11_drop 5 = .ok (.invokevirtual 151, 3) := dec_2 oX11_drop (of182 _) 0 151 rfl rfl
theorem dX11_drop_8 : decode cX11_drop 8 = .ok (.ifCond .ne 5, 3) := dec_s2 oX11_drop (of154 _) 0 5 rfl (sg16p rfl) rfl
theorem dX11_feed_0 : decode cX11_feed 0 = .ok (.aload_n 0, 1) := dec_0 oX11_feed (of42 _) rfl
theorem dX11_feed_1 : decode cX11_feed 1 = .ok (.getfield 10, 3) := dec_2 oX11_feed (of180 _) 0 10 rfl rfl
theorem dX11_feed_10 : decode cX11_feed 10 = .ok (.if_icmp .le 5, 3) := dec_s2 oX11_feed (of164 _) 0 5 rfl (sg16p rfl) rfl
theorem dX11_feed_15 : decode cX11_feed 15 = .ok (.aload_n 0, 1) := dec_0 oX11_feed (of42 _) rfl
theorem dX11_feed_16 : decode cX11_feed 16 = .ok (.getfield 10, 3) := dec_2 oX11_feed (of180 _) 0 10 rfl rfl
theorem dX11_feed_19 : decode cX11_feed 19 = .ok (.iload_n 1, 1) := dec_0 oX11_feed (of27 _) rfl
theorem dX11_feed_20 : decode cX11_feed 20 = .ok (.invokevirtual 89, 3) := dec_2 oX11_feed (of182 _) 0 89 rfl rfl
theorem dX11_feed_23 : decode cX11_feed 23 = .ok (.aload_n 0, 1) := dec_0 oX11_feed (of42 _) rfl
theorem dX11_feed_24 : decode cX11_feed 24 = .ok (.getfield 10, 3) := dec_2 oX11_feed (of180 _) 0 10 rfl rfl
theorem dX11_feed_27 : decode cX11_feed 27 = .ok (.iload_n 2, 1) := dec_0 oX11_feed (of28 _) rfl
theorem dX11_feed_28 : decode cX11_feed 28 = .ok (.invokevirtual 89, 3) := dec_2 oX11_feed (of182 _) 0 89 rfl rfl
theorem dX11_feed_31 : decode cX11_feed 31 = .ok (.aload_n 0, 1) := dec_0 oX11_feed (of42 _) rfl
theorem dX11_feed_32 : decode cX11_feed 32 = .ok (.getfield 10, 3) := dec_2 oX11_feed (of180 _) 0 10 rfl rfl
theorem dX11_feed_35 : decode cX11_feed 35 = .ok (.iload_n 3, 1) := dec_0 oX11_feed (of29 _) rfl
theorem dX11_feed_36 : decode cX11_feed 36 = .ok (.invokevirtual 89, 3) := dec_2 oX11_feed (of182 _) 0 89 rfl rfl
theorem dX11_feed_39 : decode cX11_feed 39 = .ok (.aload_n 0, 1) := dec_0 oX11_feed (of42 _) rfl
theorem dX11_feed_4 : decode cX11_feed 4 = .ok (.getfield 85, 3) := dec_2 oX11_feed (of180 _) 0 85 rfl rfl
theorem dX11_feed_40 : decode cX11_feed 40 = .ok (.getfield 10, 3) := dec_2 oX11_feed (of180 _) 0 10 rfl rfl
theorem dX11_feed_43 : decode cX11_feed 43 = .ok (.iload 4, 2) := dec_1 oX11_feed (of21 _) 4 rfl rfl
theorem dX11_feed_45 : decode cX11_feed 45 = .ok (.invokevirtual 89, 3) := dec_2 oX11_feed (of182 _) 0 89 rfl rfl
theorem dX11_feed_48 : decode cX11_feed 48 = .ok (.aload_n 0, 1) := dec_0 oX11_feed (of42 _) rfl
theorem dX11_feed_49 : decode cX11_feed 49 = .ok (.getfield 10, 3) := dec_2 oX11_feed (of180 _) 0 10 rfl rfl
theorem dX11_feed_52 : decode cX11_feed 52 = .ok (.iload 5, 2) := dec_1 oX11_feed (of21 _) 5 rfl rfl
theorem dX11_feed_54 : decode cX11_feed 54 = .ok (.invokevirtual 89, 3) := dec_2 oX11_feed (of182 _) 0 89 rfl rfl
theorem dX11_feed_57 : decode cX11_feed 57 = .ok (.aload_n 0, 1) := dec_0 oX11_feed (of42 _) rfl
theorem dX11_feed_58 : decode cX11_feed 58 = .ok (.getfield 10, 3) := dec_2 oX11_feed (of180 _) 0 10 rfl rfl
theorem dX11_feed_61 : decode cX11_feed 61 = .ok (.getfield 85, 3) := dec_2 oX11_feed (of180 _) 0 85 rfl rfl
theorem dX11_feed_64 : decode cX11_feed 64 = .ok (.ireturn, 1) := dec_0 oX11_feed (of172 _) rfl
theorem dX11_feed_7 : decode cX11_feed 7 = .ok (.sipush 1980, 3) := dec_s2 oX11_feed (of17 _) 7 188 rfl (sg16p rfl) rfl
theorem dX11_fired_0 : decode cX11_fired 0 = .ok (.iload_n 1, 1) := dec_0 oX11_fired (of27 _) rfl
theorem dX11_fired_1 : decode cX11_fired 1 = .ok (.ifCond .ge 7, 3) := dec_s2 oX11_fired (of156 _) 0 7 rfl (sg16p rfl) rfl
theorem dX11_fired_12 : decode cX11_fired 12 = .ok (.iload_n 1, 1) := dec_0 oX11_fired (of27 _) rfl
theorem dX11_fired_13 : decode cX11_fired 13 = .ok (.invokevirtual 266, 3) := dec_2 oX11_fired (of182 _) 1 10 rfl rfl
theorem dX11_fired_16 : decode cX11_fired 16 = .ok (.ireturn, 1) := dec_0 oX11_fired (of172 _) rfl
theorem dX11_fired_4 : decode cX11_fired 4 = .ok (.iconst (-1), 1) := dec_0 oX11_fired (of2 _) rfl
theorem dX11_fired_5 : decode cX11_fired 5 = .ok (.goto 11, 3) := dec_s2 oX11_fired (of167 _) 0 11 rfl (sg16p rfl) rfl
theorem dX11_fired_8 : decode cX11_fired 8 = .ok (.aload_n 0, 1) := dec_0 oX11_fired (of42 _) rfl
theorem dX11_fired_9 : decode cX11_fired 9 = .ok (.getfield 74, 3) := dec_2 oX11_fired (of180 _) 0 74 rfl rfl
theorem dX11_flat_0 : decode cX11_flat 0 = .ok (.iload_n 1, 1) := dec_0 oX11_flat (of27 _) rfl
theorem dX11_flat_1 : decode cX11_flat 1 = .ok (.iconst 1, 1) := dec_0 oX11_flat (of4 _) rfl
theorem dX11_flat_12 : decode cX11_flat 12 = .ok (.iconst (-1), 1) := dec_0 oX11_flat (of2 _) rfl
theorem dX11_flat_13 : decode cX11_flat 13 = .ok (.goto 11, 3) := dec_s2 oX11_flat (of167 _) 0 11 rfl (sg16p rfl) rfl
theorem dX11_flat_16 : decode cX11_flat 16 = .ok (.aload_n 0, 1) := dec_0 oX11_flat (of42 _) rfl
theorem dX11_flat_17 : decode cX11_flat 17 = .ok (.getfield 28, 3) := dec_2 oX11_flat (of180 _) 0 28 rfl rfl
theorem dX11_flat_2 : decode cX11_flat 2 = .ok (.if_icmp .lt 10, 3) := dec_s2 oX11_flat (of161 _) 0 10 rfl (sg16p rfl) rfl
theorem dX11_flat_20 : decode cX11_flat 20 = .ok (.iload_n 1, 1) := dec_0 oX11_flat (of27 _) rfl
theorem dX11_flat_21 : decode cX11_flat 21 = .ok (.invokevirtual 353, 3) := dec_2 oX11_flat (of182 _) 1 97 rfl rfl
theorem dX11_flat_24 : decode cX11_flat 24 = .ok (.ireturn, 1) := dec_0 oX11_flat (of172 _) rfl
theorem dX11_flat_5 : decode cX11_flat 5 = .ok (.iload_n 1, 1) := dec_0 oX11_flat (of27 _) rfl
theorem dX11_flat_6 : decode cX11_flat 6 = .ok (.sipush 160, 3) := dec_s2 oX11_flat (of17 _) 0 160 rfl (sg16p rfl) rfl
theorem dX11_flat_9 : decode cX11_flat 9 = .ok (.if_icmp .le 7, 3) := dec_s2 oX11_flat (of164 _) 0 7 rfl (sg16p rfl) rfl
theorem dX11_gap_0 : decode cX11_gap 0 = .ok (.aload_n 0, 1) := dec_0 oX11_gap (of42 _) rfl
theorem dX11_gap_1 : decode cX11_gap 1 = .ok (.sipush (-1000), 3) := dec_s2 oX11_gap (of17 _) 252 24 rfl (sg16n (k := 1000) rfl) rfl
theorem dX11_gap_4 : decode cX11_gap 4 = .ok (.invokevirtual 127, 3) := dec_2 oX11_gap (of182 _) 0 127 rfl rfl
theorem dX11_gap_7 : decode cX11_gap 7 = .ok (.ireturn, 1) := dec_0 oX11_gap (of172 _) rfl
theorem dX11_goOnFrom_0 : decode cX11_goOnFrom 0 = .ok (.aload_n 0, 1) := dec_0 oX11_goOnFrom (of42 _) rfl
theorem dX11_goOnFrom_1 : decode cX11_goOnFrom 1 = .ok (.getfield 28, 3) := dec_2 oX11_goOnFrom (of180 _) 0 28 rfl rfl
theorem dX11_goOnFrom_12 : decode cX11_goOnFrom 12 = .ok (.aload_n 1, 1) := dec_0 oX11_goOnFrom (of43 _) rfl
theorem dX11_goOnFrom_13 : decode cX11_goOnFrom 13 = .ok (.getfield 365, 3) := dec_2 oX11_goOnFrom (of180 _) 1 109 rfl rfl
theorem dX11_goOnFrom_16 : decode cX11_goOnFrom 16 = .ok (.invokevirtual 366, 3) := dec_2 oX11_goOnFrom (of182 _) 1 110 rfl rfl
theorem dX11_goOnFrom_19 : decode cX11_goOnFrom 19 = .ok (.aload_n 0, 1) := dec_0 oX11_goOnFrom (of42 _) rfl
theorem dX11_goOnFrom_20 : decode cX11_goOnFrom 20 = .ok (.getfield 49, 3) := dec_2 oX11_goOnFrom (of180 _) 0 49 rfl rfl
theorem dX11_goOnFrom_23 : decode cX11_goOnFrom 23 = .ok (.invokevirtual 371, 3) := dec_2 oX11_goOnFrom (of182 _) 1 115 rfl rfl
theorem dX11_goOnFrom_26 : decode cX11_goOnFrom 26 = .ok (.return_, 1) := dec_0 oX11_goOnFrom (of177 _) rfl
theorem dX11_goOnFrom_4 : decode cX11_goOnFrom 4 = .ok (.aload_n 1, 1) := dec_0 oX11_goOnFrom (of43 _) rfl
theorem dX11_goOnFrom_5 : decode cX11_goOnFrom 5 = .ok (.invokevirtual 369, 3) := dec_2 oX11_goOnFrom (of182 _) 1 113 rfl rfl
theorem dX11_goOnFrom_8 : decode cX11_goOnFrom 8 = .ok (.aload_n 0, 1) := dec_0 oX11_goOnFrom (of42 _) rfl
theorem dX11_goOnFrom_9 : decode cX11_goOnFrom 9 = .ok (.getfield 42, 3) := dec_2 oX11_goOnFrom (of180 _) 0 42 rfl rfl
theorem dX11_hold_0 : decode cX11_hold 0 = .ok (.iload_n 1, 1) := dec_0 oX11_hold (of27 _) rfl
theorem dX11_hold_1 : decode cX11_hold 1 = .ok (.ifCond .lt 12, 3) := dec_s2 oX11_hold (of155 _) 0 12 rfl (sg16p rfl) rfl
theorem dX11_hold_10 : decode cX11_hold 10 = .ok (.if_icmp .lt 5, 3) := dec_s2 oX11_hold (of161 _) 0 5 rfl (sg16p rfl) rfl
theorem dX11_hold_13 : decode cX11_hold 13 = .ok (.iconst 0, 1) := dec_0 oX11_hold (of3 _) rfl
theorem dX11_hold_14 : decode cX11_hold 14 = .ok (.ireturn, 1) := dec_0 oX11_hold (of172 _) rfl
theorem dX11_hold_15 : decode cX11_hold 15 = .ok (.aload_n 0, 1) := dec_0 oX11_hold (of42 _) rfl
theorem dX11_hold_16 : decode cX11_hold 16 = .ok (.getfield 56, 3) := dec_2 oX11_hold (of180 _) 0 56 rfl rfl
theorem dX11_hold_19 : decode cX11_hold 19 = .ok (.iload_n 1, 1) := dec_0 oX11_hold (of27 _) rfl
theorem dX11_hold_20 : decode cX11_hold 20 = .ok (.aaload, 1) := dec_0 oX11_hold (of50 _) rfl
theorem dX11_hold_21 : decode cX11_hold 21 = .ok (.astore_n 2, 1) := dec_0 oX11_hold (of77 _) rfl
theorem dX11_hold_22 : decode cX11_hold 22 = .ok (.aload_n 0, 1) := dec_0 oX11_hold (of42 _) rfl
theorem dX11_hold_23 : decode cX11_hold 23 = .ok (.getfield 28, 3) := dec_2 oX11_hold (of180 _) 0 28 rfl rfl
theorem dX11_hold_26 : decode cX11_hold 26 = .ok (.aload_n 2, 1) := dec_0 oX11_hold (of44 _) rfl
theorem dX11_hold_27 : decode cX11_hold 27 = .ok (.invokevirtual 362, 3) := dec_2 oX11_hold (of182 _) 1 106 rfl rfl
theorem dX11_hold_30 : decode cX11_hold 30 = .ok (.aload_n 2, 1) := dec_0 oX11_hold (of44 _) rfl
theorem dX11_hold_31 : decode cX11_hold 31 = .ok (.getfield 365, 3) := dec_2 oX11_hold (of180 _) 1 109 rfl rfl
theorem dX11_hold_34 : decode cX11_hold 34 = .ok (.aload_n 0, 1) := dec_0 oX11_hold (of42 _) rfl
theorem dX11_hold_35 : decode cX11_hold 35 = .ok (.getfield 42, 3) := dec_2 oX11_hold (of180 _) 0 42 rfl rfl
theorem dX11_hold_38 : decode cX11_hold 38 = .ok (.invokevirtual 366, 3) := dec_2 oX11_hold (of182 _) 1 110 rfl rfl
theorem dX11_hold_4 : decode cX11_hold 4 = .ok (.iload_n 1, 1) := dec_0 oX11_hold (of27 _) rfl
theorem dX11_hold_41 : decode cX11_hold 41 = .ok (.aload_n 2, 1) := dec_0 oX11_hold (of44 _) rfl
theorem dX11_hold_42 : decode cX11_hold 42 = .ok (.iconst 1, 1) := dec_0 oX11_hold (of4 _) rfl
theorem dX11_hold_43 : decode cX11_hold 43 = .ok (.putfield 110, 3) := dec_2 oX11_hold (of181 _) 0 110 rfl rfl
theorem dX11_hold_46 : decode cX11_hold 46 = .ok (.iconst 1, 1) := dec_0 oX11_hold (of4 _) rfl
theorem dX11_hold_47 : decode cX11_hold 47 = .ok (.ireturn, 1) := dec_0 oX11_hold (of172 _) rfl
theorem dX11_hold_5 : decode cX11_hold 5 = .ok (.aload_n 0, 1) := dec_0 oX11_hold (of42 _) rfl
theorem dX11_hold_6 : decode cX11_hold 6 = .ok (.getfield 56, 3) := dec_2 oX11_hold (of180 _) 0 56 rfl rfl
theorem dX11_hold_9 : decode cX11_hold 9 = .ok (.arraylength, 1) := dec_0 oX11_hold (of190 _) rfl
theorem dX11_init_0 : decode cX11_init 0 = .ok (.aload_n 0, 1) := dec_0 oX11_init (of42 _) rfl
theorem dX11_init_1 : decode cX11_init 1 = .ok (.invokespecial 1, 3) := dec_2 oX11_init (of183 _) 0 1 rfl rfl
theorem dX11_init_100 : decode cX11_init 100 = .ok (.iconst 2, 1) := dec_0 oX11_init (of5 _) rfl
theorem dX11_init_101 : decode cX11_init 101 = .ok (.new 53, 3) := dec_2 oX11_init (of187 _) 0 53 rfl rfl
theorem dX11_init_104 : decode cX11_init 104 = .ok (.dup, 1) := dec_0 oX11_init (of89 _) rfl
theorem dX11_init_105 : decode cX11_init 105 = .ok (.invokespecial 55, 3) := dec_2 oX11_init (of183 _) 0 55 rfl rfl
theorem dX11_init_108 : decode cX11_init 108 = .ok (.aastore, 1) := dec_0 oX11_init (of83 _) rfl
theorem dX11_init_109 : decode cX11_init 109 = .ok (.putfield 56, 3) := dec_2 oX11_init (of181 _) 0 56 rfl rfl
theorem dX11_init_112 : decode cX11_init 112 = .ok (.aload_n 0, 1) := dec_0 oX11_init (of42 _) rfl
theorem dX11_init_113 : decode cX11_init 113 = .ok (.new 60, 3) := dec_2 oX11_init (of187 _) 0 60 rfl rfl
theorem dX11_init_116 : decode cX11_init 116 = .ok (.dup, 1) := dec_0 oX11_init (of89 _) rfl
theorem dX11_init_117 : decode cX11_init 117 = .ok (.aload_n 0, 1) := dec_0 oX11_init (of42 _) rfl
theorem dX11_init_118 : decode cX11_init 118 = .ok (.getfield 28, 3) := dec_2 oX11_init (of180 _) 0 28 rfl rfl
theorem dX11_init_12 : decode cX11_init 12 = .ok (.putfield 10, 3) := dec_2 oX11_init (of181 _) 0 10 rfl rfl
theorem dX11_init_121 : decode cX11_init 121 = .ok (.aload_n 0, 1) := dec_0 oX11_init (of42 _) rfl
theorem dX11_init_122 : decode cX11_init 122 = .ok (.getfield 35, 3) := dec_2 oX11_init (of180 _) 0 35 rfl rfl
theorem dX11_init_125 : decode cX11_init 125 = .ok (.aload_n 0, 1) := dec_0 oX11_init (of42 _) rfl
theorem dX11_init_126 : decode cX11_init 126 = .ok (.getfield 42, 3) := dec_2 oX11_init (of180 _) 0 42 rfl rfl
theorem dX11_init_129 : decode cX11_init 129 = .ok (.invokespecial 62, 3) := dec_2 oX11_init (of183 _) 0 62 rfl rfl
theorem dX11_init_132 : decode cX11_init 132 = .ok (.putfield 65, 3) := dec_2 oX11_init (of181 _) 0 65 rfl rfl
theorem dX11_init_135 : decode cX11_init 135 = .ok (.aload_n 0, 1) := dec_0 oX11_init (of42 _) rfl
theorem dX11_init_136 : decode cX11_init 136 = .ok (.new 69, 3) := dec_2 oX11_init (of187 _) 0 69 rfl rfl
theorem dX11_init_139 : decode cX11_init 139 = .ok (.dup, 1) := dec_0 oX11_init (of89 _) rfl
theorem dX11_init_140 : decode cX11_init 140 = .ok (.aload_n 0, 1) := dec_0 oX11_init (of42 _) rfl
theorem dX11_init_141 : decode cX11_init 141 = .ok (.getfield 65, 3) := dec_2 oX11_init (of180 _) 0 65 rfl rfl
theorem dX11_init_144 : decode cX11_init 144 = .ok (.invokespecial 71, 3) := dec_2 oX11_init (of183 _) 0 71 rfl rfl
theorem dX11_init_147 : decode cX11_init 147 = .ok (.putfield 74, 3) := dec_2 oX11_init (of181 _) 0 74 rfl rfl
theorem dX11_init_15 : decode cX11_init 15 = .ok (.aload_n 0, 1) := dec_0 oX11_init (of42 _) rfl
theorem dX11_init_150 : decode cX11_init 150 = .ok (.aload_n 0, 1) := dec_0 oX11_init (of42 _) rfl
theorem dX11_init_151 : decode cX11_init 151 = .ok (.new 78, 3) := dec_2 oX11_init (of187 _) 0 78 rfl rfl
theorem dX11_init_154 : decode cX11_init 154 = .ok (.dup, 1) := dec_0 oX11_init (of89 _) rfl
theorem dX11_init_155 : decode cX11_init 155 = .ok (.aload_n 0, 1) := dec_0 oX11_init (of42 _) rfl
theorem dX11_init_156 : decode cX11_init 156 = .ok (.getfield 65, 3) := dec_2 oX11_init (of180 _) 0 65 rfl rfl
theorem dX11_init_159 : decode cX11_init 159 = .ok (.invokespecial 80, 3) := dec_2 oX11_init (of183 _) 0 80 rfl rfl
theorem dX11_init_16 : decode cX11_init 16 = .ok (.new 16, 3) := dec_2 oX11_init (of187 _) 0 16 rfl rfl
theorem dX11_init_162 : decode cX11_init 162 = .ok (.putfield 81, 3) := dec_2 oX11_init (of181 _) 0 81 rfl rfl
theorem dX11_init_165 : decode cX11_init 165 = .ok (.return_, 1) := dec_0 oX11_init (of177 _) rfl
theorem dX11_init_19 : decode cX11_init 19 = .ok (.dup, 1) := dec_0 oX11_init (of89 _) rfl
theorem dX11_init_20 : decode cX11_init 20 = .ok (.aload_n 0, 1) := dec_0 oX11_init (of42 _) rfl
theorem dX11_init_21 : decode cX11_init 21 = .ok (.getfield 10, 3) := dec_2 oX11_init (of180 _) 0 10 rfl rfl
theorem dX11_init_24 : decode cX11_init 24 = .ok (.invokespecial 18, 3) := dec_2 oX11_init (of183 _) 0 18 rfl rfl
theorem dX11_init_27 : decode cX11_init 27 = .ok (.putfield 21, 3) := dec_2 oX11_init (of181 _) 0 21 rfl rfl
theorem dX11_init_30 : decode cX11_init 30 = .ok (.aload_n 0, 1) := dec_0 oX11_init (of42 _) rfl
theorem dX11_init_31 : decode cX11_init 31 = .ok (.new 25, 3) := dec_2 oX11_init (of187 _) 0 25 rfl rfl
theorem dX11_init_34 : decode cX11_init 34 = .ok (.dup, 1) := dec_0 oX11_init (of89 _) rfl
theorem dX11_init_35 : decode cX11_init 35 = .ok (.invokespecial 27, 3) := dec_2 oX11_init (of183 _) 0 27 rfl rfl
theorem dX11_init_38 : decode cX11_init 38 = .ok (.putfield 28, 3) := dec_2 oX11_init (of181 _) 0 28 rfl rfl
theorem dX11_init_4 : decode cX11_init 4 = .ok (.aload_n 0, 1) := dec_0 oX11_init (of42 _) rfl
theorem dX11_init_41 : decode cX11_init 41 = .ok (.aload_n 0, 1) := dec_0 oX11_init (of42 _) rfl
theorem dX11_init_42 : decode cX11_init 42 = .ok (.new 32, 3) := dec_2 oX11_init (of187 _) 0 32 rfl rfl
theorem dX11_init_45 : decode cX11_init 45 = .ok (.dup, 1) := dec_0 oX11_init (of89 _) rfl
theorem dX11_init_46 : decode cX11_init 46 = .ok (.invokespecial 34, 3) := dec_2 oX11_init (of183 _) 0 34 rfl rfl
theorem dX11_init_49 : decode cX11_init 49 = .ok (.putfield 35, 3) := dec_2 oX11_init (of181 _) 0 35 rfl rfl
theorem dX11_init_5 : decode cX11_init 5 = .ok (.new 7, 3) := dec_2 oX11_init (of187 _) 0 7 rfl rfl
theorem dX11_init_52 : decode cX11_init 52 = .ok (.aload_n 0, 1) := dec_0 oX11_init (of42 _) rfl
theorem dX11_init_53 : decode cX11_init 53 = .ok (.new 39, 3) := dec_2 oX11_init (of187 _) 0 39 rfl rfl
theorem dX11_init_56 : decode cX11_init 56 = .ok (.dup, 1) := dec_0 oX11_init (of89 _) rfl
theorem dX11_init_57 : decode cX11_init 57 = .ok (.invokespecial 41, 3) := dec_2 oX11_init (of183 _) 0 41 rfl rfl
theorem dX11_init_60 : decode cX11_init 60 = .ok (.putfield 42, 3) := dec_2 oX11_init (of181 _) 0 42 rfl rfl
theorem dX11_init_63 : decode cX11_init 63 = .ok (.aload_n 0, 1) := dec_0 oX11_init (of42 _) rfl
theorem dX11_init_64 : decode cX11_init 64 = .ok (.new 46, 3) := dec_2 oX11_init (of187 _) 0 46 rfl rfl
theorem dX11_init_67 : decode cX11_init 67 = .ok (.dup, 1) := dec_0 oX11_init (of89 _) rfl
theorem dX11_init_68 : decode cX11_init 68 = .ok (.invokespecial 48, 3) := dec_2 oX11_init (of183 _) 0 48 rfl rfl
theorem dX11_init_71 : decode cX11_init 71 = .ok (.putfield 49, 3) := dec_2 oX11_init (of181 _) 0 49 rfl rfl
theorem dX11_init_74 : decode cX11_init 74 = .ok (.aload_n 0, 1) := dec_0 oX11_init (of42 _) rfl
theorem dX11_init_75 : decode cX11_init 75 = .ok (.iconst 3, 1) := dec_0 oX11_init (of6 _) rfl
theorem dX11_init_76 : decode cX11_init 76 = .ok (.anewarray 53, 3) := dec_2 oX11_init (of189 _) 0 53 rfl rfl
theorem dX11_init_79 : decode cX11_init 79 = .ok (.dup, 1) := dec_0 oX11_init (of89 _) rfl
theorem dX11_init_8 : decode cX11_init 8 = .ok (.dup, 1) := dec_0 oX11_init (of89 _) rfl
theorem dX11_init_80 : decode cX11_init 80 = .ok (.iconst 0, 1) := dec_0 oX11_init (of3 _) rfl
theorem dX11_init_81 : decode cX11_init 81 = .ok (.new 53, 3) := dec_2 oX11_init (of187 _) 0 53 rfl rfl
theorem dX11_init_84 : decode cX11_init 84 = .ok (.dup, 1) := dec_0 oX11_init (of89 _) rfl
theorem dX11_init_85 : decode cX11_init 85 = .ok (.invokespecial 55, 3) := dec_2 oX11_init (of183 _) 0 55 rfl rfl
theorem dX11_init_88 : decode cX11_init 88 = .ok (.aastore, 1) := dec_0 oX11_init (of83 _) rfl
theorem dX11_init_89 : decode cX11_init 89 = .ok (.dup, 1) := dec_0 oX11_init (of89 _) rfl
theorem dX11_init_9 : decode cX11_init 9 = .ok (.invokespecial 9, 3) := dec_2 oX11_init (of183 _) 0 9 rfl rfl
theorem dX11_init_90 : decode cX11_init 90 = .ok (.iconst 1, 1) := dec_0 oX11_init (of4 _) rfl
theorem dX11_init_91 : decode cX11_init 91 = .ok (.new 53, 3) := dec_2 oX11_init (of187 _) 0 53 rfl rfl
theorem dX11_init_94 : decode cX11_init 94 = .ok (.dup, 1) := dec_0 oX11_init (of89 _) rfl
theorem dX11_init_95 : decode cX11_init 95 = .ok (.invokespecial 55, 3) := dec_2 oX11_init (of183 _) 0 55 rfl rfl
theorem dX11_init_98 : decode cX11_init 98 = .ok (.aastore, 1) := dec_0 oX11_init (of83 _) rfl
theorem dX11_init_99 : decode cX11_init 99 = .ok (.dup, 1) := dec_0 oX11_init (of89 _) rfl
theorem dX11_isStretch_0 : decode cX11_isStretch 0 = .ok (.iload_n 0, 1) := dec_0 oX11_isStretch (of26 _) rfl
theorem dX11_isStretch_1 : decode cX11_isStretch 1 = .ok (.iconst 2, 1) := dec_0 oX11_isStretch (of5 _) rfl
theorem dX11_isStretch_11 : decode cX11_isStretch 11 = .ok (.iconst 1, 1) := dec_0 oX11_isStretch (of4 _) rfl
theorem dX11_isStretch_12 : decode cX11_isStretch 12 = .ok (.goto 4, 3) := dec_s2 oX11_isStretch (of167 _) 0 4 rfl (sg16p rfl) rfl
theorem dX11_isStretch_15 : decode cX11_isStretch 15 = .ok (.iconst 0, 1) := dec_0 oX11_isStretch (of3 _) rfl
theorem dX11_isStretch_16 : decode cX11_isStretch 16 = .ok (.ireturn, 1) := dec_0 oX11_isStretch (of172 _) rfl
theorem dX11_isStretch_2 : decode cX11_isStretch 2 = .ok (.if_icmp .lt 13, 3) := dec_s2 oX11_isStretch (of161 _) 0 13 rfl (sg16p rfl) rfl
theorem dX11_isStretch_5 : decode cX11_isStretch 5 = .ok (.iload_n 0, 1) := dec_0 oX11_isStretch (of26 _) rfl
theorem dX11_isStretch_6 : decode cX11_isStretch 6 = .ok (.bipush 16, 2) := dec_s1 oX11_isStretch (of16 _) 16 rfl (sg8p rfl) rfl
theorem dX11_isStretch_8 : decode cX11_isStretch 8 = .ok (.if_icmp .gt 7, 3) := dec_s2 oX11_isStretch (of163 _) 0 7 rfl (sg16p rfl) rfl
theorem dX11_kth_0 : decode cX11_kth 0 = .ok (.iload_n 2, 1) := dec_0 oX11_kth (of28 _) rfl
theorem dX11_kth_1 : decode cX11_kth 1 = .ok (.ifCond .lt 23, 3) := dec_s2 oX11_kth (of155 _) 0 23 rfl (sg16p rfl) rfl
theorem dX11_kth_10 : decode cX11_kth 10 = .ok (.if_icmp .gt 14, 3) := dec_s2 oX11_kth (of163 _) 0 14 rfl (sg16p rfl) rfl
theorem dX11_kth_13 : decode cX11_kth 13 = .ok (.aload_n 0, 1) := dec_0 oX11_kth (of42 _) rfl
theorem dX11_kth_14 : decode cX11_kth 14 = .ok (.getfield 35, 3) := dec_2 oX11_kth (of180 _) 0 35 rfl rfl
theorem dX11_kth_17 : decode cX11_kth 17 = .ok (.iload_n 1, 1) := dec_0 oX11_kth (of27 _) rfl
theorem dX11_kth_18 : decode cX11_kth 18 = .ok (.invokevirtual 251, 3) := dec_2 oX11_kth (of182 _) 0 251 rfl rfl
theorem dX11_kth_21 : decode cX11_kth 21 = .ok (.ifCond .ne 5, 3) := dec_s2 oX11_kth (of154 _) 0 5 rfl (sg16p rfl) rfl
theorem dX11_kth_24 : decode cX11_kth 24 = .ok (.iconst (-1), 1) := dec_0 oX11_kth (of2 _) rfl
theorem dX11_kth_25 : decode cX11_kth 25 = .ok (.ireturn, 1) := dec_0 oX11_kth (of172 _) rfl
theorem dX11_kth_4 : decode cX11_kth 4 = .ok (.iload_n 3, 1) := dec_0 oX11_kth (of29 _) rfl
theorem dX11_kth_5 : decode cX11_kth 5 = .ok (.ifCond .lt 19, 3) := dec_s2 oX11_kth (of155 _) 0 19 rfl (sg16p rfl) rfl
theorem dX11_kth_8 : decode cX11_kth 8 = .ok (.iload_n 3, 1) := dec_0 oX11_kth (of29 _) rfl
theorem dX11_kth_9 : decode cX11_kth 9 = .ok (.iconst 1, 1) := dec_0 oX11_kth (of4 _) rfl
theorem dX11_lean_0 : decode cX11_lean 0 = .ok (.iload_n 3, 1) := dec_0 oX11_lean (of29 _) rfl
theorem dX11_lean_1 : decode cX11_lean 1 = .ok (.ifCond .lt 20, 3) := dec_s2 oX11_lean (of155 _) 0 20 rfl (sg16p rfl) rfl
theorem dX11_lean_10 : decode cX11_lean 10 = .ok (.getfield 65, 3) := dec_2 oX11_lean (of180 _) 0 65 rfl rfl
theorem dX11_lean_13 : decode cX11_lean 13 = .ok (.iload_n 1, 1) := dec_0 oX11_lean (of27 _) rfl
theorem dX11_lean_14 : decode cX11_lean 14 = .ok (.iload_n 2, 1) := dec_0 oX11_lean (of28 _) rfl
theorem dX11_lean_15 : decode cX11_lean 15 = .ok (.invokevirtual 212, 3) := dec_2 oX11_lean (of182 _) 0 212 rfl rfl
theorem dX11_lean_18 : decode cX11_lean 18 = .ok (.ifCond .ne 5, 3) := dec_s2 oX11_lean (of154 _) 0 5 rfl (sg16p rfl) rfl
theorem dX11_lean_21 : decode cX11_lean 21 = .ok (.iconst (-1), 1) := dec_0 oX11_lean (of2 _) rfl
theorem dX11_lean_22 : decode cX11_lean 22 = .ok (.ireturn, 1) := dec_0 oX11_lean (of172 _) rfl
theorem dX11_lean_4 : decode cX11_lean 4 = .ok (.iload_n 3, 1) := dec_0 oX11_lean (of29 _) rfl
theorem dX11_lean_5 : decode cX11_lean 5 = .ok (.iconst 1, 1) := dec_0 oX11_lean (of4 _) rfl
theorem dX11_lean_6 : decode cX11_lean 6 = .ok (.if_icmp .gt 15, 3) := dec_s2 oX11_lean (of163 _) 0 15 rfl (sg16p rfl) rfl
theorem dX11_lean_9 : decode cX11_lean 9 = .ok (.aload_n 0, 1) := dec_0 oX11_lean (of42 _) rfl
theorem dX11_level_0 : decode cX11_level 0 = .ok (.iload_n 2, 1) := dec_0 oX11_level (of28 _) rfl
theorem dX11_level_1 : decode cX11_level 1 = .ok (.invokestatic 196, 3) := dec_2 oX11_level (of184 _) 0 196 rfl rfl
theorem dX11_level_11 : decode cX11_level 11 = .ok (.iload_n 3, 1) := dec_0 oX11_level (of29 _) rfl
theorem dX11_level_12 : decode cX11_level 12 = .ok (.iload_n 2, 1) := dec_0 oX11_level (of28 _) rfl
theorem dX11_level_13 : decode cX11_level 13 = .ok (.if_icmp .ge 15, 3) := dec_s2 oX11_level (of162 _) 0 15 rfl (sg16p rfl) rfl
theorem dX11_level_16 : decode cX11_level 16 = .ok (.aload_n 0, 1) := dec_0 oX11_level (of42 _) rfl
theorem dX11_level_17 : decode cX11_level 17 = .ok (.getfield 28, 3) := dec_2 oX11_level (of180 _) 0 28 rfl rfl
theorem dX11_level_20 : decode cX11_level 20 = .ok (.iload_n 1, 1) := dec_0 oX11_level (of27 _) rfl
theorem dX11_level_21 : decode cX11_level 21 = .ok (.iload_n 2, 1) := dec_0 oX11_level (of28 _) rfl
theorem dX11_level_22 : decode cX11_level 22 = .ok (.invokevirtual 183, 3) := dec_2 oX11_level (of182 _) 0 183 rfl rfl
theorem dX11_level_25 : decode cX11_level 25 = .ok (.ifCond .ne 6, 3) := dec_s2 oX11_level (of154 _) 0 6 rfl (sg16p rfl) rfl
theorem dX11_level_28 : decode cX11_level 28 = .ok (.ldc 186, 2) := dec_1 oX11_level (of18 _) 186 rfl rfl
theorem dX11_level_30 : decode cX11_level 30 = .ok (.ireturn, 1) := dec_0 oX11_level (of172 _) rfl
theorem dX11_level_4 : decode cX11_level 4 = .ok (.ifCond .eq 24, 3) := dec_s2 oX11_level (of153 _) 0 24 rfl (sg16p rfl) rfl
theorem dX11_level_7 : decode cX11_level 7 = .ok (.iload_n 3, 1) := dec_0 oX11_level (of29 _) rfl
theorem dX11_level_8 : decode cX11_level 8 = .ok (.ifCond .lt 20, 3) := dec_s2 oX11_level (of155 _) 0 20 rfl (sg16p rfl) rfl
theorem dX11_look_0 : decode cX11_look 0 = .ok (.iload_n 3, 1) := dec_0 oX11_look (of29 _) rfl
theorem dX11_look_1 : decode cX11_look 1 = .ok (.ifCond .lt 26, 3) := dec_s2 oX11_look (of155 _) 0 26 rfl (sg16p rfl) rfl
theorem dX11_look_11 : decode cX11_look 11 = .ok (.iconst 2, 1) := dec_0 oX11_look (of5 _) rfl
theorem dX11_look_12 : decode cX11_look 12 = .ok (.if_icmp .gt 15, 3) := dec_s2 oX11_look (of163 _) 0 15 rfl (sg16p rfl) rfl
theorem dX11_look_15 : decode cX11_look 15 = .ok (.aload_n 0, 1) := dec_0 oX11_look (of42 _) rfl
theorem dX11_look_16 : decode cX11_look 16 = .ok (.getfield 65, 3) := dec_2 oX11_look (of180 _) 0 65 rfl rfl
theorem dX11_look_19 : decode cX11_look 19 = .ok (.iload_n 1, 1) := dec_0 oX11_look (of27 _) rfl
theorem dX11_look_20 : decode cX11_look 20 = .ok (.iload_n 2, 1) := dec_0 oX11_look (of28 _) rfl
theorem dX11_look_21 : decode cX11_look 21 = .ok (.invokevirtual 212, 3) := dec_2 oX11_look (of182 _) 0 212 rfl rfl
theorem dX11_look_24 : decode cX11_look 24 = .ok (.ifCond .ne 5, 3) := dec_s2 oX11_look (of154 _) 0 5 rfl (sg16p rfl) rfl
theorem dX11_look_27 : decode cX11_look 27 = .ok (.iconst (-1), 1) := dec_0 oX11_look (of2 _) rfl
theorem dX11_look_28 : decode cX11_look 28 = .ok (.ireturn, 1) := dec_0 oX11_look (of172 _) rfl
theorem dX11_look_4 : decode cX11_look 4 = .ok (.iload 4, 2) := dec_1 oX11_look (of21 _) 4 rfl rfl
theorem dX11_look_6 : decode cX11_look 6 = .ok (.ifCond .lt 21, 3) := dec_s2 oX11_look (of155 _) 0 21 rfl (sg16p rfl) rfl
theorem dX11_look_9 : decode cX11_look 9 = .ok (.iload 4, 2) := dec_1 oX11_look (of21 _) 4 rfl rfl
theorem dX11_match_0 : decode cX11_match 0 = .ok (.iload_n 2, 1) := dec_0 oX11_match (of28 _) rfl
theorem dX11_match_1 : decode cX11_match 1 = .ok (.ifCond .lt 23, 3) := dec_s2 oX11_match (of155 _) 0 23 rfl (sg16p rfl) rfl
theorem dX11_match_10 : decode cX11_match 10 = .ok (.if_icmp .gt 14, 3) := dec_s2 oX11_match (of163 _) 0 14 rfl (sg16p rfl) rfl
theorem dX11_match_13 : decode cX11_match 13 = .ok (.aload_n 0, 1) := dec_0 oX11_match (of42 _) rfl
theorem dX11_match_14 : decode cX11_match 14 = .ok (.getfield 35, 3) := dec_2 oX11_match (of180 _) 0 35 rfl rfl
theorem dX11_match_17 : decode cX11_match 17 = .ok (.iload_n 1, 1) := dec_0 oX11_match (of27 _) rfl
theorem dX11_match_18 : decode cX11_match 18 = .ok (.invokevirtual 251, 3) := dec_2 oX11_match (of182 _) 0 251 rfl rfl
theorem dX11_match_21 : decode cX11_match 21 = .ok (.ifCond .ne 5, 3) := dec_s2 oX11_match (of154 _) 0 5 rfl (sg16p rfl) rfl
theorem dX11_match_24 : decode cX11_match 24 = .ok (.iconst (-1), 1) := dec_0 oX11_match (of2 _) rfl
theorem dX11_match_25 : decode cX11_match 25 = .ok (.ireturn, 1) := dec_0 oX11_match (of172 _) rfl
theorem dX11_match_4 : decode cX11_match 4 = .ok (.iload_n 3, 1) := dec_0 oX11_match (of29 _) rfl
theorem dX11_match_5 : decode cX11_match 5 = .ok (.ifCond .lt 19, 3) := dec_s2 oX11_match (of155 _) 0 19 rfl (sg16p rfl) rfl
theorem dX11_match_8 : decode cX11_match 8 = .ok (.iload_n 3, 1) := dec_0 oX11_match (of29 _) rfl
theorem dX11_match_9 : decode cX11_match 9 = .ok (.iconst 1, 1) := dec_0 oX11_match (of4 _) rfl
theorem dX11_mend_0 : decode cX11_mend 0 = .ok (.iload_n 1, 1) := dec_0 oX11_mend (of27 _) rfl
theorem dX11_mend_1 : decode cX11_mend 1 = .ok (.iconst 1, 1) := dec_0 oX11_mend (of4 _) rfl
theorem dX11_mend_10 : decode cX11_mend 10 = .ok (.getfield 138, 3) := dec_2 oX11_mend (of180 _) 0 138 rfl rfl
theorem dX11_mend_13 : decode cX11_mend 13 = .ok (.iconst 1, 1) := dec_0 oX11_mend (of4 _) rfl
theorem dX11_mend_14 : decode cX11_mend 14 = .ok (.isub, 1) := dec_0 oX11_mend (of100 _) rfl
theorem dX11_mend_15 : decode cX11_mend 15 = .ok (.if_icmp .ge 14, 3) := dec_s2 oX11_mend (of162 _) 0 14 rfl (sg16p rfl) rfl
theorem dX11_mend_2 : decode cX11_mend 2 = .ok (.if_icmp .lt 27, 3) := dec_s2 oX11_mend (of161 _) 0 27 rfl (sg16p rfl) rfl
theorem dX11_mend_29 : decode cX11_mend 29 = .ok (.sipush (-1000), 3) := dec_s2 oX11_mend (of17 _) 252 24 rfl (sg16n (k := 1000) rfl) rfl
theorem dX11_mend_32 : decode cX11_mend 32 = .ok (.ireturn, 1) := dec_0 oX11_mend (of172 _) rfl
theorem dX11_mend_5 : decode cX11_mend 5 = .ok (.iload_n 1, 1) := dec_0 oX11_mend (of27 _) rfl
theorem dX11_mend_6 : decode cX11_mend 6 = .ok (.aload_n 0, 1) := dec_0 oX11_mend (of42 _) rfl
theorem dX11_mend_7 : decode cX11_mend 7 = .ok (.getfield 28, 3) := dec_2 oX11_mend (of180 _) 0 28 rfl rfl
theorem dX11_near_0 : decode cX11_near 0 = .ok (.iload_n 2, 1) := dec_0 oX11_near (of28 _) rfl
theorem dX11_near_1 : decode cX11_near 1 = .ok (.invokestatic 196, 3) := dec_2 oX11_near (of184 _) 0 196 rfl rfl
theorem dX11_near_11 : decode cX11_near 11 = .ok (.iload_n 3, 1) := dec_0 oX11_near (of29 _) rfl
theorem dX11_near_12 : decode cX11_near 12 = .ok (.iconst 1, 1) := dec_0 oX11_near (of4 _) rfl
theorem dX11_near_13 : decode cX11_near 13 = .ok (.if_icmp .gt 15, 3) := dec_s2 oX11_near (of163 _) 0 15 rfl (sg16p rfl) rfl
theorem dX11_near_16 : decode cX11_near 16 = .ok (.aload_n 0, 1) := dec_0 oX11_near (of42 _) rfl
theorem dX11_near_17 : decode cX11_near 17 = .ok (.getfield 28, 3) := dec_2 oX11_near (of180 _) 0 28 rfl rfl
theorem dX11_near_20 : decode cX11_near 20 = .ok (.iload_n 1, 1) := dec_0 oX11_near (of27 _) rfl
theorem dX11_near_21 : decode cX11_near 21 = .ok (.iload_n 2, 1) := dec_0 oX11_near (of28 _) rfl
theorem dX11_near_22 : decode cX11_near 22 = .ok (.invokevirtual 183, 3) := dec_2 oX11_near (of182 _) 0 183 rfl rfl
theorem dX11_near_25 : decode cX11_near 25 = .ok (.ifCond .ne 5, 3) := dec_s2 oX11_near (of154 _) 0 5 rfl (sg16p rfl) rfl
theorem dX11_near_28 : decode cX11_near 28 = .ok (.iconst (-1), 1) := dec_0 oX11_near (of2 _) rfl
theorem dX11_near_29 : decode cX11_near 29 = .ok (.ireturn, 1) := dec_0 oX11_near (of172 _) rfl
theorem dX11_near_4 : decode cX11_near 4 = .ok (.ifCond .eq 24, 3) := dec_s2 oX11_near (of153 _) 0 24 rfl (sg16p rfl) rfl
theorem dX11_near_7 : decode cX11_near 7 = .ok (.iload_n 3, 1) := dec_0 oX11_near (of29 _) rfl
theorem dX11_near_8 : decode cX11_near 8 = .ok (.ifCond .lt 20, 3) := dec_s2 oX11_near (of155 _) 0 20 rfl (sg16p rfl) rfl
theorem dX11_needs_0 : decode cX11_needs 0 = .ok (.aload_n 0, 1) := dec_0 oX11_needs (of42 _) rfl
theorem dX11_needs_1 : decode cX11_needs 1 = .ok (.getfield 65, 3) := dec_2 oX11_needs (of180 _) 0 65 rfl rfl
theorem dX11_needs_24 : decode cX11_needs 24 = .ok (.iconst (-1), 1) := dec_0 oX11_needs (of2 _) rfl
theorem dX11_needs_25 : decode cX11_needs 25 = .ok (.ireturn, 1) := dec_0 oX11_needs (of172 _) rfl
theorem dX11_needs_4 : decode cX11_needs 4 = .ok (.iload_n 1, 1) := dec_0 oX11_needs (of27 _) rfl
theorem dX11_needs_5 : decode cX11_needs 5 = .ok (.iload_n 2, 1) := dec_0 oX11_needs (of28 _) rfl
theorem dX11_needs_6 : decode cX11_needs 6 = .ok (.invokevirtual 299, 3) := dec_2 oX11_needs (of182 _) 1 43 rfl rfl
theorem dX11_needs_9 : decode cX11_needs 9 = .ok (.ifCond .eq 15, 3) := dec_s2 oX11_needs (of153 _) 0 15 rfl (sg16p rfl) rfl
theorem dX11_odd_0 : decode cX11_odd 0 = .ok (.iload_n 1, 1) := dec_0 oX11_odd (of27 _) rfl
theorem dX11_odd_1 : decode cX11_odd 1 = .ok (.invokestatic 196, 3) := dec_2 oX11_odd (of184 _) 0 196 rfl rfl
theorem dX11_odd_11 : decode cX11_odd 11 = .ok (.iload_n 2, 1) := dec_0 oX11_odd (of28 _) rfl
theorem dX11_odd_12 : decode cX11_odd 12 = .ok (.iconst 1, 1) := dec_0 oX11_odd (of4 _) rfl
theorem dX11_odd_13 : decode cX11_odd 13 = .ok (.if_icmp .le 5, 3) := dec_s2 oX11_odd (of164 _) 0 5 rfl (sg16p rfl) rfl
theorem dX11_odd_16 : decode cX11_odd 16 = .ok (.iconst (-1), 1) := dec_0 oX11_odd (of2 _) rfl
theorem dX11_odd_17 : decode cX11_odd 17 = .ok (.ireturn, 1) := dec_0 oX11_odd (of172 _) rfl
theorem dX11_odd_18 : decode cX11_odd 18 = .ok (.aload_n 0, 1) := dec_0 oX11_odd (of42 _) rfl
theorem dX11_odd_19 : decode cX11_odd 19 = .ok (.getfield 81, 3) := dec_2 oX11_odd (of180 _) 0 81 rfl rfl
theorem dX11_odd_22 : decode cX11_odd 22 = .ok (.iload_n 1, 1) := dec_0 oX11_odd (of27 _) rfl
theorem dX11_odd_23 : decode cX11_odd 23 = .ok (.invokevirtual 344, 3) := dec_2 oX11_odd (of182 _) 1 88 rfl rfl
theorem dX11_odd_26 : decode cX11_odd 26 = .ok (.iload_n 2, 1) := dec_0 oX11_odd (of28 _) rfl
theorem dX11_odd_27 : decode cX11_odd 27 = .ok (.ifCond .ne 13, 3) := dec_s2 oX11_odd (of154 _) 0 13 rfl (sg16p rfl) rfl
theorem dX11_odd_30 : decode cX11_odd 30 = .ok (.aload_n 0, 1) := dec_0 oX11_odd (of42 _) rfl
theorem dX11_odd_31 : decode cX11_odd 31 = .ok (.getfield 81, 3) := dec_2 oX11_odd (of180 _) 0 81 rfl rfl
theorem dX11_odd_34 : decode cX11_odd 34 = .ok (.getfield 347, 3) := dec_2 oX11_odd (of180 _) 1 91 rfl rfl
theorem dX11_odd_37 : decode cX11_odd 37 = .ok (.goto 10, 3) := dec_s2 oX11_odd (of167 _) 0 10 rfl (sg16p rfl) rfl
theorem dX11_odd_4 : decode cX11_odd 4 = .ok (.ifCond .eq 12, 3) := dec_s2 oX11_odd (of153 _) 0 12 rfl (sg16p rfl) rfl
theorem dX11_odd_40 : decode cX11_odd 40 = .ok (.aload_n 0, 1) := dec_0 oX11_odd (of42 _) rfl
theorem dX11_odd_41 : decode cX11_odd 41 = .ok (.getfield 81, 3) := dec_2 oX11_odd (of180 _) 0 81 rfl rfl
theorem dX11_odd_44 : decode cX11_odd 44 = .ok (.getfield 350, 3) := dec_2 oX11_odd (of180 _) 1 94 rfl rfl
theorem dX11_odd_47 : decode cX11_odd 47 = .ok (.ireturn, 1) := dec_0 oX11_odd (of172 _) rfl
theorem dX11_odd_7 : decode cX11_odd 7 = .ok (.iload_n 2, 1) := dec_0 oX11_odd (of28 _) rfl
theorem dX11_odd_8 : decode cX11_odd 8 = .ok (.ifCond .lt 8, 3) := dec_s2 oX11_odd (of155 _) 0 8 rfl (sg16p rfl) rfl
theorem dX11_pair_0 : decode cX11_pair 0 = .ok (.iload_n 1, 1) := dec_0 oX11_pair (of27 _) rfl
theorem dX11_pair_1 : decode cX11_pair 1 = .ok (.invokestatic 196, 3) := dec_2 oX11_pair (of184 _) 0 196 rfl rfl
theorem dX11_pair_11 : decode cX11_pair 11 = .ok (.iload_n 2, 1) := dec_0 oX11_pair (of28 _) rfl
theorem dX11_pair_12 : decode cX11_pair 12 = .ok (.iconst 2, 1) := dec_0 oX11_pair (of5 _) rfl
theorem dX11_pair_13 : decode cX11_pair 13 = .ok (.if_icmp .le 5, 3) := dec_s2 oX11_pair (of164 _) 0 5 rfl (sg16p rfl) rfl
theorem dX11_pair_16 : decode cX11_pair 16 = .ok (.iconst (-1), 1) := dec_0 oX11_pair (of2 _) rfl
theorem dX11_pair_17 : decode cX11_pair 17 = .ok (.ireturn, 1) := dec_0 oX11_pair (of172 _) rfl
theorem dX11_pair_18 : decode cX11_pair 18 = .ok (.aload_n 0, 1) := dec_0 oX11_pair (of42 _) rfl
theorem dX11_pair_19 : decode cX11_pair 19 = .ok (.getfield 81, 3) := dec_2 oX11_pair (of180 _) 0 81 rfl rfl
theorem dX11_pair_22 : decode cX11_pair 22 = .ok (.iload_n 1, 1) := dec_0 oX11_pair (of27 _) rfl
theorem dX11_pair_23 : decode cX11_pair 23 = .ok (.invokevirtual 332, 3) := dec_2 oX11_pair (of182 _) 1 76 rfl rfl
theorem dX11_pair_26 : decode cX11_pair 26 = .ok (.iload_n 2, 1) := dec_0 oX11_pair (of28 _) rfl
theorem dX11_pair_27 : decode cX11_pair 27 = .ok (.iconst 2, 1) := dec_0 oX11_pair (of5 _) rfl
theorem dX11_pair_28 : decode cX11_pair 28 = .ok (.if_icmp .ne 11, 3) := dec_s2 oX11_pair (of160 _) 0 11 rfl (sg16p rfl) rfl
theorem dX11_pair_31 : decode cX11_pair 31 = .ok (.aload_n 0, 1) := dec_0 oX11_pair (of42 _) rfl
theorem dX11_pair_32 : decode cX11_pair 32 = .ok (.getfield 81, 3) := dec_2 oX11_pair (of180 _) 0 81 rfl rfl
theorem dX11_pair_35 : decode cX11_pair 35 = .ok (.getfield 335, 3) := dec_2 oX11_pair (of180 _) 1 79 rfl rfl
theorem dX11_pair_38 : decode cX11_pair 38 = .ok (.ireturn, 1) := dec_0 oX11_pair (of172 _) rfl
theorem dX11_pair_39 : decode cX11_pair 39 = .ok (.iload_n 2, 1) := dec_0 oX11_pair (of28 _) rfl
theorem dX11_pair_4 : decode cX11_pair 4 = .ok (.ifCond .eq 12, 3) := dec_s2 oX11_pair (of153 _) 0 12 rfl (sg16p rfl) rfl
theorem dX11_pair_40 : decode cX11_pair 40 = .ok (.ifCond .ne 13, 3) := dec_s2 oX11_pair (of154 _) 0 13 rfl (sg16p rfl) rfl
theorem dX11_pair_43 : decode cX11_pair 43 = .ok (.aload_n 0, 1) := dec_0 oX11_pair (of42 _) rfl
theorem dX11_pair_44 : decode cX11_pair 44 = .ok (.getfield 81, 3) := dec_2 oX11_pair (of180 _) 0 81 rfl rfl
theorem dX11_pair_47 : decode cX11_pair 47 = .ok (.getfield 338, 3) := dec_2 oX11_pair (of180 _) 1 82 rfl rfl
theorem dX11_pair_50 : decode cX11_pair 50 = .ok (.goto 10, 3) := dec_s2 oX11_pair (of167 _) 0 10 rfl (sg16p rfl) rfl
theorem dX11_pair_53 : decode cX11_pair 53 = .ok (.aload_n 0, 1) := dec_0 oX11_pair (of42 _) rfl
theorem dX11_pair_54 : decode cX11_pair 54 = .ok (.getfield 81, 3) := dec_2 oX11_pair (of180 _) 0 81 rfl rfl
theorem dX11_pair_57 : decode cX11_pair 57 = .ok (.getfield 341, 3) := dec_2 oX11_pair (of180 _) 1 85 rfl rfl
theorem dX11_pair_60 : decode cX11_pair 60 = .ok (.ireturn, 1) := dec_0 oX11_pair (of172 _) rfl
theorem dX11_pair_7 : decode cX11_pair 7 = .ok (.iload_n 2, 1) := dec_0 oX11_pair (of28 _) rfl
theorem dX11_pair_8 : decode cX11_pair 8 = .ok (.ifCond .lt 8, 3) := dec_s2 oX11_pair (of155 _) 0 8 rfl (sg16p rfl) rfl
theorem dX11_place_0 : decode cX11_place 0 = .ok (.aload_n 0, 1) := dec_0 oX11_place (of42 _) rfl
theorem dX11_place_1 : decode cX11_place 1 = .ok (.getfield 21, 3) := dec_2 oX11_place (of180 _) 0 21 rfl rfl
theorem dX11_place_4 : decode cX11_place 4 = .ok (.getfield 114, 3) := dec_2 oX11_place (of180 _) 0 114 rfl rfl
theorem dX11_place_7 : decode cX11_place 7 = .ok (.ireturn, 1) := dec_0 oX11_place (of172 _) rfl
theorem dX11_push_0 : decode cX11_push 0 = .ok (.iload_n 1, 1) := dec_0 oX11_push (of27 _) rfl
theorem dX11_push_1 : decode cX11_push 1 = .ok (.sipush (-999), 3) := dec_s2 oX11_push (of17 _) 252 25 rfl (sg16n (k := 999) rfl) rfl
theorem dX11_push_11 : decode cX11_push 11 = .ok (.if_icmp .le 5, 3) := dec_s2 oX11_push (of164 _) 0 5 rfl (sg16p rfl) rfl
theorem dX11_push_14 : decode cX11_push 14 = .ok (.iconst (-1), 1) := dec_0 oX11_push (of2 _) rfl
theorem dX11_push_15 : decode cX11_push 15 = .ok (.ireturn, 1) := dec_0 oX11_push (of172 _) rfl
theorem dX11_push_16 : decode cX11_push 16 = .ok (.aload_n 0, 1) := dec_0 oX11_push (of42 _) rfl
theorem dX11_push_17 : decode cX11_push 17 = .ok (.iload_n 1, 1) := dec_0 oX11_push (of27 _) rfl
theorem dX11_push_18 : decode cX11_push 18 = .ok (.invokevirtual 127, 3) := dec_2 oX11_push (of182 _) 0 127 rfl rfl
theorem dX11_push_21 : decode cX11_push 21 = .ok (.ireturn, 1) := dec_0 oX11_push (of172 _) rfl
theorem dX11_push_4 : decode cX11_push 4 = .ok (.if_icmp .lt 10, 3) := dec_s2 oX11_push (of161 _) 0 10 rfl (sg16p rfl) rfl
theorem dX11_push_7 : decode cX11_push 7 = .ok (.iload_n 1, 1) := dec_0 oX11_push (of27 _) rfl
theorem dX11_push_8 : decode cX11_push 8 = .ok (.sipush 999, 3) := dec_s2 oX11_push (of17 _) 3 231 rfl (sg16p rfl) rfl
theorem dX11_query_0 : decode cX11_query 0 = .ok (.aload_n 0, 1) := dec_0 oX11_query (of42 _) rfl
theorem dX11_query_1 : decode cX11_query 1 = .ok (.getfield 35, 3) := dec_2 oX11_query (of180 _) 0 35 rfl rfl
theorem dX11_query_4 : decode cX11_query 4 = .ok (.iload_n 1, 1) := dec_0 oX11_query (of27 _) rfl
theorem dX11_query_5 : decode cX11_query 5 = .ok (.iload_n 2, 1) := dec_0 oX11_query (of28 _) rfl
theorem dX11_query_6 : decode cX11_query 6 = .ok (.invokevirtual 124, 3) := dec_2 oX11_query (of182 _) 0 124 rfl rfl
theorem dX11_query_9 : decode cX11_query 9 = .ok (.ireturn, 1) := dec_0 oX11_query (of172 _) rfl
theorem dX11_rank_0 : decode cX11_rank 0 = .ok (.aload_n 0, 1) := dec_0 oX11_rank (of42 _) rfl
theorem dX11_rank_1 : decode cX11_rank 1 = .ok (.getfield 65, 3) := dec_2 oX11_rank (of180 _) 0 65 rfl rfl
theorem dX11_rank_12 : decode cX11_rank 12 = .ok (.iconst (-1), 1) := dec_0 oX11_rank (of2 _) rfl
theorem dX11_rank_13 : decode cX11_rank 13 = .ok (.ireturn, 1) := dec_0 oX11_rank (of172 _) rfl
theorem dX11_rank_4 : decode cX11_rank 4 = .ok (.iload_n 1, 1) := dec_0 oX11_rank (of27 _) rfl
theorem dX11_rank_5 : decode cX11_rank 5 = .ok (.iload_n 2, 1) := dec_0 oX11_rank (of28 _) rfl
theorem dX11_rank_6 : decode cX11_rank 6 = .ok (.invokevirtual 299, 3) := dec_2 oX11_rank (of182 _) 1 43 rfl rfl
theorem dX11_rank_9 : decode cX11_rank 9 = .ok (.ifCond .ne 5, 3) := dec_s2 oX11_rank (of154 _) 0 5 rfl (sg16p rfl) rfl
theorem dX11_read_0 : decode cX11_read 0 = .ok (.aload_n 0, 1) := dec_0 oX11_read (of42 _) rfl
theorem dX11_read_1 : decode cX11_read 1 = .ok (.getfield 21, 3) := dec_2 oX11_read (of180 _) 0 21 rfl rfl
theorem dX11_read_12 : decode cX11_read 12 = .ok (.iconst 0, 1) := dec_0 oX11_read (of3 _) rfl
theorem dX11_read_13 : decode cX11_read 13 = .ok (.putfield 85, 3) := dec_2 oX11_read (of181 _) 0 85 rfl rfl
theorem dX11_read_16 : decode cX11_read 16 = .ok (.iload_n 1, 1) := dec_0 oX11_read (of27 _) rfl
theorem dX11_read_17 : decode cX11_read 17 = .ok (.ifCond .ne 55, 3) := dec_s2 oX11_read (of154 _) 0 55 rfl (sg16p rfl) rfl
theorem dX11_read_20 : decode cX11_read 20 = .ok (.aload_n 0, 1) := dec_0 oX11_read (of42 _) rfl
theorem dX11_read_21 : decode cX11_read 21 = .ok (.getfield 35, 3) := dec_2 oX11_read (of180 _) 0 35 rfl rfl
theorem dX11_read_24 : decode cX11_read 24 = .ok (.aload_n 0, 1) := dec_0 oX11_read (of42 _) rfl
theorem dX11_read_25 : decode cX11_read 25 = .ok (.getfield 21, 3) := dec_2 oX11_read (of180 _) 0 21 rfl rfl
theorem dX11_read_28 : decode cX11_read 28 = .ok (.getfield 97, 3) := dec_2 oX11_read (of180 _) 0 97 rfl rfl
theorem dX11_read_31 : decode cX11_read 31 = .ok (.invokevirtual 98, 3) := dec_2 oX11_read (of182 _) 0 98 rfl rfl
theorem dX11_read_34 : decode cX11_read 34 = .ok (.aload_n 0, 1) := dec_0 oX11_read (of42 _) rfl
theorem dX11_read_35 : decode cX11_read 35 = .ok (.aload_n 0, 1) := dec_0 oX11_read (of42 _) rfl
theorem dX11_read_36 : decode cX11_read 36 = .ok (.getfield 21, 3) := dec_2 oX11_read (of180 _) 0 21 rfl rfl
theorem dX11_read_39 : decode cX11_read 39 = .ok (.getfield 102, 3) := dec_2 oX11_read (of180 _) 0 102 rfl rfl
theorem dX11_read_4 : decode cX11_read 4 = .ok (.invokevirtual 93, 3) := dec_2 oX11_read (of182 _) 0 93 rfl rfl
theorem dX11_read_42 : decode cX11_read 42 = .ok (.invokevirtual 106, 3) := dec_2 oX11_read (of182 _) 0 106 rfl rfl
theorem dX11_read_45 : decode cX11_read 45 = .ok (.iconst 0, 1) := dec_0 oX11_read (of3 _) rfl
theorem dX11_read_46 : decode cX11_read 46 = .ok (.istore_n 2, 1) := dec_0 oX11_read (of61 _) rfl
theorem dX11_read_47 : decode cX11_read 47 = .ok (.iload_n 2, 1) := dec_0 oX11_read (of28 _) rfl
theorem dX11_read_48 : decode cX11_read 48 = .ok (.aload_n 0, 1) := dec_0 oX11_read (of42 _) rfl
theorem dX11_read_49 : decode cX11_read 49 = .ok (.getfield 56, 3) := dec_2 oX11_read (of180 _) 0 56 rfl rfl
theorem dX11_read_52 : decode cX11_read 52 = .ok (.arraylength, 1) := dec_0 oX11_read (of190 _) rfl
theorem dX11_read_53 : decode cX11_read 53 = .ok (.if_icmp .ge 19, 3) := dec_s2 oX11_read (of162 _) 0 19 rfl (sg16p rfl) rfl
theorem dX11_read_56 : decode cX11_read 56 = .ok (.aload_n 0, 1) := dec_0 oX11_read (of42 _) rfl
theorem dX11_read_57 : decode cX11_read 57 = .ok (.getfield 56, 3) := dec_2 oX11_read (of180 _) 0 56 rfl rfl
theorem dX11_read_60 : decode cX11_read 60 = .ok (.iload_n 2, 1) := dec_0 oX11_read (of28 _) rfl
theorem dX11_read_61 : decode cX11_read 61 = .ok (.aaload, 1) := dec_0 oX11_read (of50 _) rfl
theorem dX11_read_62 : decode cX11_read 62 = .ok (.iconst 0, 1) := dec_0 oX11_read (of3 _) rfl
theorem dX11_read_63 : decode cX11_read 63 = .ok (.putfield 110, 3) := dec_2 oX11_read (of181 _) 0 110 rfl rfl
theorem dX11_read_66 : decode cX11_read 66 = .ok (.iinc 2 1, 3) := dec_ii oX11_read (of132 _) 2 1 rfl (sg8p rfl) rfl
theorem dX11_read_69 : decode cX11_read 69 = .ok (.goto (-22), 3) := dec_s2 oX11_read (of167 _) 255 234 rfl (sg16n (k := 22) rfl) rfl
theorem dX11_read_7 : decode cX11_read 7 = .ok (.istore_n 1, 1) := dec_0 oX11_read (of60 _) rfl
theorem dX11_read_72 : decode cX11_read 72 = .ok (.iload_n 1, 1) := dec_0 oX11_read (of27 _) rfl
theorem dX11_read_73 : decode cX11_read 73 = .ok (.ireturn, 1) := dec_0 oX11_read (of172 _) rfl
theorem dX11_read_8 : decode cX11_read 8 = .ok (.aload_n 0, 1) := dec_0 oX11_read (of42 _) rfl
theorem dX11_read_9 : decode cX11_read 9 = .ok (.getfield 10, 3) := dec_2 oX11_read (of180 _) 0 10 rfl rfl
theorem dX11_restore_0 : decode cX11_restore 0 = .ok (.iload_n 1, 1) := dec_0 oX11_restore (of27 _) rfl
theorem dX11_restore_1 : decode cX11_restore 1 = .ok (.ifCond .lt 24, 3) := dec_s2 oX11_restore (of155 _) 0 24 rfl (sg16p rfl) rfl
theorem dX11_restore_10 : decode cX11_restore 10 = .ok (.if_icmp .ge 15, 3) := dec_s2 oX11_restore (of162 _) 0 15 rfl (sg16p rfl) rfl
theorem dX11_restore_13 : decode cX11_restore 13 = .ok (.aload_n 0, 1) := dec_0 oX11_restore (of42 _) rfl
theorem dX11_restore_14 : decode cX11_restore 14 = .ok (.getfield 56, 3) := dec_2 oX11_restore (of180 _) 0 56 rfl rfl
theorem dX11_restore_17 : decode cX11_restore 17 = .ok (.iload_n 1, 1) := dec_0 oX11_restore (of27 _) rfl
theorem dX11_restore_18 : decode cX11_restore 18 = .ok (.aaload, 1) := dec_0 oX11_restore (of50 _) rfl
theorem dX11_restore_19 : decode cX11_restore 19 = .ok (.getfield 110, 3) := dec_2 oX11_restore (of180 _) 0 110 rfl rfl
theorem dX11_restore_22 : decode cX11_restore 22 = .ok (.ifCond .ne 5, 3) := dec_s2 oX11_restore (of154 _) 0 5 rfl (sg16p rfl) rfl
theorem dX11_restore_25 : decode cX11_restore 25 = .ok (.iconst 0, 1) := dec_0 oX11_restore (of3 _) rfl
theorem dX11_restore_26 : decode cX11_restore 26 = .ok (.ireturn, 1) := dec_0 oX11_restore (of172 _) rfl
theorem dX11_restore_4 : decode cX11_restore 4 = .ok (.iload_n 1, 1) := dec_0 oX11_restore (of27 _) rfl
theorem dX11_restore_5 : decode cX11_restore 5 = .ok (.aload_n 0, 1) := dec_0 oX11_restore (of42 _) rfl
theorem dX11_restore_6 : decode cX11_restore 6 = .ok (.getfield 56, 3) := dec_2 oX11_restore (of180 _) 0 56 rfl rfl
theorem dX11_restore_9 : decode cX11_restore 9 = .ok (.arraylength, 1) := dec_0 oX11_restore (of190 _) rfl
theorem dX11_search_0 : decode cX11_search 0 = .ok (.iload_n 2, 1) := dec_0 oX11_search (of28 _) rfl
theorem dX11_search_1 : decode cX11_search 1 = .ok (.ifCond .lt 20, 3) := dec_s2 oX11_search (of155 _) 0 20 rfl (sg16p rfl) rfl
theorem dX11_search_10 : decode cX11_search 10 = .ok (.aload_n 0, 1) := dec_0 oX11_search (of42 _) rfl
theorem dX11_search_11 : decode cX11_search 11 = .ok (.getfield 35, 3) := dec_2 oX11_search (of180 _) 0 35 rfl rfl
theorem dX11_search_14 : decode cX11_search 14 = .ok (.iload_n 1, 1) := dec_0 oX11_search (of27 _) rfl
theorem dX11_search_15 : decode cX11_search 15 = .ok (.invokevirtual 251, 3) := dec_2 oX11_search (of182 _) 0 251 rfl rfl
theorem dX11_search_18 : decode cX11_search 18 = .ok (.ifCond .ne 5, 3) := dec_s2 oX11_search (of154 _) 0 5 rfl (sg16p rfl) rfl
theorem dX11_search_21 : decode cX11_search 21 = .ok (.iconst (-1), 1) := dec_0 oX11_search (of2 _) rfl
theorem dX11_search_22 : decode cX11_search 22 = .ok (.ireturn, 1) := dec_0 oX11_search (of172 _) rfl
theorem dX11_search_4 : decode cX11_search 4 = .ok (.iload_n 2, 1) := dec_0 oX11_search (of28 _) rfl
theorem dX11_search_5 : decode cX11_search 5 = .ok (.bipush 9, 2) := dec_s1 oX11_search (of16 _) 9 rfl (sg8p rfl) rfl
theorem dX11_search_7 : decode cX11_search 7 = .ok (.if_icmp .ge 14, 3) := dec_s2 oX11_search (of162 _) 0 14 rfl (sg16p rfl) rfl
theorem dX11_set_0 : decode cX11_set 0 = .ok (.aload_n 0, 1) := dec_0 oX11_set (of42 _) rfl
theorem dX11_set_1 : decode cX11_set 1 = .ok (.getfield 42, 3) := dec_2 oX11_set (of180 _) 0 42 rfl rfl
theorem dX11_set_10 : decode cX11_set 10 = .ok (.iload_n 2, 1) := dec_0 oX11_set (of28 _) rfl
theorem dX11_set_11 : decode cX11_set 11 = .ok (.invokestatic 157, 3) := dec_2 oX11_set (of184 _) 0 157 rfl rfl
theorem dX11_set_14 : decode cX11_set 14 = .ok (.ifCond .eq 8, 3) := dec_s2 oX11_set (of153 _) 0 8 rfl (sg16p rfl) rfl
theorem dX11_set_17 : decode cX11_set 17 = .ok (.iload_n 3, 1) := dec_0 oX11_set (of29 _) rfl
theorem dX11_set_18 : decode cX11_set 18 = .ok (.iload_n 2, 1) := dec_0 oX11_set (of28 _) rfl
theorem dX11_set_19 : decode cX11_set 19 = .ok (.if_icmp .ne 5, 3) := dec_s2 oX11_set (of160 _) 0 5 rfl (sg16p rfl) rfl
theorem dX11_set_22 : decode cX11_set 22 = .ok (.iconst 0, 1) := dec_0 oX11_set (of3 _) rfl
theorem dX11_set_23 : decode cX11_set 23 = .ok (.ireturn, 1) := dec_0 oX11_set (of172 _) rfl
theorem dX11_set_24 : decode cX11_set 24 = .ok (.aload_n 0, 1) := dec_0 oX11_set (of42 _) rfl
theorem dX11_set_25 : decode cX11_set 25 = .ok (.getfield 42, 3) := dec_2 oX11_set (of180 _) 0 42 rfl rfl
theorem dX11_set_28 : decode cX11_set 28 = .ok (.iload_n 1, 1) := dec_0 oX11_set (of27 _) rfl
theorem dX11_set_29 : decode cX11_set 29 = .ok (.iload_n 2, 1) := dec_0 oX11_set (of28 _) rfl
theorem dX11_set_30 : decode cX11_set 30 = .ok (.invokevirtual 161, 3) := dec_2 oX11_set (of182 _) 0 161 rfl rfl
theorem dX11_set_33 : decode cX11_set 33 = .ok (.aload_n 0, 1) := dec_0 oX11_set (of42 _) rfl
theorem dX11_set_34 : decode cX11_set 34 = .ok (.getfield 49, 3) := dec_2 oX11_set (of180 _) 0 49 rfl rfl
theorem dX11_set_37 : decode cX11_set 37 = .ok (.iconst 3, 1) := dec_0 oX11_set (of6 _) rfl
theorem dX11_set_38 : decode cX11_set 38 = .ok (.iload_n 1, 1) := dec_0 oX11_set (of27 _) rfl
theorem dX11_set_39 : decode cX11_set 39 = .ok (.iload_n 3, 1) := dec_0 oX11_set (of29 _) rfl
theorem dX11_set_4 : decode cX11_set 4 = .ok (.iload_n 1, 1) := dec_0 oX11_set (of27 _) rfl
theorem dX11_set_40 : decode cX11_set 40 = .ok (.invokevirtual 134, 3) := dec_2 oX11_set (of182 _) 0 134 rfl rfl
theorem dX11_set_43 : decode cX11_set 43 = .ok (.iconst 1, 1) := dec_0 oX11_set (of4 _) rfl
theorem dX11_set_44 : decode cX11_set 44 = .ok (.ireturn, 1) := dec_0 oX11_set (of172 _) rfl
theorem dX11_set_5 : decode cX11_set 5 = .ok (.invokevirtual 154, 3) := dec_2 oX11_set (of182 _) 0 154 rfl rfl
theorem dX11_set_8 : decode cX11_set 8 = .ok (.istore_n 3, 1) := dec_0 oX11_set (of62 _) rfl
theorem dX11_set_9 : decode cX11_set 9 = .ok (.iload_n 1, 1) := dec_0 oX11_set (of27 _) rfl
theorem dX11_slack_0 : decode cX11_slack 0 = .ok (.aload_n 0, 1) := dec_0 oX11_slack (of42 _) rfl
theorem dX11_slack_1 : decode cX11_slack 1 = .ok (.getfield 35, 3) := dec_2 oX11_slack (of180 _) 0 35 rfl rfl
theorem dX11_slack_22 : decode cX11_slack 22 = .ok (.iconst (-1), 1) := dec_0 oX11_slack (of2 _) rfl
theorem dX11_slack_23 : decode cX11_slack 23 = .ok (.ireturn, 1) := dec_0 oX11_slack (of172 _) rfl
theorem dX11_slack_4 : decode cX11_slack 4 = .ok (.iload_n 1, 1) := dec_0 oX11_slack (of27 _) rfl
theorem dX11_slack_5 : decode cX11_slack 5 = .ok (.invokevirtual 251, 3) := dec_2 oX11_slack (of182 _) 0 251 rfl rfl
theorem dX11_slack_8 : decode cX11_slack 8 = .ok (.ifCond .eq 14, 3) := dec_s2 oX11_slack (of153 _) 0 14 rfl (sg16p rfl) rfl
theorem dX11_slotsHeld_0 : decode cX11_slotsHeld 0 = .ok (.iconst 0, 1) := dec_0 oX11_slotsHeld (of3 _) rfl
theorem dX11_slotsHeld_1 : decode cX11_slotsHeld 1 = .ok (.istore_n 1, 1) := dec_0 oX11_slotsHeld (of60 _) rfl
theorem dX11_slotsHeld_10 : decode cX11_slotsHeld 10 = .ok (.if_icmp .ge 24, 3) := dec_s2 oX11_slotsHeld (of162 _) 0 24 rfl (sg16p rfl) rfl
theorem dX11_slotsHeld_13 : decode cX11_slotsHeld 13 = .ok (.aload_n 0, 1) := dec_0 oX11_slotsHeld (of42 _) rfl
theorem dX11_slotsHeld_14 : decode cX11_slotsHeld 14 = .ok (.getfield 56, 3) := dec_2 oX11_slotsHeld (of180 _) 0 56 rfl rfl
theorem dX11_slotsHeld_17 : decode cX11_slotsHeld 17 = .ok (.iload_n 2, 1) := dec_0 oX11_slotsHeld (of28 _) rfl
theorem dX11_slotsHeld_18 : decode cX11_slotsHeld 18 = .ok (.aaload, 1) := dec_0 oX11_slotsHeld (of50 _) rfl
theorem dX11_slotsHeld_19 : decode cX11_slotsHeld 19 = .ok (.getfield 110, 3) := dec_2 oX11_slotsHeld (of180 _) 0 110 rfl rfl
theorem dX11_slotsHeld_2 : decode cX11_slotsHeld 2 = .ok (.iconst 0, 1) := dec_0 oX11_slotsHeld (of3 _) rfl
theorem dX11_slotsHeld_22 : decode cX11_slotsHeld 22 = .ok (.ifCond .eq 6, 3) := dec_s2 oX11_slotsHeld (of153 _) 0 6 rfl (sg16p rfl) rfl
theorem dX11_slotsHeld_28 : decode cX11_slotsHeld 28 = .ok (.iinc 2 1, 3) := dec_ii oX11_slotsHeld (of132 _) 2 1 rfl (sg8p rfl) rfl
theorem dX11_slotsHeld_3 : decode cX11_slotsHeld 3 = .ok (.istore_n 2, 1) := dec_0 oX11_slotsHeld (of61 _) rfl
theorem dX11_slotsHeld_31 : decode cX11_slotsHeld 31 = .ok (.goto (-27), 3) := dec_s2 oX11_slotsHeld (of167 _) 255 229 rfl (sg16n (k := 27) rfl) rfl
theorem dX11_slotsHeld_34 : decode cX11_slotsHeld 34 = .ok (.iload_n 1, 1) := dec_0 oX11_slotsHeld (of27 _) rfl
theorem dX11_slotsHeld_35 : decode cX11_slotsHeld 35 = .ok (.ireturn, 1) := dec_0 oX11_slotsHeld (of172 _) rfl
theorem dX11_slotsHeld_4 : decode cX11_slotsHeld 4 = .ok (.iload_n 2, 1) := dec_0 oX11_slotsHeld (of28 _) rfl
theorem dX11_slotsHeld_5 : decode cX11_slotsHeld 5 = .ok (.aload_n 0, 1) := dec_0 oX11_slotsHeld (of42 _) rfl
theorem dX11_slotsHeld_6 : decode cX11_slotsHeld 6 = .ok (.getfield 56, 3) := dec_2 oX11_slotsHeld (of180 _) 0 56 rfl rfl
theorem dX11_slotsHeld_9 : decode cX11_slotsHeld 9 = .ok (.arraylength, 1) := dec_0 oX11_slotsHeld (of190 _) rfl
theorem dX11_turns_0 : decode cX11_turns 0 = .ok (.aload_n 0, 1) := dec_0 oX11_turns (of42 _) rfl
theorem dX11_turns_1 : decode cX11_turns 1 = .ok (.getfield 35, 3) := dec_2 oX11_turns (of180 _) 0 35 rfl rfl
theorem dX11_turns_11 : decode cX11_turns 11 = .ok (.iconst (-1), 1) := dec_0 oX11_turns (of2 _) rfl
theorem dX11_turns_12 : decode cX11_turns 12 = .ok (.ireturn, 1) := dec_0 oX11_turns (of172 _) rfl
theorem dX11_turns_4 : decode cX11_turns 4 = .ok (.iload_n 1, 1) := dec_0 oX11_turns (of27 _) rfl
theorem dX11_turns_5 : decode cX11_turns 5 = .ok (.invokevirtual 251, 3) := dec_2 oX11_turns (of182 _) 0 251 rfl rfl
theorem dX11_turns_8 : decode cX11_turns 8 = .ok (.ifCond .ne 5, 3) := dec_s2 oX11_turns (of154 _) 0 5 rfl (sg16p rfl) rfl
theorem dX11_undo_0 : decode cX11_undo 0 = .ok (.aload_n 0, 1) := dec_0 oX11_undo (of42 _) rfl
theorem dX11_undo_1 : decode cX11_undo 1 = .ok (.getfield 49, 3) := dec_2 oX11_undo (of180 _) 0 49 rfl rfl
theorem dX11_undo_10 : decode cX11_undo 10 = .ok (.iconst 0, 1) := dec_0 oX11_undo (of3 _) rfl
theorem dX11_undo_11 : decode cX11_undo 11 = .ok (.ireturn, 1) := dec_0 oX11_undo (of172 _) rfl
theorem dX11_undo_4 : decode cX11_undo 4 = .ok (.invokevirtual 164, 3) := dec_2 oX11_undo (of182 _) 0 164 rfl rfl
theorem dX11_undo_7 : decode cX11_undo 7 = .ok (.ifCond .ne 5, 3) := dec_s2 oX11_undo (of154 _) 0 5 rfl (sg16p rfl) rfl
theorem dX11_way_0 : decode cX11_way 0 = .ok (.aload_n 0, 1) := dec_0 oX11_way (of42 _) rfl
theorem dX11_way_1 : decode cX11_way 1 = .ok (.getfield 65, 3) := dec_2 oX11_way (of180 _) 0 65 rfl rfl
theorem dX11_way_12 : decode cX11_way 12 = .ok (.iconst (-1), 1) := dec_0 oX11_way (of2 _) rfl
theorem dX11_way_13 : decode cX11_way 13 = .ok (.ireturn, 1) := dec_0 oX11_way (of172 _) rfl
theorem dX11_way_4 : decode cX11_way 4 = .ok (.iload_n 1, 1) := dec_0 oX11_way (of27 _) rfl
theorem dX11_way_5 : decode cX11_way 5 = .ok (.iload_n 2, 1) := dec_0 oX11_way (of28 _) rfl
theorem dX11_way_6 : decode cX11_way 6 = .ok (.invokevirtual 212, 3) := dec_2 oX11_way (of182 _) 0 212 rfl rfl
theorem dX11_way_9 : decode cX11_way 9 = .ok (.ifCond .ne 5, 3) := dec_s2 oX11_way (of154 _) 0 5 rfl (sg16p rfl) rfl
theorem dX11_whole_0 : decode cX11_whole 0 = .ok (.iload_n 1, 1) := dec_0 oX11_whole (of27 _) rfl
theorem dX11_whole_1 : decode cX11_whole 1 = .ok (.ifCond .lt 8, 3) := dec_s2 oX11_whole (of155 _) 0 8 rfl (sg16p rfl) rfl
theorem dX11_whole_10 : decode cX11_whole 10 = .ok (.ireturn, 1) := dec_0 oX11_whole (of172 _) rfl
theorem dX11_whole_11 : decode cX11_whole 11 = .ok (.aload_n 0, 1) := dec_0 oX11_whole (of42 _) rfl
theorem dX11_whole_12 : decode cX11_whole 12 = .ok (.getfield 28, 3) := dec_2 oX11_whole (of180 _) 0 28 rfl rfl
theorem dX11_whole_15 : decode cX11_whole 15 = .ok (.invokevirtual 356, 3) := dec_2 oX11_whole (of182 _) 1 100 rfl rfl
theorem dX11_whole_18 : decode cX11_whole 18 = .ok (.istore_n 2, 1) := dec_0 oX11_whole (of61 _) rfl
theorem dX11_whole_19 : decode cX11_whole 19 = .ok (.iload_n 2, 1) := dec_0 oX11_whole (of28 _) rfl
theorem dX11_whole_20 : decode cX11_whole 20 = .ok (.ifCond .lt 7, 3) := dec_s2 oX11_whole (of155 _) 0 7 rfl (sg16p rfl) rfl
theorem dX11_whole_27 : decode cX11_whole 27 = .ok (.iload_n 2, 1) := dec_0 oX11_whole (of28 _) rfl
theorem dX11_whole_28 : decode cX11_whole 28 = .ok (.ireturn, 1) := dec_0 oX11_whole (of172 _) rfl
theorem dX11_whole_4 : decode cX11_whole 4 = .ok (.iload_n 1, 1) := dec_0 oX11_whole (of27 _) rfl
theorem dX11_whole_5 : decode cX11_whole 5 = .ok (.iconst 1, 1) := dec_0 oX11_whole (of4 _) rfl
theorem dX11_whole_6 : decode cX11_whole 6 = .ok (.if_icmp .le 5, 3) := dec_s2 oX11_whole (of164 _) 0 5 rfl (sg16p rfl) rfl
theorem dX11_whole_9 : decode cX11_whole 9 = .ok (.iconst (-1), 1) := dec_0 oX11_whole (of2 _) rfl
theorem dX11_whose_0 : decode cX11_whose 0 = .ok (.aload_n 0, 1) := dec_0 oX11_whose (of42 _) rfl
theorem dX11_whose_1 : decode cX11_whose 1 = .ok (.getfield 28, 3) := dec_2 oX11_whose (of180 _) 0 28 rfl rfl
theorem dX11_whose_24 : decode cX11_whose 24 = .ok (.iconst (-1), 1) := dec_0 oX11_whose (of2 _) rfl
theorem dX11_whose_25 : decode cX11_whose 25 = .ok (.ireturn, 1) := dec_0 oX11_whose (of172 _) rfl
theorem dX11_whose_4 : decode cX11_whose 4 = .ok (.iload_n 1, 1) := dec_0 oX11_whose (of27 _) rfl
theorem dX11_whose_5 : decode cX11_whose 5 = .ok (.iload_n 2, 1) := dec_0 oX11_whose (of28 _) rfl
theorem dX11_whose_6 : decode cX11_whose 6 = .ok (.invokevirtual 183, 3) := dec_2 oX11_whose (of182 _) 0 183 rfl rfl
theorem dX11_whose_9 : decode cX11_whose 9 = .ok (.ifCond .eq 15, 3) := dec_s2 oX11_whose (of153 _) 0 15 rfl (sg16p rfl) rfl
theorem dX11_window_0 : decode cX11_window 0 = .ok (.iload_n 2, 1) := dec_0 oX11_window (of28 _) rfl
theorem dX11_window_1 : decode cX11_window 1 = .ok (.iconst 1, 1) := dec_0 oX11_window (of4 _) rfl
theorem dX11_window_10 : decode cX11_window 10 = .ok (.iload_n 2, 1) := dec_0 oX11_window (of28 _) rfl
theorem dX11_window_11 : decode cX11_window 11 = .ok (.invokevirtual 183, 3) := dec_2 oX11_window (of182 _) 0 183 rfl rfl
theorem dX11_window_14 : decode cX11_window 14 = .ok (.ifCond .ne 6, 3) := dec_s2 oX11_window (of154 _) 0 6 rfl (sg16p rfl) rfl
theorem dX11_window_17 : decode cX11_window 17 = .ok (.ldc 186, 2) := dec_1 oX11_window (of18 _) 186 rfl rfl
theorem dX11_window_19 : decode cX11_window 19 = .ok (.ireturn, 1) := dec_0 oX11_window (of172 _) rfl
theorem dX11_window_2 : decode cX11_window 2 = .ok (.if_icmp .lt 15, 3) := dec_s2 oX11_window (of161 _) 0 15 rfl (sg16p rfl) rfl
theorem dX11_window_5 : decode cX11_window 5 = .ok (.aload_n 0, 1) := dec_0 oX11_window (of42 _) rfl
theorem dX11_window_6 : decode cX11_window 6 = .ok (.getfield 28, 3) := dec_2 oX11_window (of180 _) 0 28 rfl rfl
theorem dX11_window_9 : decode cX11_window 9 = .ok (.iload_n 1, 1) := dec_0 oX11_window (of27 _) rfl
theorem dX11_within_0 : decode cX11_within 0 = .ok (.iload_n 2, 1) := dec_0 oX11_within (of28 _) rfl
theorem dX11_within_1 : decode cX11_within 1 = .ok (.ifCond .lt 14, 3) := dec_s2 oX11_within (of155 _) 0 14 rfl (sg16p rfl) rfl
theorem dX11_within_12 : decode cX11_within 12 = .ok (.ifCond .ne 5, 3) := dec_s2 oX11_within (of154 _) 0 5 rfl (sg16p rfl) rfl
theorem dX11_within_15 : decode cX11_within 15 = .ok (.iconst (-1), 1) := dec_0 oX11_within (of2 _) rfl
theorem dX11_within_16 : decode cX11_within 16 = .ok (.ireturn, 1) := dec_0 oX11_within (of172 _) rfl
theorem dX11_within_4 : decode cX11_within 4 = .ok (.aload_n 0, 1) := dec_0 oX11_within (of42 _) rfl
theorem dX11_within_5 : decode cX11_within 5 = .ok (.getfield 35, 3) := dec_2 oX11_within (of180 _) 0 35 rfl rfl
theorem dX11_within_8 : decode cX11_within 8 = .ok (.iload_n 1, 1) := dec_0 oX11_within (of27 _) rfl
theorem dX11_within_9 : decode cX11_within 9 = .ok (.invokevirtual 251, 3) := dec_2 oX11_within (of182 _) 0 251 rfl rfl
theorem dX12_alike_0 : decode cX12_alike 0 = .ok (.aload_n 0, 1) := dec_0 oX12_alike (of42 _) rfl
theorem dX12_alike_1 : decode cX12_alike 1 = .ok (.iload_n 1, 1) := dec_0 oX12_alike (of27 _) rfl
theorem dX12_alike_16 : decode cX12_alike 16 = .ok (.iconst (-1), 1) := dec_0 oX12_alike (of2 _) rfl
theorem dX12_alike_17 : decode cX12_alike 17 = .ok (.ireturn, 1) := dec_0 oX12_alike (of172 _) rfl
theorem dX12_alike_2 : decode cX12_alike 2 = .ok (.invokevirtual 251, 3) := dec_2 oX12_alike (of182 _) 0 251 rfl rfl
theorem dX12_alike_5 : decode cX12_alike 5 = .ok (.ifCond .eq 11, 3) := dec_s2 oX12_alike (of153 _) 0 11 rfl (sg16p rfl) rfl
theorem dX12_appends_0 : decode cX12_appends 0 = .ok (.iload_n 2, 1) := dec_0 oX12_appends (of28 _) rfl
theorem dX12_appends_1 : decode cX12_appends 1 = .ok (.ifCond .ne 7, 3) := dec_s2 oX12_appends (of154 _) 0 7 rfl (sg16p rfl) rfl
theorem dX12_appends_11 : decode cX12_appends 11 = .ok (.lload_n 0, 1) := dec_0 oX12_appends (of30 _) rfl
theorem dX12_appends_12 : decode cX12_appends 12 = .ok (.lmul, 1) := dec_0 oX12_appends (of105 _) rfl
theorem dX12_appends_13 : decode cX12_appends 13 = .ok (.iload_n 2, 1) := dec_0 oX12_appends (of28 _) rfl
theorem dX12_appends_14 : decode cX12_appends 14 = .ok (.bipush 97, 2) := dec_s1 oX12_appends (of16 _) 97 rfl (sg8p rfl) rfl
theorem dX12_appends_16 : decode cX12_appends 16 = .ok (.isub, 1) := dec_0 oX12_appends (of100 _) rfl
theorem dX12_appends_17 : decode cX12_appends 17 = .ok (.iconst 1, 1) := dec_0 oX12_appends (of4 _) rfl
theorem dX12_appends_18 : decode cX12_appends 18 = .ok (.iadd, 1) := dec_0 oX12_appends (of96 _) rfl
theorem dX12_appends_19 : decode cX12_appends 19 = .ok (.i2l, 1) := dec_0 oX12_appends (of133 _) rfl
theorem dX12_appends_20 : decode cX12_appends 20 = .ok (.ladd, 1) := dec_0 oX12_appends (of97 _) rfl
theorem dX12_appends_21 : decode cX12_appends 21 = .ok (.lreturn, 1) := dec_0 oX12_appends (of173 _) rfl
theorem dX12_appends_4 : decode cX12_appends 4 = .ok (.lload_n 0, 1) := dec_0 oX12_appends (of30 _) rfl
theorem dX12_appends_5 : decode cX12_appends 5 = .ok (.goto 16, 3) := dec_s2 oX12_appends (of167 _) 0 16 rfl (sg16p rfl) rfl
theorem dX12_appends_8 : decode cX12_appends 8 = .ok (.ldc2_w 133, 3) := dec_2 oX12_appends (of20 _) 0 133 rfl rfl
theorem dX12_at_0 : decode cX12_at 0 = .ok (.aload_n 0, 1) := dec_0 oX12_at (of42 _) rfl
theorem dX12_at_1 : decode cX12_at 1 = .ok (.iload_n 1, 1) := dec_0 oX12_at (of27 _) rfl
theorem dX12_at_19 : decode cX12_at 19 = .ok (.sipush (-1000), 3) := dec_s2 oX12_at (of17 _) 252 24 rfl (sg16n (k := 1000) rfl) rfl
theorem dX12_at_2 : decode cX12_at 2 = .ok (.invokevirtual 320, 3) := dec_2 oX12_at (of182 _) 1 64 rfl rfl
theorem dX12_at_22 : decode cX12_at 22 = .ok (.ireturn, 1) := dec_0 oX12_at (of172 _) rfl
theorem dX12_at_5 : decode cX12_at 5 = .ok (.ifCond .eq 14, 3) := dec_s2 oX12_at (of153 _) 0 14 rfl (sg16p rfl) rfl
theorem dX12_back_0 : decode cX12_back 0 = .ok (.iload_n 1, 1) := dec_0 oX12_back (of27 _) rfl
theorem dX12_back_1 : decode cX12_back 1 = .ok (.ifCond .lt 11, 3) := dec_s2 oX12_back (of155 _) 0 11 rfl (sg16p rfl) rfl
theorem dX12_back_12 : decode cX12_back 12 = .ok (.iconst (-1), 1) := dec_0 oX12_back (of2 _) rfl
theorem dX12_back_13 : decode cX12_back 13 = .ok (.ireturn, 1) := dec_0 oX12_back (of172 _) rfl
theorem dX12_back_14 : decode cX12_back 14 = .ok (.aload_n 0, 1) := dec_0 oX12_back (of42 _) rfl
theorem dX12_back_15 : decode cX12_back 15 = .ok (.dup, 1) := dec_0 oX12_back (of89 _) rfl
theorem dX12_back_16 : decode cX12_back 16 = .ok (.getfield 124, 3) := dec_2 oX12_back (of180 _) 0 124 rfl rfl
theorem dX12_back_19 : decode cX12_back 19 = .ok (.iload_n 1, 1) := dec_0 oX12_back (of27 _) rfl
theorem dX12_back_20 : decode cX12_back 20 = .ok (.isub, 1) := dec_0 oX12_back (of100 _) rfl
theorem dX12_back_21 : decode cX12_back 21 = .ok (.putfield 124, 3) := dec_2 oX12_back (of181 _) 0 124 rfl rfl
theorem dX12_back_24 : decode cX12_back 24 = .ok (.aload_n 0, 1) := dec_0 oX12_back (of42 _) rfl
theorem dX12_back_25 : decode cX12_back 25 = .ok (.getfield 124, 3) := dec_2 oX12_back (of180 _) 0 124 rfl rfl
theorem dX12_back_28 : decode cX12_back 28 = .ok (.ireturn, 1) := dec_0 oX12_back (of172 _) rfl
theorem dX12_back_4 : decode cX12_back 4 = .ok (.iload_n 1, 1) := dec_0 oX12_back (of27 _) rfl
theorem dX12_back_5 : decode cX12_back 5 = .ok (.aload_n 0, 1) := dec_0 oX12_back (of42 _) rfl
theorem dX12_back_6 : decode cX12_back 6 = .ok (.getfield 124, 3) := dec_2 oX12_back (of180 _) 0 124 rfl rfl
theorem dX12_back_9 : decode cX12_back 9 = .ok (.if_icmp .le 5, 3) := dec_s2 oX12_back (of164 _) 0 5 rfl (sg16p rfl) rfl
theorem dX12_begins_0 : decode cX12_begins 0 = .ok (.iconst 0, 1) := dec_0 oX12_begins (of3 _) rfl
theorem dX12_begins_1 : decode cX12_begins 1 = .ok (.istore_n 1, 1) := dec_0 oX12_begins (of60 _) rfl
theorem dX12_begins_10 : decode cX12_begins 10 = .ok (.getfield 73, 3) := dec_2 oX12_begins (of180 _) 0 73 rfl rfl
theorem dX12_begins_102 : decode cX12_begins 102 = .ok (.aload_n 0, 1) := dec_0 oX12_begins (of42 _) rfl
theorem dX12_begins_103 : decode cX12_begins 103 = .ok (.getfield 61, 3) := dec_2 oX12_begins (of180 _) 0 61 rfl rfl
theorem dX12_begins_106 : decode cX12_begins 106 = .ok (.aload_n 0, 1) := dec_0 oX12_begins (of42 _) rfl
theorem dX12_begins_107 : decode cX12_begins 107 = .ok (.getfield 197, 3) := dec_2 oX12_begins (of180 _) 0 197 rfl rfl
theorem dX12_begins_110 : decode cX12_begins 110 = .ok (.iaload, 1) := dec_0 oX12_begins (of46 _) rfl
theorem dX12_begins_111 : decode cX12_begins 111 = .ok (.iastore, 1) := dec_0 oX12_begins (of79 _) rfl
theorem dX12_begins_112 : decode cX12_begins 112 = .ok (.aload_n 0, 1) := dec_0 oX12_begins (of42 _) rfl
theorem dX12_begins_113 : decode cX12_begins 113 = .ok (.getfield 73, 3) := dec_2 oX12_begins (of180 _) 0 73 rfl rfl
theorem dX12_begins_116 : decode cX12_begins 116 = .ok (.sipush 163, 3) := dec_s2 oX12_begins (of17 _) 0 163 rfl (sg16p rfl) rfl
theorem dX12_begins_119 : decode cX12_begins 119 = .ok (.aload_n 0, 1) := dec_0 oX12_begins (of42 _) rfl
theorem dX12_begins_120 : decode cX12_begins 120 = .ok (.getfield 64, 3) := dec_2 oX12_begins (of180 _) 0 64 rfl rfl
theorem dX12_begins_123 : decode cX12_begins 123 = .ok (.aload_n 0, 1) := dec_0 oX12_begins (of42 _) rfl
theorem dX12_begins_124 : decode cX12_begins 124 = .ok (.getfield 197, 3) := dec_2 oX12_begins (of180 _) 0 197 rfl rfl
theorem dX12_begins_127 : decode cX12_begins 127 = .ok (.iaload, 1) := dec_0 oX12_begins (of46 _) rfl
theorem dX12_begins_128 : decode cX12_begins 128 = .ok (.iastore, 1) := dec_0 oX12_begins (of79 _) rfl
theorem dX12_begins_129 : decode cX12_begins 129 = .ok (.aload_n 0, 1) := dec_0 oX12_begins (of42 _) rfl
theorem dX12_begins_13 : decode cX12_begins 13 = .ok (.iload_n 1, 1) := dec_0 oX12_begins (of27 _) rfl
theorem dX12_begins_130 : decode cX12_begins 130 = .ok (.getfield 73, 3) := dec_2 oX12_begins (of180 _) 0 73 rfl rfl
theorem dX12_begins_133 : decode cX12_begins 133 = .ok (.sipush 164, 3) := dec_s2 oX12_begins (of17 _) 0 164 rfl (sg16p rfl) rfl
theorem dX12_begins_136 : decode cX12_begins 136 = .ok (.aload_n 0, 1) := dec_0 oX12_begins (of42 _) rfl
theorem dX12_begins_137 : decode cX12_begins 137 = .ok (.getfield 67, 3) := dec_2 oX12_begins (of180 _) 0 67 rfl rfl
theorem dX12_begins_14 : decode cX12_begins 14 = .ok (.iconst 0, 1) := dec_0 oX12_begins (of3 _) rfl
theorem dX12_begins_140 : decode cX12_begins 140 = .ok (.aload_n 0, 1) := dec_0 oX12_begins (of42 _) rfl
theorem dX12_begins_141 : decode cX12_begins 141 = .ok (.getfield 197, 3) := dec_2 oX12_begins (of180 _) 0 197 rfl rfl
theorem dX12_begins_144 : decode cX12_begins 144 = .ok (.iaload, 1) := dec_0 oX12_begins (of46 _) rfl
theorem dX12_begins_145 : decode cX12_begins 145 = .ok (.iastore, 1) := dec_0 oX12_begins (of79 _) rfl
theorem dX12_begins_146 : decode cX12_begins 146 = .ok (.return_, 1) := dec_0 oX12_begins (of177 _) rfl
theorem dX12_begins_15 : decode cX12_begins 15 = .ok (.iastore, 1) := dec_0 oX12_begins (of79 _) rfl
theorem dX12_begins_16 : decode cX12_begins 16 = .ok (.iinc 1 1, 3) := dec_ii oX12_begins (of132 _) 1 1 rfl (sg8p rfl) rfl
theorem dX12_begins_19 : decode cX12_begins 19 = .ok (.goto (-17), 3) := dec_s2 oX12_begins (of167 _) 255 239 rfl (sg16n (k := 17) rfl) rfl
theorem dX12_begins_2 : decode cX12_begins 2 = .ok (.iload_n 1, 1) := dec_0 oX12_begins (of27 _) rfl
theorem dX12_begins_22 : decode cX12_begins 22 = .ok (.aload_n 0, 1) := dec_0 oX12_begins (of42 _) rfl
theorem dX12_begins_23 : decode cX12_begins 23 = .ok (.getfield 73, 3) := dec_2 oX12_begins (of180 _) 0 73 rfl rfl
theorem dX12_begins_26 : decode cX12_begins 26 = .ok (.iconst 0, 1) := dec_0 oX12_begins (of3 _) rfl
theorem dX12_begins_27 : decode cX12_begins 27 = .ok (.aload_n 0, 1) := dec_0 oX12_begins (of42 _) rfl
theorem dX12_begins_28 : decode cX12_begins 28 = .ok (.getfield 43, 3) := dec_2 oX12_begins (of180 _) 0 43 rfl rfl
theorem dX12_begins_3 : decode cX12_begins 3 = .ok (.sipush 165, 3) := dec_s2 oX12_begins (of17 _) 0 165 rfl (sg16p rfl) rfl
theorem dX12_begins_31 : decode cX12_begins 31 = .ok (.aload_n 0, 1) := dec_0 oX12_begins (of42 _) rfl
theorem dX12_begins_32 : decode cX12_begins 32 = .ok (.getfield 197, 3) := dec_2 oX12_begins (of180 _) 0 197 rfl rfl
theorem dX12_begins_35 : decode cX12_begins 35 = .ok (.iaload, 1) := dec_0 oX12_begins (of46 _) rfl
theorem dX12_begins_36 : decode cX12_begins 36 = .ok (.iastore, 1) := dec_0 oX12_begins (of79 _) rfl
theorem dX12_begins_37 : decode cX12_begins 37 = .ok (.iconst 0, 1) := dec_0 oX12_begins (of3 _) rfl
theorem dX12_begins_38 : decode cX12_begins 38 = .ok (.istore_n 1, 1) := dec_0 oX12_begins (of60 _) rfl
theorem dX12_begins_39 : decode cX12_begins 39 = .ok (.iload_n 1, 1) := dec_0 oX12_begins (of27 _) rfl
theorem dX12_begins_40 : decode cX12_begins 40 = .ok (.aload_n 0, 1) := dec_0 oX12_begins (of42 _) rfl
theorem dX12_begins_41 : decode cX12_begins 41 = .ok (.getfield 73, 3) := dec_2 oX12_begins (of180 _) 0 73 rfl rfl
theorem dX12_begins_44 : decode cX12_begins 44 = .ok (.iconst 0, 1) := dec_0 oX12_begins (of3 _) rfl
theorem dX12_begins_45 : decode cX12_begins 45 = .ok (.iaload, 1) := dec_0 oX12_begins (of46 _) rfl
theorem dX12_begins_46 : decode cX12_begins 46 = .ok (.if_icmp .ge 32, 3) := dec_s2 oX12_begins (of162 _) 0 32 rfl (sg16p rfl) rfl
theorem dX12_begins_6 : decode cX12_begins 6 = .ok (.if_icmp .ge 16, 3) := dec_s2 oX12_begins (of162 _) 0 16 rfl (sg16p rfl) rfl
theorem dX12_begins_78 : decode cX12_begins 78 = .ok (.aload_n 0, 1) := dec_0 oX12_begins (of42 _) rfl
theorem dX12_begins_79 : decode cX12_begins 79 = .ok (.getfield 73, 3) := dec_2 oX12_begins (of180 _) 0 73 rfl rfl
theorem dX12_begins_82 : decode cX12_begins 82 = .ok (.sipush 161, 3) := dec_s2 oX12_begins (of17 _) 0 161 rfl (sg16p rfl) rfl
theorem dX12_begins_85 : decode cX12_begins 85 = .ok (.aload_n 0, 1) := dec_0 oX12_begins (of42 _) rfl
theorem dX12_begins_86 : decode cX12_begins 86 = .ok (.getfield 58, 3) := dec_2 oX12_begins (of180 _) 0 58 rfl rfl
theorem dX12_begins_89 : decode cX12_begins 89 = .ok (.aload_n 0, 1) := dec_0 oX12_begins (of42 _) rfl
theorem dX12_begins_9 : decode cX12_begins 9 = .ok (.aload_n 0, 1) := dec_0 oX12_begins (of42 _) rfl
theorem dX12_begins_90 : decode cX12_begins 90 = .ok (.getfield 197, 3) := dec_2 oX12_begins (of180 _) 0 197 rfl rfl
theorem dX12_begins_93 : decode cX12_begins 93 = .ok (.iaload, 1) := dec_0 oX12_begins (of46 _) rfl
theorem dX12_begins_94 : decode cX12_begins 94 = .ok (.iastore, 1) := dec_0 oX12_begins (of79 _) rfl
theorem dX12_begins_95 : decode cX12_begins 95 = .ok (.aload_n 0, 1) := dec_0 oX12_begins (of42 _) rfl
theorem dX12_begins_96 : decode cX12_begins 96 = .ok (.getfield 73, 3) := dec_2 oX12_begins (of180 _) 0 73 rfl rfl
theorem dX12_begins_99 : decode cX12_begins 99 = .ok (.sipush 162, 3) := dec_s2 oX12_begins (of17 _) 0 162 rfl (sg16p rfl) rfl
theorem dX12_best_0 : decode cX12_best 0 = .ok (.aload_n 0, 1) := dec_0 oX12_best (of42 _) rfl
theorem dX12_best_1 : decode cX12_best 1 = .ok (.iload_n 1, 1) := dec_0 oX12_best (of27 _) rfl
theorem dX12_best_17 : decode cX12_best 17 = .ok (.iconst (-1), 1) := dec_0 oX12_best (of2 _) rfl
theorem dX12_best_18 : decode cX12_best 18 = .ok (.ireturn, 1) := dec_0 oX12_best (of172 _) rfl
theorem dX12_best_2 : decode cX12_best 2 = .ok (.invokevirtual 251, 3) := dec_2 oX12_best (of182 _) 0 251 rfl rfl
theorem dX12_best_5 : decode cX12_best 5 = .ok (.ifCond .eq 12, 3) := dec_s2 oX12_best (of153 _) 0 12 rfl (sg16p rfl) rfl
theorem dX12_bound_0 : decode cX12_bound 0 = .ok (.aload_n 0, 1) := dec_0 oX12_bound (of42 _) rfl
theorem dX12_bound_1 : decode cX12_bound 1 = .ok (.iload_n 1, 1) := dec_0 oX12_bound (of27 _) rfl
theorem dX12_bound_18 : decode cX12_bound 18 = .ok (.iconst (-1), 1) := dec_0 oX12_bound (of2 _) rfl
theorem dX12_bound_19 : decode cX12_bound 19 = .ok (.ireturn, 1) := dec_0 oX12_bound (of172 _) rfl
theorem dX12_bound_2 : decode cX12_bound 2 = .ok (.iload_n 2, 1) := dec_0 oX12_bound (of28 _) rfl
theorem dX12_bound_3 : decode cX12_bound 3 = .ok (.invokevirtual 342, 3) := dec_2 oX12_bound (of182 _) 1 86 rfl rfl
theorem dX12_bound_6 : decode cX12_bound 6 = .ok (.ifCond .eq 12, 3) := dec_s2 oX12_bound (of153 _) 0 12 rfl (sg16p rfl) rfl
theorem dX12_byteAt_0 : decode cX12_byteAt 0 = .ok (.iload_n 1, 1) := dec_0 oX12_byteAt (of27 _) rfl
theorem dX12_byteAt_1 : decode cX12_byteAt 1 = .ok (.aload_n 0, 1) := dec_0 oX12_byteAt (of42 _) rfl
theorem dX12_byteAt_2 : decode cX12_byteAt 2 = .ok (.getfield 130, 3) := dec_2 oX12_byteAt (of180 _) 0 130 rfl rfl
theorem dX12_byteAt_21 : decode cX12_byteAt 21 = .ok (.iconst 0, 1) := dec_0 oX12_byteAt (of3 _) rfl
theorem dX12_byteAt_22 : decode cX12_byteAt 22 = .ok (.ireturn, 1) := dec_0 oX12_byteAt (of172 _) rfl
theorem dX12_byteAt_5 : decode cX12_byteAt 5 = .ok (.if_icmp .ge 16, 3) := dec_s2 oX12_byteAt (of162 _) 0 16 rfl (sg16p rfl) rfl
theorem dX12_cause_0 : decode cX12_cause 0 = .ok (.aload_n 0, 1) := dec_0 oX12_cause (of42 _) rfl
theorem dX12_cause_1 : decode cX12_cause 1 = .ok (.getfield 111, 3) := dec_2 oX12_cause (of180 _) 0 111 rfl rfl
theorem dX12_cause_4 : decode cX12_cause 4 = .ok (.ireturn, 1) := dec_0 oX12_cause (of172 _) rfl
theorem dX12_comes_0 : decode cX12_comes 0 = .ok (.aload_n 0, 1) := dec_0 oX12_comes (of42 _) rfl
theorem dX12_comes_1 : decode cX12_comes 1 = .ok (.getfield 70, 3) := dec_2 oX12_comes (of180 _) 0 70 rfl rfl
theorem dX12_comes_14 : decode cX12_comes 14 = .ok (.aload_n 0, 1) := dec_0 oX12_comes (of42 _) rfl
theorem dX12_comes_15 : decode cX12_comes 15 = .ok (.invokevirtual 323, 3) := dec_2 oX12_comes (of182 _) 1 67 rfl rfl
theorem dX12_comes_18 : decode cX12_comes 18 = .ok (.aload_n 0, 1) := dec_0 oX12_comes (of42 _) rfl
theorem dX12_comes_19 : decode cX12_comes 19 = .ok (.getfield 73, 3) := dec_2 oX12_comes (of180 _) 0 73 rfl rfl
theorem dX12_comes_22 : decode cX12_comes 22 = .ok (.iconst 1, 1) := dec_0 oX12_comes (of4 _) rfl
theorem dX12_comes_23 : decode cX12_comes 23 = .ok (.aload_n 0, 1) := dec_0 oX12_comes (of42 _) rfl
theorem dX12_comes_24 : decode cX12_comes 24 = .ok (.getfield 73, 3) := dec_2 oX12_comes (of180 _) 0 73 rfl rfl
theorem dX12_comes_27 : decode cX12_comes 27 = .ok (.iconst 0, 1) := dec_0 oX12_comes (of3 _) rfl
theorem dX12_comes_28 : decode cX12_comes 28 = .ok (.iaload, 1) := dec_0 oX12_comes (of46 _) rfl
theorem dX12_comes_29 : decode cX12_comes 29 = .ok (.iadd, 1) := dec_0 oX12_comes (of96 _) rfl
theorem dX12_comes_30 : decode cX12_comes 30 = .ok (.iload_n 1, 1) := dec_0 oX12_comes (of27 _) rfl
theorem dX12_comes_31 : decode cX12_comes 31 = .ok (.iastore, 1) := dec_0 oX12_comes (of79 _) rfl
theorem dX12_comes_32 : decode cX12_comes 32 = .ok (.aload_n 0, 1) := dec_0 oX12_comes (of42 _) rfl
theorem dX12_comes_33 : decode cX12_comes 33 = .ok (.getfield 73, 3) := dec_2 oX12_comes (of180 _) 0 73 rfl rfl
theorem dX12_comes_36 : decode cX12_comes 36 = .ok (.iconst 0, 1) := dec_0 oX12_comes (of3 _) rfl
theorem dX12_comes_37 : decode cX12_comes 37 = .ok (.dup2, 1) := dec_0 oX12_comes (of92 _) rfl
theorem dX12_comes_38 : decode cX12_comes 38 = .ok (.iaload, 1) := dec_0 oX12_comes (of46 _) rfl
theorem dX12_comes_39 : decode cX12_comes 39 = .ok (.iconst 1, 1) := dec_0 oX12_comes (of4 _) rfl
theorem dX12_comes_4 : decode cX12_comes 4 = .ok (.iconst 0, 1) := dec_0 oX12_comes (of3 _) rfl
theorem dX12_comes_40 : decode cX12_comes 40 = .ok (.iadd, 1) := dec_0 oX12_comes (of96 _) rfl
theorem dX12_comes_41 : decode cX12_comes 41 = .ok (.iastore, 1) := dec_0 oX12_comes (of79 _) rfl
theorem dX12_comes_42 : decode cX12_comes 42 = .ok (.aload_n 0, 1) := dec_0 oX12_comes (of42 _) rfl
theorem dX12_comes_43 : decode cX12_comes 43 = .ok (.invokevirtual 326, 3) := dec_2 oX12_comes (of182 _) 1 70 rfl rfl
theorem dX12_comes_46 : decode cX12_comes 46 = .ok (.aload_n 0, 1) := dec_0 oX12_comes (of42 _) rfl
theorem dX12_comes_47 : decode cX12_comes 47 = .ok (.getfield 70, 3) := dec_2 oX12_comes (of180 _) 0 70 rfl rfl
theorem dX12_comes_5 : decode cX12_comes 5 = .ok (.iaload, 1) := dec_0 oX12_comes (of46 _) rfl
theorem dX12_comes_50 : decode cX12_comes 50 = .ok (.iconst 0, 1) := dec_0 oX12_comes (of3 _) rfl
theorem dX12_comes_51 : decode cX12_comes 51 = .ok (.iaload, 1) := dec_0 oX12_comes (of46 _) rfl
theorem dX12_comes_52 : decode cX12_comes 52 = .ok (.ireturn, 1) := dec_0 oX12_comes (of172 _) rfl
theorem dX12_comes_6 : decode cX12_comes 6 = .ok (.sipush 160, 3) := dec_s2 oX12_comes (of17 _) 0 160 rfl (sg16p rfl) rfl
theorem dX12_comes_9 : decode cX12_comes 9 = .ok (.if_icmp .ne 5, 3) := dec_s2 oX12_comes (of160 _) 0 5 rfl (sg16p rfl) rfl
theorem dX12_copies_0 : decode cX12_copies 0 = .ok (.iconst 0, 1) := dec_0 oX12_copies (of3 _) rfl
theorem dX12_copies_1 : decode cX12_copies 1 = .ok (.istore_n 1, 1) := dec_0 oX12_copies (of60 _) rfl
theorem dX12_copies_10 : decode cX12_copies 10 = .ok (.getfield 73, 3) := dec_2 oX12_copies (of180 _) 0 73 rfl rfl
theorem dX12_copies_13 : decode cX12_copies 13 = .ok (.iload_n 1, 1) := dec_0 oX12_copies (of27 _) rfl
theorem dX12_copies_14 : decode cX12_copies 14 = .ok (.aload_n 0, 1) := dec_0 oX12_copies (of42 _) rfl
theorem dX12_copies_15 : decode cX12_copies 15 = .ok (.getfield 70, 3) := dec_2 oX12_copies (of180 _) 0 70 rfl rfl
theorem dX12_copies_18 : decode cX12_copies 18 = .ok (.iload_n 1, 1) := dec_0 oX12_copies (of27 _) rfl
theorem dX12_copies_19 : decode cX12_copies 19 = .ok (.iaload, 1) := dec_0 oX12_copies (of46 _) rfl
theorem dX12_copies_2 : decode cX12_copies 2 = .ok (.iload_n 1, 1) := dec_0 oX12_copies (of27 _) rfl
theorem dX12_copies_20 : decode cX12_copies 20 = .ok (.iastore, 1) := dec_0 oX12_copies (of79 _) rfl
theorem dX12_copies_21 : decode cX12_copies 21 = .ok (.iinc 1 1, 3) := dec_ii oX12_copies (of132 _) 1 1 rfl (sg8p rfl) rfl
theorem dX12_copies_24 : decode cX12_copies 24 = .ok (.goto (-22), 3) := dec_s2 oX12_copies (of167 _) 255 234 rfl (sg16n (k := 22) rfl) rfl
theorem dX12_copies_27 : decode cX12_copies 27 = .ok (.return_, 1) := dec_0 oX12_copies (of177 _) rfl
theorem dX12_copies_3 : decode cX12_copies 3 = .ok (.sipush 165, 3) := dec_s2 oX12_copies (of17 _) 0 165 rfl (sg16p rfl) rfl
theorem dX12_copies_6 : decode cX12_copies 6 = .ok (.if_icmp .ge 21, 3) := dec_s2 oX12_copies (of162 _) 0 21 rfl (sg16p rfl) rfl
theorem dX12_copies_9 : decode cX12_copies 9 = .ok (.aload_n 0, 1) := dec_0 oX12_copies (of42 _) rfl
theorem dX12_count_0 : decode cX12_count 0 = .ok (.iconst 0, 1) := dec_0 oX12_count (of3 _) rfl
theorem dX12_count_1 : decode cX12_count 1 = .ok (.istore_n 2, 1) := dec_0 oX12_count (of61 _) rfl
theorem dX12_count_102 : decode cX12_count 102 = .ok (.sipush 161, 3) := dec_s2 oX12_count (of17 _) 0 161 rfl (sg16p rfl) rfl
end
section
theorem dX12_count_105 : decode cX12_count 105 = .ok (.iaload, 1) := dec_0 oX12_count (of46 _) rfl
theorem dX12_count_106 : decode cX12_count 106 = .ok (.ireturn, 1) := dec_0 oX12_count (of172 _) rfl
theorem dX12_count_107 : decode cX12_count 107 = .ok (.aload_n 0, 1) := dec_0 oX12_count (of42 _) rfl
theorem dX12_count_108 : decode cX12_count 108 = .ok (.getfield 70, 3) := dec_2 oX12_count (of180 _) 0 70 rfl rfl
theorem dX12_count_111 : decode cX12_count 111 = .ok (.sipush 162, 3) := dec_s2 oX12_count (of17 _) 0 162 rfl (sg16p rfl) rfl
theorem dX12_count_114 : decode cX12_count 114 = .ok (.iaload, 1) := dec_0 oX12_count (of46 _) rfl
theorem dX12_count_115 : decode cX12_count 115 = .ok (.ireturn, 1) := dec_0 oX12_count (of172 _) rfl
theorem dX12_count_116 : decode cX12_count 116 = .ok (.aload_n 0, 1) := dec_0 oX12_count (of42 _) rfl
theorem dX12_count_117 : decode cX12_count 117 = .ok (.getfield 70, 3) := dec_2 oX12_count (of180 _) 0 70 rfl rfl
theorem dX12_count_120 : decode cX12_count 120 = .ok (.sipush 163, 3) := dec_s2 oX12_count (of17 _) 0 163 rfl (sg16p rfl) rfl
theorem dX12_count_123 : decode cX12_count 123 = .ok (.iaload, 1) := dec_0 oX12_count (of46 _) rfl
theorem dX12_count_124 : decode cX12_count 124 = .ok (.ireturn, 1) := dec_0 oX12_count (of172 _) rfl
theorem dX12_count_125 : decode cX12_count 125 = .ok (.aload_n 0, 1) := dec_0 oX12_count (of42 _) rfl
theorem dX12_count_126 : decode cX12_count 126 = .ok (.getfield 70, 3) := dec_2 oX12_count (of180 _) 0 70 rfl rfl
theorem dX12_count_129 : decode cX12_count 129 = .ok (.sipush 164, 3) := dec_s2 oX12_count (of17 _) 0 164 rfl (sg16p rfl) rfl
theorem dX12_count_132 : decode cX12_count 132 = .ok (.iaload, 1) := dec_0 oX12_count (of46 _) rfl
theorem dX12_count_133 : decode cX12_count 133 = .ok (.ireturn, 1) := dec_0 oX12_count (of172 _) rfl
theorem dX12_count_134 : decode cX12_count 134 = .ok (.aload_n 0, 1) := dec_0 oX12_count (of42 _) rfl
theorem dX12_count_135 : decode cX12_count 135 = .ok (.aload_n 0, 1) := dec_0 oX12_count (of42 _) rfl
theorem dX12_count_136 : decode cX12_count 136 = .ok (.getfield 70, 3) := dec_2 oX12_count (of180 _) 0 70 rfl rfl
theorem dX12_count_139 : decode cX12_count 139 = .ok (.iconst 0, 1) := dec_0 oX12_count (of3 _) rfl
theorem dX12_count_140 : decode cX12_count 140 = .ok (.iaload, 1) := dec_0 oX12_count (of46 _) rfl
theorem dX12_count_141 : decode cX12_count 141 = .ok (.iconst 1, 1) := dec_0 oX12_count (of4 _) rfl
theorem dX12_count_142 : decode cX12_count 142 = .ok (.isub, 1) := dec_0 oX12_count (of100 _) rfl
theorem dX12_count_143 : decode cX12_count 143 = .ok (.iload_n 2, 1) := dec_0 oX12_count (of28 _) rfl
theorem dX12_count_144 : decode cX12_count 144 = .ok (.isub, 1) := dec_0 oX12_count (of100 _) rfl
theorem dX12_count_145 : decode cX12_count 145 = .ok (.invokevirtual 320, 3) := dec_2 oX12_count (of182 _) 1 64 rfl rfl
theorem dX12_count_148 : decode cX12_count 148 = .ok (.ifCond .eq 9, 3) := dec_s2 oX12_count (of153 _) 0 9 rfl (sg16p rfl) rfl
theorem dX12_count_157 : decode cX12_count 157 = .ok (.iload_n 2, 1) := dec_0 oX12_count (of28 _) rfl
theorem dX12_count_158 : decode cX12_count 158 = .ok (.ireturn, 1) := dec_0 oX12_count (of172 _) rfl
theorem dX12_count_159 : decode cX12_count 159 = .ok (.aload_n 0, 1) := dec_0 oX12_count (of42 _) rfl
theorem dX12_count_160 : decode cX12_count 160 = .ok (.getfield 124, 3) := dec_2 oX12_count (of180 _) 0 124 rfl rfl
theorem dX12_count_163 : decode cX12_count 163 = .ok (.ireturn, 1) := dec_0 oX12_count (of172 _) rfl
theorem dX12_count_164 : decode cX12_count 164 = .ok (.aload_n 0, 1) := dec_0 oX12_count (of42 _) rfl
theorem dX12_count_165 : decode cX12_count 165 = .ok (.getfield 209, 3) := dec_2 oX12_count (of180 _) 0 209 rfl rfl
theorem dX12_count_168 : decode cX12_count 168 = .ok (.ireturn, 1) := dec_0 oX12_count (of172 _) rfl
theorem dX12_count_169 : decode cX12_count 169 = .ok (.iconst 0, 1) := dec_0 oX12_count (of3 _) rfl
theorem dX12_count_170 : decode cX12_count 170 = .ok (.istore_n 3, 1) := dec_0 oX12_count (of62 _) rfl
theorem dX12_count_171 : decode cX12_count 171 = .ok (.iload_n 3, 1) := dec_0 oX12_count (of29 _) rfl
theorem dX12_count_172 : decode cX12_count 172 = .ok (.aload_n 0, 1) := dec_0 oX12_count (of42 _) rfl
theorem dX12_count_173 : decode cX12_count 173 = .ok (.getfield 70, 3) := dec_2 oX12_count (of180 _) 0 70 rfl rfl
theorem dX12_count_176 : decode cX12_count 176 = .ok (.iconst 0, 1) := dec_0 oX12_count (of3 _) rfl
theorem dX12_count_177 : decode cX12_count 177 = .ok (.iaload, 1) := dec_0 oX12_count (of46 _) rfl
theorem dX12_count_178 : decode cX12_count 178 = .ok (.if_icmp .ge 28, 3) := dec_s2 oX12_count (of162 _) 0 28 rfl (sg16p rfl) rfl
theorem dX12_count_2 : decode cX12_count 2 = .ok (.iload_n 1, 1) := dec_0 oX12_count (of27 _) rfl
theorem dX12_count_206 : decode cX12_count 206 = .ok (.iload_n 2, 1) := dec_0 oX12_count (of28 _) rfl
theorem dX12_count_207 : decode cX12_count 207 = .ok (.ireturn, 1) := dec_0 oX12_count (of172 _) rfl
theorem dX12_count_208 : decode cX12_count 208 = .ok (.aload_n 0, 1) := dec_0 oX12_count (of42 _) rfl
theorem dX12_count_209 : decode cX12_count 209 = .ok (.getfield 100, 3) := dec_2 oX12_count (of180 _) 0 100 rfl rfl
theorem dX12_count_212 : decode cX12_count 212 = .ok (.iconst 0, 1) := dec_0 oX12_count (of3 _) rfl
theorem dX12_count_213 : decode cX12_count 213 = .ok (.baload, 1) := dec_0 oX12_count (of51 _) rfl
theorem dX12_count_214 : decode cX12_count 214 = .ok (.ifCond .eq 7, 3) := dec_s2 oX12_count (of153 _) 0 7 rfl (sg16p rfl) rfl
theorem dX12_count_221 : decode cX12_count 221 = .ok (.iconst 0, 1) := dec_0 oX12_count (of3 _) rfl
theorem dX12_count_222 : decode cX12_count 222 = .ok (.aload_n 0, 1) := dec_0 oX12_count (of42 _) rfl
theorem dX12_count_223 : decode cX12_count 223 = .ok (.getfield 100, 3) := dec_2 oX12_count (of180 _) 0 100 rfl rfl
theorem dX12_count_226 : decode cX12_count 226 = .ok (.iconst 1, 1) := dec_0 oX12_count (of4 _) rfl
theorem dX12_count_227 : decode cX12_count 227 = .ok (.baload, 1) := dec_0 oX12_count (of51 _) rfl
theorem dX12_count_228 : decode cX12_count 228 = .ok (.ifCond .eq 7, 3) := dec_s2 oX12_count (of153 _) 0 7 rfl (sg16p rfl) rfl
theorem dX12_count_235 : decode cX12_count 235 = .ok (.iconst 0, 1) := dec_0 oX12_count (of3 _) rfl
theorem dX12_count_236 : decode cX12_count 236 = .ok (.iadd, 1) := dec_0 oX12_count (of96 _) rfl
theorem dX12_count_237 : decode cX12_count 237 = .ok (.aload_n 0, 1) := dec_0 oX12_count (of42 _) rfl
theorem dX12_count_238 : decode cX12_count 238 = .ok (.getfield 100, 3) := dec_2 oX12_count (of180 _) 0 100 rfl rfl
theorem dX12_count_241 : decode cX12_count 241 = .ok (.iconst 2, 1) := dec_0 oX12_count (of5 _) rfl
theorem dX12_count_242 : decode cX12_count 242 = .ok (.baload, 1) := dec_0 oX12_count (of51 _) rfl
theorem dX12_count_243 : decode cX12_count 243 = .ok (.ifCond .eq 7, 3) := dec_s2 oX12_count (of153 _) 0 7 rfl (sg16p rfl) rfl
theorem dX12_count_250 : decode cX12_count 250 = .ok (.iconst 0, 1) := dec_0 oX12_count (of3 _) rfl
theorem dX12_count_251 : decode cX12_count 251 = .ok (.iadd, 1) := dec_0 oX12_count (of96 _) rfl
theorem dX12_count_252 : decode cX12_count 252 = .ok (.ireturn, 1) := dec_0 oX12_count (of172 _) rfl
theorem dX12_count_253 : decode cX12_count 253 = .ok (.sipush (-1000), 3) := dec_s2 oX12_count (of17 _) 252 24 rfl (sg16n (k := 1000) rfl) rfl
theorem dX12_count_256 : decode cX12_count 256 = .ok (.istore_n 2, 1) := dec_0 oX12_count (of61 _) rfl
theorem dX12_count_257 : decode cX12_count 257 = .ok (.iconst 0, 1) := dec_0 oX12_count (of3 _) rfl
theorem dX12_count_258 : decode cX12_count 258 = .ok (.istore_n 3, 1) := dec_0 oX12_count (of62 _) rfl
theorem dX12_count_259 : decode cX12_count 259 = .ok (.iload_n 3, 1) := dec_0 oX12_count (of29 _) rfl
theorem dX12_count_260 : decode cX12_count 260 = .ok (.aload_n 0, 1) := dec_0 oX12_count (of42 _) rfl
theorem dX12_count_261 : decode cX12_count 261 = .ok (.getfield 70, 3) := dec_2 oX12_count (of180 _) 0 70 rfl rfl
theorem dX12_count_264 : decode cX12_count 264 = .ok (.iconst 0, 1) := dec_0 oX12_count (of3 _) rfl
theorem dX12_count_265 : decode cX12_count 265 = .ok (.iaload, 1) := dec_0 oX12_count (of46 _) rfl
theorem dX12_count_266 : decode cX12_count 266 = .ok (.if_icmp .ge 38, 3) := dec_s2 oX12_count (of162 _) 0 38 rfl (sg16p rfl) rfl
theorem dX12_count_3 : decode cX12_count 3 = .ok (.tableswitch 375 0 14 #[73, 80, 85, 95, 104, 113, 122, 131, 156, 161, 166, 205, 250, 303, 359], 73) := by decide +kernel
theorem dX12_count_304 : decode cX12_count 304 = .ok (.iload_n 2, 1) := dec_0 oX12_count (of28 _) rfl
theorem dX12_count_305 : decode cX12_count 305 = .ok (.ireturn, 1) := dec_0 oX12_count (of172 _) rfl
theorem dX12_count_306 : decode cX12_count 306 = .ok (.ldc 239, 2) := dec_1 oX12_count (of18 _) 239 rfl rfl
theorem dX12_count_308 : decode cX12_count 308 = .ok (.istore_n 2, 1) := dec_0 oX12_count (of61 _) rfl
theorem dX12_count_309 : decode cX12_count 309 = .ok (.iconst 0, 1) := dec_0 oX12_count (of3 _) rfl
theorem dX12_count_310 : decode cX12_count 310 = .ok (.istore_n 3, 1) := dec_0 oX12_count (of62 _) rfl
theorem dX12_count_311 : decode cX12_count 311 = .ok (.iload_n 3, 1) := dec_0 oX12_count (of29 _) rfl
theorem dX12_count_312 : decode cX12_count 312 = .ok (.aload_n 0, 1) := dec_0 oX12_count (of42 _) rfl
theorem dX12_count_313 : decode cX12_count 313 = .ok (.getfield 70, 3) := dec_2 oX12_count (of180 _) 0 70 rfl rfl
theorem dX12_count_316 : decode cX12_count 316 = .ok (.iconst 0, 1) := dec_0 oX12_count (of3 _) rfl
theorem dX12_count_317 : decode cX12_count 317 = .ok (.iaload, 1) := dec_0 oX12_count (of46 _) rfl
theorem dX12_count_318 : decode cX12_count 318 = .ok (.if_icmp .ge 30, 3) := dec_s2 oX12_count (of162 _) 0 30 rfl (sg16p rfl) rfl
theorem dX12_count_348 : decode cX12_count 348 = .ok (.iload_n 2, 1) := dec_0 oX12_count (of28 _) rfl
theorem dX12_count_349 : decode cX12_count 349 = .ok (.ldc 239, 2) := dec_1 oX12_count (of18 _) 239 rfl rfl
theorem dX12_count_351 : decode cX12_count 351 = .ok (.if_icmp .ne 9, 3) := dec_s2 oX12_count (of160 _) 0 9 rfl (sg16p rfl) rfl
theorem dX12_count_354 : decode cX12_count 354 = .ok (.sipush (-1000), 3) := dec_s2 oX12_count (of17 _) 252 24 rfl (sg16n (k := 1000) rfl) rfl
theorem dX12_count_357 : decode cX12_count 357 = .ok (.goto 4, 3) := dec_s2 oX12_count (of167 _) 0 4 rfl (sg16p rfl) rfl
theorem dX12_count_361 : decode cX12_count 361 = .ok (.ireturn, 1) := dec_0 oX12_count (of172 _) rfl
theorem dX12_count_362 : decode cX12_count 362 = .ok (.aload_n 0, 1) := dec_0 oX12_count (of42 _) rfl
theorem dX12_count_363 : decode cX12_count 363 = .ok (.iload_n 2, 1) := dec_0 oX12_count (of28 _) rfl
theorem dX12_count_364 : decode cX12_count 364 = .ok (.invokevirtual 320, 3) := dec_2 oX12_count (of182 _) 1 64 rfl rfl
theorem dX12_count_367 : decode cX12_count 367 = .ok (.ifCond .eq 9, 3) := dec_s2 oX12_count (of153 _) 0 9 rfl (sg16p rfl) rfl
theorem dX12_count_376 : decode cX12_count 376 = .ok (.iload_n 2, 1) := dec_0 oX12_count (of28 _) rfl
theorem dX12_count_377 : decode cX12_count 377 = .ok (.ireturn, 1) := dec_0 oX12_count (of172 _) rfl
theorem dX12_count_378 : decode cX12_count 378 = .ok (.iconst (-1), 1) := dec_0 oX12_count (of2 _) rfl
theorem dX12_count_379 : decode cX12_count 379 = .ok (.ireturn, 1) := dec_0 oX12_count (of172 _) rfl
theorem dX12_count_76 : decode cX12_count 76 = .ok (.aload_n 0, 1) := dec_0 oX12_count (of42 _) rfl
theorem dX12_count_77 : decode cX12_count 77 = .ok (.getfield 70, 3) := dec_2 oX12_count (of180 _) 0 70 rfl rfl
theorem dX12_count_80 : decode cX12_count 80 = .ok (.iconst 0, 1) := dec_0 oX12_count (of3 _) rfl
theorem dX12_count_81 : decode cX12_count 81 = .ok (.iaload, 1) := dec_0 oX12_count (of46 _) rfl
theorem dX12_count_82 : decode cX12_count 82 = .ok (.ireturn, 1) := dec_0 oX12_count (of172 _) rfl
theorem dX12_count_83 : decode cX12_count 83 = .ok (.aload_n 0, 1) := dec_0 oX12_count (of42 _) rfl
theorem dX12_count_84 : decode cX12_count 84 = .ok (.invokevirtual 391, 3) := dec_2 oX12_count (of182 _) 1 135 rfl rfl
theorem dX12_count_87 : decode cX12_count 87 = .ok (.ireturn, 1) := dec_0 oX12_count (of172 _) rfl
theorem dX12_count_88 : decode cX12_count 88 = .ok (.aload_n 0, 1) := dec_0 oX12_count (of42 _) rfl
theorem dX12_count_89 : decode cX12_count 89 = .ok (.getfield 49, 3) := dec_2 oX12_count (of180 _) 0 49 rfl rfl
theorem dX12_count_92 : decode cX12_count 92 = .ok (.aload_n 0, 1) := dec_0 oX12_count (of42 _) rfl
theorem dX12_count_93 : decode cX12_count 93 = .ok (.getfield 197, 3) := dec_2 oX12_count (of180 _) 0 197 rfl rfl
theorem dX12_count_96 : decode cX12_count 96 = .ok (.iaload, 1) := dec_0 oX12_count (of46 _) rfl
theorem dX12_count_97 : decode cX12_count 97 = .ok (.ireturn, 1) := dec_0 oX12_count (of172 _) rfl
theorem dX12_count_98 : decode cX12_count 98 = .ok (.aload_n 0, 1) := dec_0 oX12_count (of42 _) rfl
theorem dX12_count_99 : decode cX12_count 99 = .ok (.getfield 70, 3) := dec_2 oX12_count (of180 _) 0 70 rfl rfl
theorem dX12_cover_0 : decode cX12_cover 0 = .ok (.aload_n 0, 1) := dec_0 oX12_cover (of42 _) rfl
theorem dX12_cover_1 : decode cX12_cover 1 = .ok (.iload_n 1, 1) := dec_0 oX12_cover (of27 _) rfl
theorem dX12_cover_12 : decode cX12_cover 12 = .ok (.iconst (-1), 1) := dec_0 oX12_cover (of2 _) rfl
theorem dX12_cover_13 : decode cX12_cover 13 = .ok (.ireturn, 1) := dec_0 oX12_cover (of172 _) rfl
theorem dX12_cover_2 : decode cX12_cover 2 = .ok (.invokevirtual 251, 3) := dec_2 oX12_cover (of182 _) 0 251 rfl rfl
theorem dX12_cover_5 : decode cX12_cover 5 = .ok (.ifCond .eq 7, 3) := dec_s2 oX12_cover (of153 _) 0 7 rfl (sg16p rfl) rfl
theorem dX12_cut_0 : decode cX12_cut 0 = .ok (.aload_n 0, 1) := dec_0 oX12_cut (of42 _) rfl
theorem dX12_cut_1 : decode cX12_cut 1 = .ok (.iconst 0, 1) := dec_0 oX12_cut (of3 _) rfl
theorem dX12_cut_11 : decode cX12_cut 11 = .ok (.sipush 400, 3) := dec_s2 oX12_cut (of17 _) 1 144 rfl (sg16p rfl) rfl
theorem dX12_cut_14 : decode cX12_cut 14 = .ok (.if_icmp .gt 280, 3) := dec_s2 oX12_cut (of163 _) 1 24 rfl (sg16p rfl) rfl
theorem dX12_cut_17 : decode cX12_cut 17 = .ok (.aload_n 0, 1) := dec_0 oX12_cut (of42 _) rfl
theorem dX12_cut_18 : decode cX12_cut 18 = .ok (.iload_n 1, 1) := dec_0 oX12_cut (of27 _) rfl
theorem dX12_cut_19 : decode cX12_cut 19 = .ok (.invokevirtual 142, 3) := dec_2 oX12_cut (of182 _) 0 142 rfl rfl
theorem dX12_cut_2 : decode cX12_cut 2 = .ok (.putfield 139, 3) := dec_2 oX12_cut (of181 _) 0 139 rfl rfl
theorem dX12_cut_22 : decode cX12_cut 22 = .ok (.istore_n 2, 1) := dec_0 oX12_cut (of61 _) rfl
theorem dX12_cut_23 : decode cX12_cut 23 = .ok (.iload_n 1, 1) := dec_0 oX12_cut (of27 _) rfl
theorem dX12_cut_24 : decode cX12_cut 24 = .ok (.aload_n 0, 1) := dec_0 oX12_cut (of42 _) rfl
theorem dX12_cut_25 : decode cX12_cut 25 = .ok (.getfield 130, 3) := dec_2 oX12_cut (of180 _) 0 130 rfl rfl
theorem dX12_cut_28 : decode cX12_cut 28 = .ok (.if_icmp .lt 15, 3) := dec_s2 oX12_cut (of161 _) 0 15 rfl (sg16p rfl) rfl
theorem dX12_cut_31 : decode cX12_cut 31 = .ok (.aload_n 0, 1) := dec_0 oX12_cut (of42 _) rfl
theorem dX12_cut_32 : decode cX12_cut 32 = .ok (.iconst 0, 1) := dec_0 oX12_cut (of3 _) rfl
theorem dX12_cut_33 : decode cX12_cut 33 = .ok (.aload_n 0, 1) := dec_0 oX12_cut (of42 _) rfl
theorem dX12_cut_34 : decode cX12_cut 34 = .ok (.getfield 130, 3) := dec_2 oX12_cut (of180 _) 0 130 rfl rfl
theorem dX12_cut_37 : decode cX12_cut 37 = .ok (.iconst 0, 1) := dec_0 oX12_cut (of3 _) rfl
theorem dX12_cut_38 : decode cX12_cut 38 = .ok (.lconst 0, 1) := dec_0 oX12_cut (of9 _) rfl
theorem dX12_cut_39 : decode cX12_cut 39 = .ok (.invokevirtual 146, 3) := dec_2 oX12_cut (of182 _) 0 146 rfl rfl
theorem dX12_cut_42 : decode cX12_cut 42 = .ok (.return_, 1) := dec_0 oX12_cut (of177 _) rfl
theorem dX12_cut_5 : decode cX12_cut 5 = .ok (.iconst 0, 1) := dec_0 oX12_cut (of3 _) rfl
theorem dX12_cut_6 : decode cX12_cut 6 = .ok (.istore_n 1, 1) := dec_0 oX12_cut (of60 _) rfl
theorem dX12_cut_7 : decode cX12_cut 7 = .ok (.aload_n 0, 1) := dec_0 oX12_cut (of42 _) rfl
theorem dX12_cut_8 : decode cX12_cut 8 = .ok (.getfield 139, 3) := dec_2 oX12_cut (of180 _) 0 139 rfl rfl
theorem dX12_distance_0 : decode cX12_distance 0 = .ok (.aload_n 0, 1) := dec_0 oX12_distance (of42 _) rfl
theorem dX12_distance_1 : decode cX12_distance 1 = .ok (.iload_n 1, 1) := dec_0 oX12_distance (of27 _) rfl
theorem dX12_distance_10 : decode cX12_distance 10 = .ok (.ireturn, 1) := dec_0 oX12_distance (of172 _) rfl
theorem dX12_distance_2 : decode cX12_distance 2 = .ok (.iload_n 2, 1) := dec_0 oX12_distance (of28 _) rfl
theorem dX12_distance_3 : decode cX12_distance 3 = .ok (.invokevirtual 342, 3) := dec_2 oX12_distance (of182 _) 1 86 rfl rfl
theorem dX12_distance_6 : decode cX12_distance 6 = .ok (.ifCond .ne 5, 3) := dec_s2 oX12_distance (of154 _) 0 5 rfl (sg16p rfl) rfl
theorem dX12_distance_9 : decode cX12_distance 9 = .ok (.iconst (-1), 1) := dec_0 oX12_distance (of2 _) rfl
theorem dX12_drop_0 : decode cX12_drop 0 = .ok (.iload_n 1, 1) := dec_0 oX12_drop (of27 _) rfl
theorem dX12_drop_1 : decode cX12_drop 1 = .ok (.iconst 1, 1) := dec_0 oX12_drop (of4 _) rfl
theorem dX12_drop_11 : decode cX12_drop 11 = .ok (.ifCond .ne 5, 3) := dec_s2 oX12_drop (of154 _) 0 5 rfl (sg16p rfl) rfl
theorem dX12_drop_14 : decode cX12_drop 14 = .ok (.iconst 0, 1) := dec_0 oX12_drop (of3 _) rfl
theorem dX12_drop_15 : decode cX12_drop 15 = .ok (.ireturn, 1) := dec_0 oX12_drop (of172 _) rfl
theorem dX12_drop_2 : decode cX12_drop 2 = .ok (.aload_n 0, 1) := dec_0 oX12_drop (of42 _) rfl
theorem dX12_drop_3 : decode cX12_drop 3 = .ok (.getfield 70, 3) := dec_2 oX12_drop (of180 _) 0 70 rfl rfl
theorem dX12_drop_6 : decode cX12_drop 6 = .ok (.iconst 0, 1) := dec_0 oX12_drop (of3 _) rfl
theorem dX12_drop_7 : decode cX12_drop 7 = .ok (.iaload, 1) := dec_0 oX12_drop (of46 _) rfl
theorem dX12_drop_8 : decode cX12_drop 8 = .ok (.invokestatic 244, 3) := dec_2 oX12_drop (of184 _) 0 244 rfl rfl
theorem dX12_feed_0 : decode cX12_feed 0 = .ok (.aload_n 0, 1) := dec_0 oX12_feed (of42 _) rfl
theorem dX12_feed_1 : decode cX12_feed 1 = .ok (.getfield 124, 3) := dec_2 oX12_feed (of180 _) 0 124 rfl rfl
theorem dX12_feed_10 : decode cX12_feed 10 = .ok (.if_icmp .le 5, 3) := dec_s2 oX12_feed (of164 _) 0 5 rfl (sg16p rfl) rfl
theorem dX12_feed_15 : decode cX12_feed 15 = .ok (.aload_n 0, 1) := dec_0 oX12_feed (of42 _) rfl
theorem dX12_feed_16 : decode cX12_feed 16 = .ok (.iload_n 1, 1) := dec_0 oX12_feed (of27 _) rfl
theorem dX12_feed_17 : decode cX12_feed 17 = .ok (.invokevirtual 127, 3) := dec_2 oX12_feed (of182 _) 0 127 rfl rfl
theorem dX12_feed_20 : decode cX12_feed 20 = .ok (.aload_n 0, 1) := dec_0 oX12_feed (of42 _) rfl
theorem dX12_feed_21 : decode cX12_feed 21 = .ok (.iload_n 2, 1) := dec_0 oX12_feed (of28 _) rfl
theorem dX12_feed_22 : decode cX12_feed 22 = .ok (.invokevirtual 127, 3) := dec_2 oX12_feed (of182 _) 0 127 rfl rfl
theorem dX12_feed_25 : decode cX12_feed 25 = .ok (.aload_n 0, 1) := dec_0 oX12_feed (of42 _) rfl
theorem dX12_feed_26 : decode cX12_feed 26 = .ok (.iload_n 3, 1) := dec_0 oX12_feed (of29 _) rfl
theorem dX12_feed_27 : decode cX12_feed 27 = .ok (.invokevirtual 127, 3) := dec_2 oX12_feed (of182 _) 0 127 rfl rfl
theorem dX12_feed_30 : decode cX12_feed 30 = .ok (.aload_n 0, 1) := dec_0 oX12_feed (of42 _) rfl
theorem dX12_feed_31 : decode cX12_feed 31 = .ok (.iload 4, 2) := dec_1 oX12_feed (of21 _) 4 rfl rfl
theorem dX12_feed_33 : decode cX12_feed 33 = .ok (.invokevirtual 127, 3) := dec_2 oX12_feed (of182 _) 0 127 rfl rfl
theorem dX12_feed_36 : decode cX12_feed 36 = .ok (.aload_n 0, 1) := dec_0 oX12_feed (of42 _) rfl
theorem dX12_feed_37 : decode cX12_feed 37 = .ok (.iload 5, 2) := dec_1 oX12_feed (of21 _) 5 rfl rfl
theorem dX12_feed_39 : decode cX12_feed 39 = .ok (.invokevirtual 127, 3) := dec_2 oX12_feed (of182 _) 0 127 rfl rfl
theorem dX12_feed_4 : decode cX12_feed 4 = .ok (.bipush 20, 2) := dec_s1 oX12_feed (of16 _) 20 rfl (sg8p rfl) rfl
theorem dX12_feed_42 : decode cX12_feed 42 = .ok (.aload_n 0, 1) := dec_0 oX12_feed (of42 _) rfl
theorem dX12_feed_43 : decode cX12_feed 43 = .ok (.getfield 124, 3) := dec_2 oX12_feed (of180 _) 0 124 rfl rfl
theorem dX12_feed_46 : decode cX12_feed 46 = .ok (.ireturn, 1) := dec_0 oX12_feed (of172 _) rfl
theorem dX12_feed_6 : decode cX12_feed 6 = .ok (.iadd, 1) := dec_0 oX12_feed (of96 _) rfl
theorem dX12_feed_7 : decode cX12_feed 7 = .ok (.sipush 2000, 3) := dec_s2 oX12_feed (of17 _) 7 208 rfl (sg16p rfl) rfl
theorem dX12_fired_0 : decode cX12_fired 0 = .ok (.iload_n 1, 1) := dec_0 oX12_fired (of27 _) rfl
theorem dX12_fired_1 : decode cX12_fired 1 = .ok (.ifCond .ge 5, 3) := dec_s2 oX12_fired (of156 _) 0 5 rfl (sg16p rfl) rfl
theorem dX12_fired_10 : decode cX12_fired 10 = .ok (.iconst 0, 1) := dec_0 oX12_fired (of3 _) rfl
theorem dX12_fired_11 : decode cX12_fired 11 = .ok (.istore_n 2, 1) := dec_0 oX12_fired (of61 _) rfl
theorem dX12_fired_12 : decode cX12_fired 12 = .ok (.iconst 0, 1) := dec_0 oX12_fired (of3 _) rfl
theorem dX12_fired_13 : decode cX12_fired 13 = .ok (.istore_n 3, 1) := dec_0 oX12_fired (of62 _) rfl
theorem dX12_fired_14 : decode cX12_fired 14 = .ok (.iload_n 3, 1) := dec_0 oX12_fired (of29 _) rfl
theorem dX12_fired_15 : decode cX12_fired 15 = .ok (.aload_n 0, 1) := dec_0 oX12_fired (of42 _) rfl
theorem dX12_fired_16 : decode cX12_fired 16 = .ok (.getfield 49, 3) := dec_2 oX12_fired (of180 _) 0 49 rfl rfl
theorem dX12_fired_19 : decode cX12_fired 19 = .ok (.aload_n 0, 1) := dec_0 oX12_fired (of42 _) rfl
theorem dX12_fired_20 : decode cX12_fired 20 = .ok (.getfield 197, 3) := dec_2 oX12_fired (of180 _) 0 197 rfl rfl
theorem dX12_fired_23 : decode cX12_fired 23 = .ok (.iaload, 1) := dec_0 oX12_fired (of46 _) rfl
theorem dX12_fired_24 : decode cX12_fired 24 = .ok (.if_icmp .ge 50, 3) := dec_s2 oX12_fired (of162 _) 0 50 rfl (sg16p rfl) rfl
theorem dX12_fired_4 : decode cX12_fired 4 = .ok (.iconst (-1), 1) := dec_0 oX12_fired (of2 _) rfl
theorem dX12_fired_5 : decode cX12_fired 5 = .ok (.ireturn, 1) := dec_0 oX12_fired (of172 _) rfl
theorem dX12_fired_6 : decode cX12_fired 6 = .ok (.aload_n 0, 1) := dec_0 oX12_fired (of42 _) rfl
theorem dX12_fired_7 : decode cX12_fired 7 = .ok (.invokevirtual 323, 3) := dec_2 oX12_fired (of182 _) 1 67 rfl rfl
theorem dX12_fired_74 : decode cX12_fired 74 = .ok (.iload_n 2, 1) := dec_0 oX12_fired (of28 _) rfl
theorem dX12_fired_75 : decode cX12_fired 75 = .ok (.ireturn, 1) := dec_0 oX12_fired (of172 _) rfl
theorem dX12_flat_0 : decode cX12_flat 0 = .ok (.iload_n 1, 1) := dec_0 oX12_flat (of27 _) rfl
theorem dX12_flat_1 : decode cX12_flat 1 = .ok (.iconst 1, 1) := dec_0 oX12_flat (of4 _) rfl
theorem dX12_flat_11 : decode cX12_flat 11 = .ok (.iconst (-1), 1) := dec_0 oX12_flat (of2 _) rfl
theorem dX12_flat_12 : decode cX12_flat 12 = .ok (.ireturn, 1) := dec_0 oX12_flat (of172 _) rfl
theorem dX12_flat_13 : decode cX12_flat 13 = .ok (.iconst 0, 1) := dec_0 oX12_flat (of3 _) rfl
theorem dX12_flat_14 : decode cX12_flat 14 = .ok (.istore_n 2, 1) := dec_0 oX12_flat (of61 _) rfl
theorem dX12_flat_15 : decode cX12_flat 15 = .ok (.iconst 0, 1) := dec_0 oX12_flat (of3 _) rfl
theorem dX12_flat_16 : decode cX12_flat 16 = .ok (.istore_n 3, 1) := dec_0 oX12_flat (of62 _) rfl
theorem dX12_flat_17 : decode cX12_flat 17 = .ok (.iload_n 3, 1) := dec_0 oX12_flat (of29 _) rfl
theorem dX12_flat_18 : decode cX12_flat 18 = .ok (.aload_n 0, 1) := dec_0 oX12_flat (of42 _) rfl
theorem dX12_flat_19 : decode cX12_flat 19 = .ok (.getfield 70, 3) := dec_2 oX12_flat (of180 _) 0 70 rfl rfl
theorem dX12_flat_2 : decode cX12_flat 2 = .ok (.sipush 160, 3) := dec_s2 oX12_flat (of17 _) 0 160 rfl (sg16p rfl) rfl
theorem dX12_flat_22 : decode cX12_flat 22 = .ok (.iconst 0, 1) := dec_0 oX12_flat (of3 _) rfl
theorem dX12_flat_23 : decode cX12_flat 23 = .ok (.iaload, 1) := dec_0 oX12_flat (of46 _) rfl
theorem dX12_flat_24 : decode cX12_flat 24 = .ok (.if_icmp .ge 36, 3) := dec_s2 oX12_flat (of162 _) 0 36 rfl (sg16p rfl) rfl
theorem dX12_flat_5 : decode cX12_flat 5 = .ok (.invokestatic 244, 3) := dec_2 oX12_flat (of184 _) 0 244 rfl rfl
theorem dX12_flat_60 : decode cX12_flat 60 = .ok (.iload_n 2, 1) := dec_0 oX12_flat (of28 _) rfl
theorem dX12_flat_61 : decode cX12_flat 61 = .ok (.ireturn, 1) := dec_0 oX12_flat (of172 _) rfl
theorem dX12_flat_8 : decode cX12_flat 8 = .ok (.ifCond .ne 5, 3) := dec_s2 oX12_flat (of154 _) 0 5 rfl (sg16p rfl) rfl
theorem dX12_gap_0 : decode cX12_gap 0 = .ok (.aload_n 0, 1) := dec_0 oX12_gap (of42 _) rfl
theorem dX12_gap_1 : decode cX12_gap 1 = .ok (.ldc 239, 2) := dec_1 oX12_gap (of18 _) 239 rfl rfl
theorem dX12_gap_3 : decode cX12_gap 3 = .ok (.invokevirtual 329, 3) := dec_2 oX12_gap (of182 _) 1 73 rfl rfl
theorem dX12_gap_6 : decode cX12_gap 6 = .ok (.ireturn, 1) := dec_0 oX12_gap (of172 _) rfl
theorem dX12_gaps_0 : decode cX12_gaps 0 = .ok (.iconst 0, 1) := dec_0 oX12_gaps (of3 _) rfl
theorem dX12_gaps_1 : decode cX12_gaps 1 = .ok (.istore_n 1, 1) := dec_0 oX12_gaps (of60 _) rfl
theorem dX12_gaps_10 : decode cX12_gaps 10 = .ok (.iaload, 1) := dec_0 oX12_gaps (of46 _) rfl
theorem dX12_gaps_11 : decode cX12_gaps 11 = .ok (.if_icmp .ge 20, 3) := dec_s2 oX12_gaps (of162 _) 0 20 rfl (sg16p rfl) rfl
theorem dX12_gaps_2 : decode cX12_gaps 2 = .ok (.iconst 0, 1) := dec_0 oX12_gaps (of3 _) rfl
theorem dX12_gaps_3 : decode cX12_gaps 3 = .ok (.istore_n 2, 1) := dec_0 oX12_gaps (of61 _) rfl
theorem dX12_gaps_31 : decode cX12_gaps 31 = .ok (.iload_n 1, 1) := dec_0 oX12_gaps (of27 _) rfl
theorem dX12_gaps_32 : decode cX12_gaps 32 = .ok (.ireturn, 1) := dec_0 oX12_gaps (of172 _) rfl
theorem dX12_gaps_4 : decode cX12_gaps 4 = .ok (.iload_n 2, 1) := dec_0 oX12_gaps (of28 _) rfl
theorem dX12_gaps_5 : decode cX12_gaps 5 = .ok (.aload_n 0, 1) := dec_0 oX12_gaps (of42 _) rfl
theorem dX12_gaps_6 : decode cX12_gaps 6 = .ok (.getfield 70, 3) := dec_2 oX12_gaps (of180 _) 0 70 rfl rfl
theorem dX12_gaps_9 : decode cX12_gaps 9 = .ok (.iconst 0, 1) := dec_0 oX12_gaps (of3 _) rfl
theorem dX12_hold_0 : decode cX12_hold 0 = .ok (.iload_n 1, 1) := dec_0 oX12_hold (of27 _) rfl
theorem dX12_hold_1 : decode cX12_hold 1 = .ok (.iconst 0, 1) := dec_0 oX12_hold (of3 _) rfl
theorem dX12_hold_10 : decode cX12_hold 10 = .ok (.ireturn, 1) := dec_0 oX12_hold (of172 _) rfl
theorem dX12_hold_11 : decode cX12_hold 11 = .ok (.aload_n 0, 1) := dec_0 oX12_hold (of42 _) rfl
theorem dX12_hold_12 : decode cX12_hold 12 = .ok (.getfield 100, 3) := dec_2 oX12_hold (of180 _) 0 100 rfl rfl
theorem dX12_hold_15 : decode cX12_hold 15 = .ok (.iload_n 1, 1) := dec_0 oX12_hold (of27 _) rfl
theorem dX12_hold_16 : decode cX12_hold 16 = .ok (.iconst 1, 1) := dec_0 oX12_hold (of4 _) rfl
theorem dX12_hold_17 : decode cX12_hold 17 = .ok (.bastore, 1) := dec_0 oX12_hold (of84 _) rfl
theorem dX12_hold_18 : decode cX12_hold 18 = .ok (.iconst 0, 1) := dec_0 oX12_hold (of3 _) rfl
theorem dX12_hold_19 : decode cX12_hold 19 = .ok (.istore_n 2, 1) := dec_0 oX12_hold (of61 _) rfl
theorem dX12_hold_2 : decode cX12_hold 2 = .ok (.iconst 2, 1) := dec_0 oX12_hold (of5 _) rfl
theorem dX12_hold_20 : decode cX12_hold 20 = .ok (.iload_n 2, 1) := dec_0 oX12_hold (of28 _) rfl
theorem dX12_hold_21 : decode cX12_hold 21 = .ok (.sipush 165, 3) := dec_s2 oX12_hold (of17 _) 0 165 rfl (sg16p rfl) rfl
theorem dX12_hold_24 : decode cX12_hold 24 = .ok (.if_icmp .ge 27, 3) := dec_s2 oX12_hold (of162 _) 0 27 rfl (sg16p rfl) rfl
theorem dX12_hold_27 : decode cX12_hold 27 = .ok (.aload_n 0, 1) := dec_0 oX12_hold (of42 _) rfl
theorem dX12_hold_28 : decode cX12_hold 28 = .ok (.getfield 104, 3) := dec_2 oX12_hold (of180 _) 0 104 rfl rfl
theorem dX12_hold_3 : decode cX12_hold 3 = .ok (.invokestatic 244, 3) := dec_2 oX12_hold (of184 _) 0 244 rfl rfl
theorem dX12_hold_31 : decode cX12_hold 31 = .ok (.sipush 165, 3) := dec_s2 oX12_hold (of17 _) 0 165 rfl (sg16p rfl) rfl
theorem dX12_hold_34 : decode cX12_hold 34 = .ok (.iload_n 1, 1) := dec_0 oX12_hold (of27 _) rfl
theorem dX12_hold_35 : decode cX12_hold 35 = .ok (.imul, 1) := dec_0 oX12_hold (of104 _) rfl
theorem dX12_hold_36 : decode cX12_hold 36 = .ok (.iload_n 2, 1) := dec_0 oX12_hold (of28 _) rfl
theorem dX12_hold_37 : decode cX12_hold 37 = .ok (.iadd, 1) := dec_0 oX12_hold (of96 _) rfl
theorem dX12_hold_38 : decode cX12_hold 38 = .ok (.aload_n 0, 1) := dec_0 oX12_hold (of42 _) rfl
theorem dX12_hold_39 : decode cX12_hold 39 = .ok (.getfield 70, 3) := dec_2 oX12_hold (of180 _) 0 70 rfl rfl
theorem dX12_hold_42 : decode cX12_hold 42 = .ok (.iload_n 2, 1) := dec_0 oX12_hold (of28 _) rfl
theorem dX12_hold_43 : decode cX12_hold 43 = .ok (.iaload, 1) := dec_0 oX12_hold (of46 _) rfl
theorem dX12_hold_44 : decode cX12_hold 44 = .ok (.iastore, 1) := dec_0 oX12_hold (of79 _) rfl
theorem dX12_hold_45 : decode cX12_hold 45 = .ok (.iinc 2 1, 3) := dec_ii oX12_hold (of132 _) 2 1 rfl (sg8p rfl) rfl
theorem dX12_hold_48 : decode cX12_hold 48 = .ok (.goto (-28), 3) := dec_s2 oX12_hold (of167 _) 255 228 rfl (sg16n (k := 28) rfl) rfl
theorem dX12_hold_51 : decode cX12_hold 51 = .ok (.iconst 1, 1) := dec_0 oX12_hold (of4 _) rfl
theorem dX12_hold_52 : decode cX12_hold 52 = .ok (.ireturn, 1) := dec_0 oX12_hold (of172 _) rfl
theorem dX12_hold_6 : decode cX12_hold 6 = .ok (.ifCond .ne 5, 3) := dec_s2 oX12_hold (of154 _) 0 5 rfl (sg16p rfl) rfl
theorem dX12_hold_9 : decode cX12_hold 9 = .ok (.iconst 0, 1) := dec_0 oX12_hold (of3 _) rfl
theorem dX12_in_0 : decode cX12_in 0 = .ok (.iload_n 0, 1) := dec_0 oX12_in (of26 _) rfl
theorem dX12_in_1 : decode cX12_in 1 = .ok (.iload_n 1, 1) := dec_0 oX12_in (of27 _) rfl
theorem dX12_in_10 : decode cX12_in 10 = .ok (.iconst 1, 1) := dec_0 oX12_in (of4 _) rfl
theorem dX12_in_11 : decode cX12_in 11 = .ok (.goto 4, 3) := dec_s2 oX12_in (of167 _) 0 4 rfl (sg16p rfl) rfl
theorem dX12_in_14 : decode cX12_in 14 = .ok (.iconst 0, 1) := dec_0 oX12_in (of3 _) rfl
theorem dX12_in_15 : decode cX12_in 15 = .ok (.ireturn, 1) := dec_0 oX12_in (of172 _) rfl
theorem dX12_in_2 : decode cX12_in 2 = .ok (.if_icmp .lt 12, 3) := dec_s2 oX12_in (of161 _) 0 12 rfl (sg16p rfl) rfl
theorem dX12_in_5 : decode cX12_in 5 = .ok (.iload_n 0, 1) := dec_0 oX12_in (of26 _) rfl
theorem dX12_in_6 : decode cX12_in 6 = .ok (.iload_n 2, 1) := dec_0 oX12_in (of28 _) rfl
theorem dX12_in_7 : decode cX12_in 7 = .ok (.if_icmp .gt 7, 3) := dec_s2 oX12_in (of163 _) 0 7 rfl (sg16p rfl) rfl
theorem dX12_init_0 : decode cX12_init 0 = .ok (.aload_n 0, 1) := dec_0 oX12_init (of42 _) rfl
theorem dX12_init_1 : decode cX12_init 1 = .ok (.invokespecial 7, 3) := dec_2 oX12_init (of183 _) 0 7 rfl rfl
theorem dX12_init_10 : decode cX12_init 10 = .ok (.putfield 13, 3) := dec_2 oX12_init (of181 _) 0 13 rfl rfl
theorem dX12_init_101 : decode cX12_init 101 = .ok (.aload_n 0, 1) := dec_0 oX12_init (of42 _) rfl
theorem dX12_init_102 : decode cX12_init 102 = .ok (.bipush 10, 2) := dec_s1 oX12_init (of16 _) 10 rfl (sg8p rfl) rfl
theorem dX12_init_104 : decode cX12_init 104 = .ok (.newarray .int, 2) := by decide +kernel
theorem dX12_init_106 : decode cX12_init 106 = .ok (.putfield 52, 3) := dec_2 oX12_init (of181 _) 0 52 rfl rfl
theorem dX12_init_109 : decode cX12_init 109 = .ok (.aload_n 0, 1) := dec_0 oX12_init (of42 _) rfl
theorem dX12_init_110 : decode cX12_init 110 = .ok (.sipush 160, 3) := dec_s2 oX12_init (of17 _) 0 160 rfl (sg16p rfl) rfl
theorem dX12_init_113 : decode cX12_init 113 = .ok (.newarray .int, 2) := by decide +kernel
theorem dX12_init_115 : decode cX12_init 115 = .ok (.putfield 55, 3) := dec_2 oX12_init (of181 _) 0 55 rfl rfl
theorem dX12_init_118 : decode cX12_init 118 = .ok (.aload_n 0, 1) := dec_0 oX12_init (of42 _) rfl
theorem dX12_init_119 : decode cX12_init 119 = .ok (.iconst 2, 1) := dec_0 oX12_init (of5 _) rfl
theorem dX12_init_120 : decode cX12_init 120 = .ok (.newarray .int, 2) := by decide +kernel
theorem dX12_init_122 : decode cX12_init 122 = .ok (.putfield 58, 3) := dec_2 oX12_init (of181 _) 0 58 rfl rfl
theorem dX12_init_125 : decode cX12_init 125 = .ok (.aload_n 0, 1) := dec_0 oX12_init (of42 _) rfl
theorem dX12_init_126 : decode cX12_init 126 = .ok (.iconst 2, 1) := dec_0 oX12_init (of5 _) rfl
theorem dX12_init_127 : decode cX12_init 127 = .ok (.newarray .int, 2) := by decide +kernel
theorem dX12_init_129 : decode cX12_init 129 = .ok (.putfield 61, 3) := dec_2 oX12_init (of181 _) 0 61 rfl rfl
theorem dX12_init_13 : decode cX12_init 13 = .ok (.aload_n 0, 1) := dec_0 oX12_init (of42 _) rfl
theorem dX12_init_132 : decode cX12_init 132 = .ok (.aload_n 0, 1) := dec_0 oX12_init (of42 _) rfl
theorem dX12_init_133 : decode cX12_init 133 = .ok (.iconst 2, 1) := dec_0 oX12_init (of5 _) rfl
theorem dX12_init_134 : decode cX12_init 134 = .ok (.newarray .int, 2) := by decide +kernel
theorem dX12_init_136 : decode cX12_init 136 = .ok (.putfield 64, 3) := dec_2 oX12_init (of181 _) 0 64 rfl rfl
theorem dX12_init_139 : decode cX12_init 139 = .ok (.aload_n 0, 1) := dec_0 oX12_init (of42 _) rfl
theorem dX12_init_14 : decode cX12_init 14 = .ok (.sipush 2000, 3) := dec_s2 oX12_init (of17 _) 7 208 rfl (sg16p rfl) rfl
theorem dX12_init_140 : decode cX12_init 140 = .ok (.iconst 2, 1) := dec_0 oX12_init (of5 _) rfl
theorem dX12_init_141 : decode cX12_init 141 = .ok (.newarray .int, 2) := by decide +kernel
theorem dX12_init_143 : decode cX12_init 143 = .ok (.putfield 67, 3) := dec_2 oX12_init (of181 _) 0 67 rfl rfl
theorem dX12_init_146 : decode cX12_init 146 = .ok (.aload_n 0, 1) := dec_0 oX12_init (of42 _) rfl
theorem dX12_init_147 : decode cX12_init 147 = .ok (.sipush 165, 3) := dec_s2 oX12_init (of17 _) 0 165 rfl (sg16p rfl) rfl
theorem dX12_init_150 : decode cX12_init 150 = .ok (.newarray .int, 2) := by decide +kernel
theorem dX12_init_152 : decode cX12_init 152 = .ok (.putfield 70, 3) := dec_2 oX12_init (of181 _) 0 70 rfl rfl
theorem dX12_init_155 : decode cX12_init 155 = .ok (.aload_n 0, 1) := dec_0 oX12_init (of42 _) rfl
theorem dX12_init_156 : decode cX12_init 156 = .ok (.sipush 165, 3) := dec_s2 oX12_init (of17 _) 0 165 rfl (sg16p rfl) rfl
theorem dX12_init_159 : decode cX12_init 159 = .ok (.newarray .int, 2) := by decide +kernel
theorem dX12_init_161 : decode cX12_init 161 = .ok (.putfield 73, 3) := dec_2 oX12_init (of181 _) 0 73 rfl rfl
theorem dX12_init_164 : decode cX12_init 164 = .ok (.aload_n 0, 1) := dec_0 oX12_init (of42 _) rfl
theorem dX12_init_165 : decode cX12_init 165 = .ok (.bipush 16, 2) := dec_s1 oX12_init (of16 _) 16 rfl (sg8p rfl) rfl
theorem dX12_init_167 : decode cX12_init 167 = .ok (.newarray .int, 2) := by decide +kernel
theorem dX12_init_169 : decode cX12_init 169 = .ok (.putfield 76, 3) := dec_2 oX12_init (of181 _) 0 76 rfl rfl
theorem dX12_init_17 : decode cX12_init 17 = .ok (.newarray .byte, 2) := by decide +kernel
theorem dX12_init_172 : decode cX12_init 172 = .ok (.aload_n 0, 1) := dec_0 oX12_init (of42 _) rfl
theorem dX12_init_173 : decode cX12_init 173 = .ok (.bipush 16, 2) := dec_s1 oX12_init (of16 _) 16 rfl (sg8p rfl) rfl
theorem dX12_init_175 : decode cX12_init 175 = .ok (.newarray .int, 2) := by decide +kernel
theorem dX12_init_177 : decode cX12_init 177 = .ok (.putfield 79, 3) := dec_2 oX12_init (of181 _) 0 79 rfl rfl
theorem dX12_init_180 : decode cX12_init 180 = .ok (.aload_n 0, 1) := dec_0 oX12_init (of42 _) rfl
theorem dX12_init_181 : decode cX12_init 181 = .ok (.sipush 256, 3) := dec_s2 oX12_init (of17 _) 1 0 rfl (sg16p rfl) rfl
theorem dX12_init_184 : decode cX12_init 184 = .ok (.newarray .int, 2) := by decide +kernel
theorem dX12_init_186 : decode cX12_init 186 = .ok (.putfield 82, 3) := dec_2 oX12_init (of181 _) 0 82 rfl rfl
theorem dX12_init_189 : decode cX12_init 189 = .ok (.aload_n 0, 1) := dec_0 oX12_init (of42 _) rfl
theorem dX12_init_19 : decode cX12_init 19 = .ok (.putfield 17, 3) := dec_2 oX12_init (of181 _) 0 17 rfl rfl
theorem dX12_init_190 : decode cX12_init 190 = .ok (.sipush 6600, 3) := dec_s2 oX12_init (of17 _) 25 200 rfl (sg16p rfl) rfl
theorem dX12_init_193 : decode cX12_init 193 = .ok (.newarray .int, 2) := by decide +kernel
theorem dX12_init_195 : decode cX12_init 195 = .ok (.putfield 85, 3) := dec_2 oX12_init (of181 _) 0 85 rfl rfl
theorem dX12_init_198 : decode cX12_init 198 = .ok (.aload_n 0, 1) := dec_0 oX12_init (of42 _) rfl
theorem dX12_init_199 : decode cX12_init 199 = .ok (.bipush 40, 2) := dec_s1 oX12_init (of16 _) 40 rfl (sg8p rfl) rfl
theorem dX12_init_201 : decode cX12_init 201 = .ok (.newarray .int, 2) := by decide +kernel
theorem dX12_init_203 : decode cX12_init 203 = .ok (.putfield 88, 3) := dec_2 oX12_init (of181 _) 0 88 rfl rfl
theorem dX12_init_206 : decode cX12_init 206 = .ok (.aload_n 0, 1) := dec_0 oX12_init (of42 _) rfl
theorem dX12_init_207 : decode cX12_init 207 = .ok (.sipush 160, 3) := dec_s2 oX12_init (of17 _) 0 160 rfl (sg16p rfl) rfl
theorem dX12_init_210 : decode cX12_init 210 = .ok (.newarray .int, 2) := by decide +kernel
theorem dX12_init_212 : decode cX12_init 212 = .ok (.putfield 91, 3) := dec_2 oX12_init (of181 _) 0 91 rfl rfl
theorem dX12_init_215 : decode cX12_init 215 = .ok (.aload_n 0, 1) := dec_0 oX12_init (of42 _) rfl
theorem dX12_init_216 : decode cX12_init 216 = .ok (.bipush 9, 2) := dec_s1 oX12_init (of16 _) 9 rfl (sg8p rfl) rfl
theorem dX12_init_218 : decode cX12_init 218 = .ok (.newarray .int, 2) := by decide +kernel
theorem dX12_init_22 : decode cX12_init 22 = .ok (.aload_n 0, 1) := dec_0 oX12_init (of42 _) rfl
theorem dX12_init_220 : decode cX12_init 220 = .ok (.putfield 94, 3) := dec_2 oX12_init (of181 _) 0 94 rfl rfl
theorem dX12_init_223 : decode cX12_init 223 = .ok (.aload_n 0, 1) := dec_0 oX12_init (of42 _) rfl
theorem dX12_init_224 : decode cX12_init 224 = .ok (.sipush 160, 3) := dec_s2 oX12_init (of17 _) 0 160 rfl (sg16p rfl) rfl
theorem dX12_init_227 : decode cX12_init 227 = .ok (.newarray .int, 2) := by decide +kernel
theorem dX12_init_229 : decode cX12_init 229 = .ok (.putfield 97, 3) := dec_2 oX12_init (of181 _) 0 97 rfl rfl
theorem dX12_init_23 : decode cX12_init 23 = .ok (.sipush 403, 3) := dec_s2 oX12_init (of17 _) 1 147 rfl (sg16p rfl) rfl
theorem dX12_init_232 : decode cX12_init 232 = .ok (.aload_n 0, 1) := dec_0 oX12_init (of42 _) rfl
theorem dX12_init_233 : decode cX12_init 233 = .ok (.iconst 3, 1) := dec_0 oX12_init (of6 _) rfl
theorem dX12_init_234 : decode cX12_init 234 = .ok (.newarray .boolean, 2) := by decide +kernel
theorem dX12_init_236 : decode cX12_init 236 = .ok (.putfield 100, 3) := dec_2 oX12_init (of181 _) 0 100 rfl rfl
theorem dX12_init_239 : decode cX12_init 239 = .ok (.aload_n 0, 1) := dec_0 oX12_init (of42 _) rfl
theorem dX12_init_240 : decode cX12_init 240 = .ok (.sipush 495, 3) := dec_s2 oX12_init (of17 _) 1 239 rfl (sg16p rfl) rfl
theorem dX12_init_243 : decode cX12_init 243 = .ok (.newarray .int, 2) := by decide +kernel
theorem dX12_init_245 : decode cX12_init 245 = .ok (.putfield 104, 3) := dec_2 oX12_init (of181 _) 0 104 rfl rfl
theorem dX12_init_248 : decode cX12_init 248 = .ok (.aload_n 0, 1) := dec_0 oX12_init (of42 _) rfl
theorem dX12_init_249 : decode cX12_init 249 = .ok (.iconst 0, 1) := dec_0 oX12_init (of3 _) rfl
theorem dX12_init_250 : decode cX12_init 250 = .ok (.invokevirtual 107, 3) := dec_2 oX12_init (of182 _) 0 107 rfl rfl
theorem dX12_init_253 : decode cX12_init 253 = .ok (.aload_n 0, 1) := dec_0 oX12_init (of42 _) rfl
theorem dX12_init_254 : decode cX12_init 254 = .ok (.iconst 1, 1) := dec_0 oX12_init (of4 _) rfl
theorem dX12_init_255 : decode cX12_init 255 = .ok (.invokevirtual 107, 3) := dec_2 oX12_init (of182 _) 0 107 rfl rfl
theorem dX12_init_258 : decode cX12_init 258 = .ok (.aload_n 0, 1) := dec_0 oX12_init (of42 _) rfl
theorem dX12_init_259 : decode cX12_init 259 = .ok (.iconst (-1), 1) := dec_0 oX12_init (of2 _) rfl
theorem dX12_init_26 : decode cX12_init 26 = .ok (.newarray .int, 2) := by decide +kernel
theorem dX12_init_260 : decode cX12_init 260 = .ok (.putfield 111, 3) := dec_2 oX12_init (of181 _) 0 111 rfl rfl
theorem dX12_init_263 : decode cX12_init 263 = .ok (.aload_n 0, 1) := dec_0 oX12_init (of42 _) rfl
theorem dX12_init_264 : decode cX12_init 264 = .ok (.getfield 34, 3) := dec_2 oX12_init (of180 _) 0 34 rfl rfl
theorem dX12_init_267 : decode cX12_init 267 = .ok (.iconst 0, 1) := dec_0 oX12_init (of3 _) rfl
theorem dX12_init_268 : decode cX12_init 268 = .ok (.bipush 115, 2) := dec_s1 oX12_init (of16 _) 115 rfl (sg8p rfl) rfl
theorem dX12_init_270 : decode cX12_init 270 = .ok (.bipush 101, 2) := dec_s1 oX12_init (of16 _) 101 rfl (sg8p rfl) rfl
theorem dX12_init_272 : decode cX12_init 272 = .ok (.bipush 114, 2) := dec_s1 oX12_init (of16 _) 114 rfl (sg8p rfl) rfl
theorem dX12_init_274 : decode cX12_init 274 = .ok (.bipush 105, 2) := dec_s1 oX12_init (of16 _) 105 rfl (sg8p rfl) rfl
theorem dX12_init_276 : decode cX12_init 276 = .ok (.bipush 101, 2) := dec_s1 oX12_init (of16 _) 101 rfl (sg8p rfl) rfl
theorem dX12_init_278 : decode cX12_init 278 = .ok (.bipush 115, 2) := dec_s1 oX12_init (of16 _) 115 rfl (sg8p rfl) rfl
theorem dX12_init_28 : decode cX12_init 28 = .ok (.putfield 20, 3) := dec_2 oX12_init (of181 _) 0 20 rfl rfl
theorem dX12_init_280 : decode cX12_init 280 = .ok (.iconst 0, 1) := dec_0 oX12_init (of3 _) rfl
theorem dX12_init_281 : decode cX12_init 281 = .ok (.invokestatic 114, 3) := dec_2 oX12_init (of184 _) 0 114 rfl rfl
theorem dX12_init_284 : decode cX12_init 284 = .ok (.lastore, 1) := dec_0 oX12_init (of80 _) rfl
theorem dX12_init_285 : decode cX12_init 285 = .ok (.aload_n 0, 1) := dec_0 oX12_init (of42 _) rfl
theorem dX12_init_286 : decode cX12_init 286 = .ok (.getfield 34, 3) := dec_2 oX12_init (of180 _) 0 34 rfl rfl
theorem dX12_init_289 : decode cX12_init 289 = .ok (.iconst 1, 1) := dec_0 oX12_init (of4 _) rfl
theorem dX12_init_290 : decode cX12_init 290 = .ok (.bipush 113, 2) := dec_s1 oX12_init (of16 _) 113 rfl (sg8p rfl) rfl
theorem dX12_init_292 : decode cX12_init 292 = .ok (.bipush 117, 2) := dec_s1 oX12_init (of16 _) 117 rfl (sg8p rfl) rfl
theorem dX12_init_294 : decode cX12_init 294 = .ok (.bipush 101, 2) := dec_s1 oX12_init (of16 _) 101 rfl (sg8p rfl) rfl
theorem dX12_init_296 : decode cX12_init 296 = .ok (.bipush 114, 2) := dec_s1 oX12_init (of16 _) 114 rfl (sg8p rfl) rfl
theorem dX12_init_298 : decode cX12_init 298 = .ok (.bipush 121, 2) := dec_s1 oX12_init (of16 _) 121 rfl (sg8p rfl) rfl
theorem dX12_init_300 : decode cX12_init 300 = .ok (.iconst 0, 1) := dec_0 oX12_init (of3 _) rfl
theorem dX12_init_301 : decode cX12_init 301 = .ok (.iconst 0, 1) := dec_0 oX12_init (of3 _) rfl
theorem dX12_init_302 : decode cX12_init 302 = .ok (.invokestatic 114, 3) := dec_2 oX12_init (of184 _) 0 114 rfl rfl
theorem dX12_init_305 : decode cX12_init 305 = .ok (.lastore, 1) := dec_0 oX12_init (of80 _) rfl
theorem dX12_init_306 : decode cX12_init 306 = .ok (.aload_n 0, 1) := dec_0 oX12_init (of42 _) rfl
theorem dX12_init_307 : decode cX12_init 307 = .ok (.getfield 34, 3) := dec_2 oX12_init (of180 _) 0 34 rfl rfl
theorem dX12_init_31 : decode cX12_init 31 = .ok (.aload_n 0, 1) := dec_0 oX12_init (of42 _) rfl
theorem dX12_init_310 : decode cX12_init 310 = .ok (.iconst 2, 1) := dec_0 oX12_init (of5 _) rfl
theorem dX12_init_311 : decode cX12_init 311 = .ok (.bipush 98, 2) := dec_s1 oX12_init (of16 _) 98 rfl (sg8p rfl) rfl
theorem dX12_init_313 : decode cX12_init 313 = .ok (.bipush 97, 2) := dec_s1 oX12_init (of16 _) 97 rfl (sg8p rfl) rfl
theorem dX12_init_315 : decode cX12_init 315 = .ok (.bipush 110, 2) := dec_s1 oX12_init (of16 _) 110 rfl (sg8p rfl) rfl
theorem dX12_init_317 : decode cX12_init 317 = .ok (.bipush 100, 2) := dec_s1 oX12_init (of16 _) 100 rfl (sg8p rfl) rfl
theorem dX12_init_319 : decode cX12_init 319 = .ok (.iconst 0, 1) := dec_0 oX12_init (of3 _) rfl
theorem dX12_init_32 : decode cX12_init 32 = .ok (.sipush 403, 3) := dec_s2 oX12_init (of17 _) 1 147 rfl (sg16p rfl) rfl
theorem dX12_init_320 : decode cX12_init 320 = .ok (.iconst 0, 1) := dec_0 oX12_init (of3 _) rfl
theorem dX12_init_321 : decode cX12_init 321 = .ok (.iconst 0, 1) := dec_0 oX12_init (of3 _) rfl
theorem dX12_init_322 : decode cX12_init 322 = .ok (.invokestatic 114, 3) := dec_2 oX12_init (of184 _) 0 114 rfl rfl
theorem dX12_init_325 : decode cX12_init 325 = .ok (.lastore, 1) := dec_0 oX12_init (of80 _) rfl
theorem dX12_init_326 : decode cX12_init 326 = .ok (.aload_n 0, 1) := dec_0 oX12_init (of42 _) rfl
theorem dX12_init_327 : decode cX12_init 327 = .ok (.getfield 34, 3) := dec_2 oX12_init (of180 _) 0 34 rfl rfl
theorem dX12_init_330 : decode cX12_init 330 = .ok (.iconst 3, 1) := dec_0 oX12_init (of6 _) rfl
theorem dX12_init_331 : decode cX12_init 331 = .ok (.bipush 108, 2) := dec_s1 oX12_init (of16 _) 108 rfl (sg8p rfl) rfl
theorem dX12_init_333 : decode cX12_init 333 = .ok (.bipush 101, 2) := dec_s1 oX12_init (of16 _) 101 rfl (sg8p rfl) rfl
theorem dX12_init_335 : decode cX12_init 335 = .ok (.bipush 118, 2) := dec_s1 oX12_init (of16 _) 118 rfl (sg8p rfl) rfl
theorem dX12_init_337 : decode cX12_init 337 = .ok (.bipush 101, 2) := dec_s1 oX12_init (of16 _) 101 rfl (sg8p rfl) rfl
theorem dX12_init_339 : decode cX12_init 339 = .ok (.bipush 108, 2) := dec_s1 oX12_init (of16 _) 108 rfl (sg8p rfl) rfl
theorem dX12_init_341 : decode cX12_init 341 = .ok (.iconst 0, 1) := dec_0 oX12_init (of3 _) rfl
theorem dX12_init_342 : decode cX12_init 342 = .ok (.iconst 0, 1) := dec_0 oX12_init (of3 _) rfl
theorem dX12_init_343 : decode cX12_init 343 = .ok (.invokestatic 114, 3) := dec_2 oX12_init (of184 _) 0 114 rfl rfl
theorem dX12_init_346 : decode cX12_init 346 = .ok (.lastore, 1) := dec_0 oX12_init (of80 _) rfl
theorem dX12_init_347 : decode cX12_init 347 = .ok (.aload_n 0, 1) := dec_0 oX12_init (of42 _) rfl
theorem dX12_init_348 : decode cX12_init 348 = .ok (.getfield 34, 3) := dec_2 oX12_init (of180 _) 0 34 rfl rfl
theorem dX12_init_35 : decode cX12_init 35 = .ok (.newarray .int, 2) := by decide +kernel
theorem dX12_init_351 : decode cX12_init 351 = .ok (.iconst 4, 1) := dec_0 oX12_init (of7 _) rfl
theorem dX12_init_352 : decode cX12_init 352 = .ok (.bipush 99, 2) := dec_s1 oX12_init (of16 _) 99 rfl (sg8p rfl) rfl
theorem dX12_init_354 : decode cX12_init 354 = .ok (.bipush 111, 2) := dec_s1 oX12_init (of16 _) 111 rfl (sg8p rfl) rfl
theorem dX12_init_356 : decode cX12_init 356 = .ok (.bipush 115, 2) := dec_s1 oX12_init (of16 _) 115 rfl (sg8p rfl) rfl
theorem dX12_init_358 : decode cX12_init 358 = .ok (.bipush 116, 2) := dec_s1 oX12_init (of16 _) 116 rfl (sg8p rfl) rfl
theorem dX12_init_360 : decode cX12_init 360 = .ok (.iconst 0, 1) := dec_0 oX12_init (of3 _) rfl
theorem dX12_init_361 : decode cX12_init 361 = .ok (.iconst 0, 1) := dec_0 oX12_init (of3 _) rfl
theorem dX12_init_362 : decode cX12_init 362 = .ok (.iconst 0, 1) := dec_0 oX12_init (of3 _) rfl
theorem dX12_init_363 : decode cX12_init 363 = .ok (.invokestatic 114, 3) := dec_2 oX12_init (of184 _) 0 114 rfl rfl
theorem dX12_init_366 : decode cX12_init 366 = .ok (.lastore, 1) := dec_0 oX12_init (of80 _) rfl
theorem dX12_init_367 : decode cX12_init 367 = .ok (.aload_n 0, 1) := dec_0 oX12_init (of42 _) rfl
theorem dX12_init_368 : decode cX12_init 368 = .ok (.getfield 34, 3) := dec_2 oX12_init (of180 _) 0 34 rfl rfl
theorem dX12_init_37 : decode cX12_init 37 = .ok (.putfield 24, 3) := dec_2 oX12_init (of181 _) 0 24 rfl rfl
theorem dX12_init_371 : decode cX12_init 371 = .ok (.iconst 5, 1) := dec_0 oX12_init (of8 _) rfl
theorem dX12_init_372 : decode cX12_init 372 = .ok (.bipush 97, 2) := dec_s1 oX12_init (of16 _) 97 rfl (sg8p rfl) rfl
theorem dX12_init_374 : decode cX12_init 374 = .ok (.bipush 112, 2) := dec_s1 oX12_init (of16 _) 112 rfl (sg8p rfl) rfl
theorem dX12_init_376 : decode cX12_init 376 = .ok (.bipush 97, 2) := dec_s1 oX12_init (of16 _) 97 rfl (sg8p rfl) rfl
theorem dX12_init_378 : decode cX12_init 378 = .ok (.bipush 114, 2) := dec_s1 oX12_init (of16 _) 114 rfl (sg8p rfl) rfl
theorem dX12_init_380 : decode cX12_init 380 = .ok (.bipush 116, 2) := dec_s1 oX12_init (of16 _) 116 rfl (sg8p rfl) rfl
theorem dX12_init_382 : decode cX12_init 382 = .ok (.iconst 0, 1) := dec_0 oX12_init (of3 _) rfl
theorem dX12_init_383 : decode cX12_init 383 = .ok (.iconst 0, 1) := dec_0 oX12_init (of3 _) rfl
theorem dX12_init_384 : decode cX12_init 384 = .ok (.invokestatic 114, 3) := dec_2 oX12_init (of184 _) 0 114 rfl rfl
theorem dX12_init_387 : decode cX12_init 387 = .ok (.lastore, 1) := dec_0 oX12_init (of80 _) rfl
theorem dX12_init_388 : decode cX12_init 388 = .ok (.aload_n 0, 1) := dec_0 oX12_init (of42 _) rfl
theorem dX12_init_389 : decode cX12_init 389 = .ok (.getfield 34, 3) := dec_2 oX12_init (of180 _) 0 34 rfl rfl
theorem dX12_init_392 : decode cX12_init 392 = .ok (.bipush 6, 2) := dec_s1 oX12_init (of16 _) 6 rfl (sg8p rfl) rfl
theorem dX12_init_394 : decode cX12_init 394 = .ok (.bipush 103, 2) := dec_s1 oX12_init (of16 _) 103 rfl (sg8p rfl) rfl
theorem dX12_init_396 : decode cX12_init 396 = .ok (.bipush 97, 2) := dec_s1 oX12_init (of16 _) 97 rfl (sg8p rfl) rfl
theorem dX12_init_398 : decode cX12_init 398 = .ok (.bipush 112, 2) := dec_s1 oX12_init (of16 _) 112 rfl (sg8p rfl) rfl
theorem dX12_init_4 : decode cX12_init 4 = .ok (.aload_n 0, 1) := dec_0 oX12_init (of42 _) rfl
theorem dX12_init_40 : decode cX12_init 40 = .ok (.aload_n 0, 1) := dec_0 oX12_init (of42 _) rfl
theorem dX12_init_400 : decode cX12_init 400 = .ok (.iconst 0, 1) := dec_0 oX12_init (of3 _) rfl
theorem dX12_init_401 : decode cX12_init 401 = .ok (.iconst 0, 1) := dec_0 oX12_init (of3 _) rfl
theorem dX12_init_402 : decode cX12_init 402 = .ok (.iconst 0, 1) := dec_0 oX12_init (of3 _) rfl
theorem dX12_init_403 : decode cX12_init 403 = .ok (.iconst 0, 1) := dec_0 oX12_init (of3 _) rfl
theorem dX12_init_404 : decode cX12_init 404 = .ok (.invokestatic 114, 3) := dec_2 oX12_init (of184 _) 0 114 rfl rfl
theorem dX12_init_407 : decode cX12_init 407 = .ok (.lastore, 1) := dec_0 oX12_init (of80 _) rfl
theorem dX12_init_408 : decode cX12_init 408 = .ok (.aload_n 0, 1) := dec_0 oX12_init (of42 _) rfl
theorem dX12_init_409 : decode cX12_init 409 = .ok (.getfield 34, 3) := dec_2 oX12_init (of180 _) 0 34 rfl rfl
theorem dX12_init_41 : decode cX12_init 41 = .ok (.sipush 403, 3) := dec_s2 oX12_init (of17 _) 1 147 rfl (sg16p rfl) rfl
theorem dX12_init_412 : decode cX12_init 412 = .ok (.bipush 7, 2) := dec_s1 oX12_init (of16 _) 7 rfl (sg8p rfl) rfl
theorem dX12_init_414 : decode cX12_init 414 = .ok (.bipush 110, 2) := dec_s1 oX12_init (of16 _) 110 rfl (sg8p rfl) rfl
theorem dX12_init_416 : decode cX12_init 416 = .ok (.bipush 111, 2) := dec_s1 oX12_init (of16 _) 111 rfl (sg8p rfl) rfl
theorem dX12_init_418 : decode cX12_init 418 = .ok (.bipush 110, 2) := dec_s1 oX12_init (of16 _) 110 rfl (sg8p rfl) rfl
theorem dX12_init_420 : decode cX12_init 420 = .ok (.bipush 101, 2) := dec_s1 oX12_init (of16 _) 101 rfl (sg8p rfl) rfl
theorem dX12_init_422 : decode cX12_init 422 = .ok (.iconst 0, 1) := dec_0 oX12_init (of3 _) rfl
theorem dX12_init_423 : decode cX12_init 423 = .ok (.iconst 0, 1) := dec_0 oX12_init (of3 _) rfl
theorem dX12_init_424 : decode cX12_init 424 = .ok (.iconst 0, 1) := dec_0 oX12_init (of3 _) rfl
theorem dX12_init_425 : decode cX12_init 425 = .ok (.invokestatic 114, 3) := dec_2 oX12_init (of184 _) 0 114 rfl rfl
theorem dX12_init_428 : decode cX12_init 428 = .ok (.lastore, 1) := dec_0 oX12_init (of80 _) rfl
theorem dX12_init_429 : decode cX12_init 429 = .ok (.aload_n 0, 1) := dec_0 oX12_init (of42 _) rfl
theorem dX12_init_430 : decode cX12_init 430 = .ok (.getfield 34, 3) := dec_2 oX12_init (of180 _) 0 34 rfl rfl
theorem dX12_init_433 : decode cX12_init 433 = .ok (.bipush 8, 2) := dec_s1 oX12_init (of16 _) 8 rfl (sg8p rfl) rfl
theorem dX12_init_435 : decode cX12_init 435 = .ok (.bipush 109, 2) := dec_s1 oX12_init (of16 _) 109 rfl (sg8p rfl) rfl
theorem dX12_init_437 : decode cX12_init 437 = .ok (.bipush 101, 2) := dec_s1 oX12_init (of16 _) 101 rfl (sg8p rfl) rfl
theorem dX12_init_439 : decode cX12_init 439 = .ok (.bipush 97, 2) := dec_s1 oX12_init (of16 _) 97 rfl (sg8p rfl) rfl
theorem dX12_init_44 : decode cX12_init 44 = .ok (.newarray .int, 2) := by decide +kernel
theorem dX12_init_441 : decode cX12_init 441 = .ok (.bipush 110, 2) := dec_s1 oX12_init (of16 _) 110 rfl (sg8p rfl) rfl
theorem dX12_init_443 : decode cX12_init 443 = .ok (.iconst 0, 1) := dec_0 oX12_init (of3 _) rfl
theorem dX12_init_444 : decode cX12_init 444 = .ok (.iconst 0, 1) := dec_0 oX12_init (of3 _) rfl
theorem dX12_init_445 : decode cX12_init 445 = .ok (.iconst 0, 1) := dec_0 oX12_init (of3 _) rfl
theorem dX12_init_446 : decode cX12_init 446 = .ok (.invokestatic 114, 3) := dec_2 oX12_init (of184 _) 0 114 rfl rfl
theorem dX12_init_449 : decode cX12_init 449 = .ok (.lastore, 1) := dec_0 oX12_init (of80 _) rfl
theorem dX12_init_450 : decode cX12_init 450 = .ok (.aload_n 0, 1) := dec_0 oX12_init (of42 _) rfl
theorem dX12_init_451 : decode cX12_init 451 = .ok (.getfield 34, 3) := dec_2 oX12_init (of180 _) 0 34 rfl rfl
theorem dX12_init_454 : decode cX12_init 454 = .ok (.bipush 9, 2) := dec_s1 oX12_init (of16 _) 9 rfl (sg8p rfl) rfl
theorem dX12_init_456 : decode cX12_init 456 = .ok (.bipush 102, 2) := dec_s1 oX12_init (of16 _) 102 rfl (sg8p rfl) rfl
theorem dX12_init_458 : decode cX12_init 458 = .ok (.bipush 105, 2) := dec_s1 oX12_init (of16 _) 105 rfl (sg8p rfl) rfl
theorem dX12_init_46 : decode cX12_init 46 = .ok (.putfield 27, 3) := dec_2 oX12_init (of181 _) 0 27 rfl rfl
theorem dX12_init_460 : decode cX12_init 460 = .ok (.bipush 114, 2) := dec_s1 oX12_init (of16 _) 114 rfl (sg8p rfl) rfl
theorem dX12_init_462 : decode cX12_init 462 = .ok (.bipush 115, 2) := dec_s1 oX12_init (of16 _) 115 rfl (sg8p rfl) rfl
theorem dX12_init_464 : decode cX12_init 464 = .ok (.bipush 116, 2) := dec_s1 oX12_init (of16 _) 116 rfl (sg8p rfl) rfl
theorem dX12_init_466 : decode cX12_init 466 = .ok (.iconst 0, 1) := dec_0 oX12_init (of3 _) rfl
theorem dX12_init_467 : decode cX12_init 467 = .ok (.iconst 0, 1) := dec_0 oX12_init (of3 _) rfl
theorem dX12_init_468 : decode cX12_init 468 = .ok (.invokestatic 114, 3) := dec_2 oX12_init (of184 _) 0 114 rfl rfl
theorem dX12_init_471 : decode cX12_init 471 = .ok (.lastore, 1) := dec_0 oX12_init (of80 _) rfl
theorem dX12_init_472 : decode cX12_init 472 = .ok (.aload_n 0, 1) := dec_0 oX12_init (of42 _) rfl
theorem dX12_init_473 : decode cX12_init 473 = .ok (.getfield 34, 3) := dec_2 oX12_init (of180 _) 0 34 rfl rfl
theorem dX12_init_476 : decode cX12_init 476 = .ok (.bipush 10, 2) := dec_s1 oX12_init (of16 _) 10 rfl (sg8p rfl) rfl
theorem dX12_init_478 : decode cX12_init 478 = .ok (.bipush 114, 2) := dec_s1 oX12_init (of16 _) 114 rfl (sg8p rfl) rfl
theorem dX12_init_480 : decode cX12_init 480 = .ok (.bipush 97, 2) := dec_s1 oX12_init (of16 _) 97 rfl (sg8p rfl) rfl
theorem dX12_init_482 : decode cX12_init 482 = .ok (.bipush 110, 2) := dec_s1 oX12_init (of16 _) 110 rfl (sg8p rfl) rfl
theorem dX12_init_484 : decode cX12_init 484 = .ok (.bipush 103, 2) := dec_s1 oX12_init (of16 _) 103 rfl (sg8p rfl) rfl
theorem dX12_init_486 : decode cX12_init 486 = .ok (.bipush 101, 2) := dec_s1 oX12_init (of16 _) 101 rfl (sg8p rfl) rfl
theorem dX12_init_488 : decode cX12_init 488 = .ok (.iconst 0, 1) := dec_0 oX12_init (of3 _) rfl
theorem dX12_init_489 : decode cX12_init 489 = .ok (.iconst 0, 1) := dec_0 oX12_init (of3 _) rfl
theorem dX12_init_49 : decode cX12_init 49 = .ok (.aload_n 0, 1) := dec_0 oX12_init (of42 _) rfl
theorem dX12_init_490 : decode cX12_init 490 = .ok (.invokestatic 114, 3) := dec_2 oX12_init (of184 _) 0 114 rfl rfl
theorem dX12_init_493 : decode cX12_init 493 = .ok (.lastore, 1) := dec_0 oX12_init (of80 _) rfl
theorem dX12_init_494 : decode cX12_init 494 = .ok (.aload_n 0, 1) := dec_0 oX12_init (of42 _) rfl
theorem dX12_init_495 : decode cX12_init 495 = .ok (.getfield 34, 3) := dec_2 oX12_init (of180 _) 0 34 rfl rfl
theorem dX12_init_498 : decode cX12_init 498 = .ok (.bipush 11, 2) := dec_s1 oX12_init (of16 _) 11 rfl (sg8p rfl) rfl
theorem dX12_init_5 : decode cX12_init 5 = .ok (.sipush 2000, 3) := dec_s2 oX12_init (of17 _) 7 208 rfl (sg16p rfl) rfl
theorem dX12_init_50 : decode cX12_init 50 = .ok (.sipush 403, 3) := dec_s2 oX12_init (of17 _) 1 147 rfl (sg16p rfl) rfl
theorem dX12_init_500 : decode cX12_init 500 = .ok (.bipush 112, 2) := dec_s1 oX12_init (of16 _) 112 rfl (sg8p rfl) rfl
theorem dX12_init_502 : decode cX12_init 502 = .ok (.bipush 108, 2) := dec_s1 oX12_init (of16 _) 108 rfl (sg8p rfl) rfl
theorem dX12_init_504 : decode cX12_init 504 = .ok (.bipush 97, 2) := dec_s1 oX12_init (of16 _) 97 rfl (sg8p rfl) rfl
theorem dX12_init_506 : decode cX12_init 506 = .ok (.bipush 105, 2) := dec_s1 oX12_init (of16 _) 105 rfl (sg8p rfl) rfl
theorem dX12_init_508 : decode cX12_init 508 = .ok (.bipush 110, 2) := dec_s1 oX12_init (of16 _) 110 rfl (sg8p rfl) rfl
theorem dX12_init_510 : decode cX12_init 510 = .ok (.iconst 0, 1) := dec_0 oX12_init (of3 _) rfl
theorem dX12_init_511 : decode cX12_init 511 = .ok (.iconst 0, 1) := dec_0 oX12_init (of3 _) rfl
theorem dX12_init_512 : decode cX12_init 512 = .ok (.invokestatic 114, 3) := dec_2 oX12_init (of184 _) 0 114 rfl rfl
theorem dX12_init_515 : decode cX12_init 515 = .ok (.lastore, 1) := dec_0 oX12_init (of80 _) rfl
theorem dX12_init_516 : decode cX12_init 516 = .ok (.aload_n 0, 1) := dec_0 oX12_init (of42 _) rfl
theorem dX12_init_517 : decode cX12_init 517 = .ok (.getfield 34, 3) := dec_2 oX12_init (of180 _) 0 34 rfl rfl
theorem dX12_init_520 : decode cX12_init 520 = .ok (.bipush 12, 2) := dec_s1 oX12_init (of16 _) 12 rfl (sg8p rfl) rfl
theorem dX12_init_522 : decode cX12_init 522 = .ok (.bipush 115, 2) := dec_s1 oX12_init (of16 _) 115 rfl (sg8p rfl) rfl
theorem dX12_init_524 : decode cX12_init 524 = .ok (.bipush 113, 2) := dec_s1 oX12_init (of16 _) 113 rfl (sg8p rfl) rfl
theorem dX12_init_526 : decode cX12_init 526 = .ok (.bipush 117, 2) := dec_s1 oX12_init (of16 _) 117 rfl (sg8p rfl) rfl
theorem dX12_init_528 : decode cX12_init 528 = .ok (.bipush 97, 2) := dec_s1 oX12_init (of16 _) 97 rfl (sg8p rfl) rfl
theorem dX12_init_53 : decode cX12_init 53 = .ok (.newarray .long, 2) := by decide +kernel
theorem dX12_init_530 : decode cX12_init 530 = .ok (.bipush 114, 2) := dec_s1 oX12_init (of16 _) 114 rfl (sg8p rfl) rfl
theorem dX12_init_532 : decode cX12_init 532 = .ok (.bipush 101, 2) := dec_s1 oX12_init (of16 _) 101 rfl (sg8p rfl) rfl
theorem dX12_init_534 : decode cX12_init 534 = .ok (.iconst 0, 1) := dec_0 oX12_init (of3 _) rfl
theorem dX12_init_535 : decode cX12_init 535 = .ok (.invokestatic 114, 3) := dec_2 oX12_init (of184 _) 0 114 rfl rfl
theorem dX12_init_538 : decode cX12_init 538 = .ok (.lastore, 1) := dec_0 oX12_init (of80 _) rfl
theorem dX12_init_539 : decode cX12_init 539 = .ok (.aload_n 0, 1) := dec_0 oX12_init (of42 _) rfl
theorem dX12_init_540 : decode cX12_init 540 = .ok (.invokevirtual 118, 3) := dec_2 oX12_init (of182 _) 0 118 rfl rfl
theorem dX12_init_543 : decode cX12_init 543 = .ok (.aload_n 0, 1) := dec_0 oX12_init (of42 _) rfl
theorem dX12_init_544 : decode cX12_init 544 = .ok (.invokevirtual 121, 3) := dec_2 oX12_init (of182 _) 0 121 rfl rfl
theorem dX12_init_547 : decode cX12_init 547 = .ok (.return_, 1) := dec_0 oX12_init (of177 _) rfl
theorem dX12_init_55 : decode cX12_init 55 = .ok (.putfield 30, 3) := dec_2 oX12_init (of181 _) 0 30 rfl rfl
theorem dX12_init_58 : decode cX12_init 58 = .ok (.aload_n 0, 1) := dec_0 oX12_init (of42 _) rfl
theorem dX12_init_59 : decode cX12_init 59 = .ok (.bipush 13, 2) := dec_s1 oX12_init (of16 _) 13 rfl (sg8p rfl) rfl
theorem dX12_init_61 : decode cX12_init 61 = .ok (.newarray .long, 2) := by decide +kernel
theorem dX12_init_63 : decode cX12_init 63 = .ok (.putfield 34, 3) := dec_2 oX12_init (of181 _) 0 34 rfl rfl
theorem dX12_init_66 : decode cX12_init 66 = .ok (.aload_n 0, 1) := dec_0 oX12_init (of42 _) rfl
theorem dX12_init_67 : decode cX12_init 67 = .ok (.iconst (-1), 1) := dec_0 oX12_init (of2 _) rfl
theorem dX12_init_68 : decode cX12_init 68 = .ok (.putfield 37, 3) := dec_2 oX12_init (of181 _) 0 37 rfl rfl
theorem dX12_init_71 : decode cX12_init 71 = .ok (.aload_n 0, 1) := dec_0 oX12_init (of42 _) rfl
theorem dX12_init_72 : decode cX12_init 72 = .ok (.iconst 5, 1) := dec_0 oX12_init (of8 _) rfl
theorem dX12_init_73 : decode cX12_init 73 = .ok (.newarray .long, 2) := by decide +kernel
theorem dX12_init_75 : decode cX12_init 75 = .ok (.putfield 40, 3) := dec_2 oX12_init (of181 _) 0 40 rfl rfl
theorem dX12_init_78 : decode cX12_init 78 = .ok (.aload_n 0, 1) := dec_0 oX12_init (of42 _) rfl
theorem dX12_init_79 : decode cX12_init 79 = .ok (.iconst 2, 1) := dec_0 oX12_init (of5 _) rfl
theorem dX12_init_8 : decode cX12_init 8 = .ok (.newarray .byte, 2) := by decide +kernel
theorem dX12_init_80 : decode cX12_init 80 = .ok (.newarray .int, 2) := by decide +kernel
theorem dX12_init_82 : decode cX12_init 82 = .ok (.putfield 43, 3) := dec_2 oX12_init (of181 _) 0 43 rfl rfl
theorem dX12_init_85 : decode cX12_init 85 = .ok (.aload_n 0, 1) := dec_0 oX12_init (of42 _) rfl
theorem dX12_init_86 : decode cX12_init 86 = .ok (.sipush 320, 3) := dec_s2 oX12_init (of17 _) 1 64 rfl (sg16p rfl) rfl
theorem dX12_init_89 : decode cX12_init 89 = .ok (.newarray .int, 2) := by decide +kernel
theorem dX12_init_91 : decode cX12_init 91 = .ok (.putfield 46, 3) := dec_2 oX12_init (of181 _) 0 46 rfl rfl
theorem dX12_init_94 : decode cX12_init 94 = .ok (.aload_n 0, 1) := dec_0 oX12_init (of42 _) rfl
theorem dX12_init_95 : decode cX12_init 95 = .ok (.iconst 2, 1) := dec_0 oX12_init (of5 _) rfl
theorem dX12_init_96 : decode cX12_init 96 = .ok (.newarray .int, 2) := by decide +kernel
theorem dX12_init_98 : decode cX12_init 98 = .ok (.putfield 49, 3) := dec_2 oX12_init (of181 _) 0 49 rfl rfl
theorem dX12_isOf_0 : decode cX12_isOf 0 = .ok (.aload_n 0, 1) := dec_0 oX12_isOf (of42 _) rfl
theorem dX12_isOf_1 : decode cX12_isOf 1 = .ok (.iload_n 1, 1) := dec_0 oX12_isOf (of27 _) rfl
theorem dX12_isOf_2 : decode cX12_isOf 2 = .ok (.invokevirtual 251, 3) := dec_2 oX12_isOf (of182 _) 0 251 rfl rfl
theorem dX12_isOf_25 : decode cX12_isOf 25 = .ok (.iconst 0, 1) := dec_0 oX12_isOf (of3 _) rfl
theorem dX12_isOf_26 : decode cX12_isOf 26 = .ok (.ireturn, 1) := dec_0 oX12_isOf (of172 _) rfl
theorem dX12_isOf_5 : decode cX12_isOf 5 = .ok (.ifCond .eq 20, 3) := dec_s2 oX12_isOf (of153 _) 0 20 rfl (sg16p rfl) rfl
theorem dX12_isPlace_0 : decode cX12_isPlace 0 = .ok (.iload_n 1, 1) := dec_0 oX12_isPlace (of27 _) rfl
theorem dX12_isPlace_1 : decode cX12_isPlace 1 = .ok (.iconst 0, 1) := dec_0 oX12_isPlace (of3 _) rfl
theorem dX12_isPlace_10 : decode cX12_isPlace 10 = .ok (.invokestatic 244, 3) := dec_2 oX12_isPlace (of184 _) 0 244 rfl rfl
theorem dX12_isPlace_13 : decode cX12_isPlace 13 = .ok (.ireturn, 1) := dec_0 oX12_isPlace (of172 _) rfl
theorem dX12_isPlace_2 : decode cX12_isPlace 2 = .ok (.aload_n 0, 1) := dec_0 oX12_isPlace (of42 _) rfl
theorem dX12_isPlace_3 : decode cX12_isPlace 3 = .ok (.getfield 70, 3) := dec_2 oX12_isPlace (of180 _) 0 70 rfl rfl
theorem dX12_isPlace_6 : decode cX12_isPlace 6 = .ok (.iconst 0, 1) := dec_0 oX12_isPlace (of3 _) rfl
theorem dX12_isPlace_7 : decode cX12_isPlace 7 = .ok (.iaload, 1) := dec_0 oX12_isPlace (of46 _) rfl
theorem dX12_isPlace_8 : decode cX12_isPlace 8 = .ok (.iconst 1, 1) := dec_0 oX12_isPlace (of4 _) rfl
theorem dX12_isPlace_9 : decode cX12_isPlace 9 = .ok (.isub, 1) := dec_0 oX12_isPlace (of100 _) rfl
theorem dX12_isQuery_0 : decode cX12_isQuery 0 = .ok (.iload_n 1, 1) := dec_0 oX12_isQuery (of27 _) rfl
theorem dX12_isQuery_1 : decode cX12_isQuery 1 = .ok (.iconst 0, 1) := dec_0 oX12_isQuery (of3 _) rfl
theorem dX12_isQuery_10 : decode cX12_isQuery 10 = .ok (.iaload, 1) := dec_0 oX12_isQuery (of46 _) rfl
theorem dX12_isQuery_11 : decode cX12_isQuery 11 = .ok (.iconst 1, 1) := dec_0 oX12_isQuery (of4 _) rfl
theorem dX12_isQuery_12 : decode cX12_isQuery 12 = .ok (.isub, 1) := dec_0 oX12_isQuery (of100 _) rfl
theorem dX12_isQuery_13 : decode cX12_isQuery 13 = .ok (.invokestatic 244, 3) := dec_2 oX12_isQuery (of184 _) 0 244 rfl rfl
theorem dX12_isQuery_16 : decode cX12_isQuery 16 = .ok (.ireturn, 1) := dec_0 oX12_isQuery (of172 _) rfl
theorem dX12_isQuery_2 : decode cX12_isQuery 2 = .ok (.aload_n 0, 1) := dec_0 oX12_isQuery (of42 _) rfl
theorem dX12_isQuery_3 : decode cX12_isQuery 3 = .ok (.getfield 49, 3) := dec_2 oX12_isQuery (of180 _) 0 49 rfl rfl
theorem dX12_isQuery_6 : decode cX12_isQuery 6 = .ok (.aload_n 0, 1) := dec_0 oX12_isQuery (of42 _) rfl
theorem dX12_isQuery_7 : decode cX12_isQuery 7 = .ok (.getfield 197, 3) := dec_2 oX12_isQuery (of180 _) 0 197 rfl rfl
theorem dX12_isThere_0 : decode cX12_isThere 0 = .ok (.aload_n 0, 1) := dec_0 oX12_isThere (of42 _) rfl
theorem dX12_isThere_1 : decode cX12_isThere 1 = .ok (.iload_n 1, 1) := dec_0 oX12_isThere (of27 _) rfl
theorem dX12_isThere_2 : decode cX12_isThere 2 = .ok (.invokevirtual 248, 3) := dec_2 oX12_isThere (of182 _) 0 248 rfl rfl
theorem dX12_isThere_25 : decode cX12_isThere 25 = .ok (.iconst 0, 1) := dec_0 oX12_isThere (of3 _) rfl
theorem dX12_isThere_26 : decode cX12_isThere 26 = .ok (.ireturn, 1) := dec_0 oX12_isThere (of172 _) rfl
theorem dX12_isThere_5 : decode cX12_isThere 5 = .ok (.ifCond .eq 20, 3) := dec_s2 oX12_isThere (of153 _) 0 20 rfl (sg16p rfl) rfl
theorem dX12_isWindow_0 : decode cX12_isWindow 0 = .ok (.iload_n 1, 1) := dec_0 oX12_isWindow (of27 _) rfl
theorem dX12_isWindow_1 : decode cX12_isWindow 1 = .ok (.ifCond .lt 20, 3) := dec_s2 oX12_isWindow (of155 _) 0 20 rfl (sg16p rfl) rfl
theorem dX12_isWindow_10 : decode cX12_isWindow 10 = .ok (.aload_n 0, 1) := dec_0 oX12_isWindow (of42 _) rfl
theorem dX12_isWindow_11 : decode cX12_isWindow 11 = .ok (.getfield 70, 3) := dec_2 oX12_isWindow (of180 _) 0 70 rfl rfl
theorem dX12_isWindow_14 : decode cX12_isWindow 14 = .ok (.iconst 0, 1) := dec_0 oX12_isWindow (of3 _) rfl
theorem dX12_isWindow_15 : decode cX12_isWindow 15 = .ok (.iaload, 1) := dec_0 oX12_isWindow (of46 _) rfl
theorem dX12_isWindow_16 : decode cX12_isWindow 16 = .ok (.iload_n 2, 1) := dec_0 oX12_isWindow (of28 _) rfl
theorem dX12_isWindow_17 : decode cX12_isWindow 17 = .ok (.isub, 1) := dec_0 oX12_isWindow (of100 _) rfl
theorem dX12_isWindow_18 : decode cX12_isWindow 18 = .ok (.if_icmp .le 5, 3) := dec_s2 oX12_isWindow (of164 _) 0 5 rfl (sg16p rfl) rfl
theorem dX12_isWindow_21 : decode cX12_isWindow 21 = .ok (.iconst 0, 1) := dec_0 oX12_isWindow (of3 _) rfl
theorem dX12_isWindow_22 : decode cX12_isWindow 22 = .ok (.ireturn, 1) := dec_0 oX12_isWindow (of172 _) rfl
theorem dX12_isWindow_4 : decode cX12_isWindow 4 = .ok (.iload_n 2, 1) := dec_0 oX12_isWindow (of28 _) rfl
theorem dX12_isWindow_5 : decode cX12_isWindow 5 = .ok (.iconst 1, 1) := dec_0 oX12_isWindow (of4 _) rfl
theorem dX12_isWindow_6 : decode cX12_isWindow 6 = .ok (.if_icmp .lt 15, 3) := dec_s2 oX12_isWindow (of161 _) 0 15 rfl (sg16p rfl) rfl
theorem dX12_isWindow_9 : decode cX12_isWindow 9 = .ok (.iload_n 1, 1) := dec_0 oX12_isWindow (of27 _) rfl
theorem dX12_is_0 : decode cX12_is 0 = .ok (.aload_n 0, 1) := dec_0 oX12_is (of42 _) rfl
theorem dX12_is_1 : decode cX12_is 1 = .ok (.getfield 161, 3) := dec_2 oX12_is (of180 _) 0 161 rfl rfl
theorem dX12_is_11 : decode cX12_is 11 = .ok (.aload_n 0, 1) := dec_0 oX12_is (of42 _) rfl
theorem dX12_is_12 : decode cX12_is 12 = .ok (.getfield 164, 3) := dec_2 oX12_is (of180 _) 0 164 rfl rfl
theorem dX12_is_15 : decode cX12_is 15 = .ok (.iaload, 1) := dec_0 oX12_is (of46 _) rfl
theorem dX12_is_16 : decode cX12_is 16 = .ok (.iload_n 1, 1) := dec_0 oX12_is (of27 _) rfl
theorem dX12_is_17 : decode cX12_is 17 = .ok (.if_icmp .ne 7, 3) := dec_s2 oX12_is (of160 _) 0 7 rfl (sg16p rfl) rfl
theorem dX12_is_20 : decode cX12_is 20 = .ok (.iconst 1, 1) := dec_0 oX12_is (of4 _) rfl
theorem dX12_is_21 : decode cX12_is 21 = .ok (.goto 4, 3) := dec_s2 oX12_is (of167 _) 0 4 rfl (sg16p rfl) rfl
theorem dX12_is_25 : decode cX12_is 25 = .ok (.ireturn, 1) := dec_0 oX12_is (of172 _) rfl
theorem dX12_is_4 : decode cX12_is 4 = .ok (.ifCond .ne 20, 3) := dec_s2 oX12_is (of154 _) 0 20 rfl (sg16p rfl) rfl
theorem dX12_is_7 : decode cX12_is 7 = .ok (.aload_n 0, 1) := dec_0 oX12_is (of42 _) rfl
theorem dX12_is_8 : decode cX12_is 8 = .ok (.getfield 20, 3) := dec_2 oX12_is (of180 _) 0 20 rfl rfl
theorem dX12_keepsRow_0 : decode cX12_keepsRow 0 = .ok (.iconst 0, 1) := dec_0 oX12_keepsRow (of3 _) rfl
theorem dX12_keepsRow_1 : decode cX12_keepsRow 1 = .ok (.istore_n 1, 1) := dec_0 oX12_keepsRow (of60 _) rfl
theorem dX12_keepsRow_10 : decode cX12_keepsRow 10 = .ok (.getfield 70, 3) := dec_2 oX12_keepsRow (of180 _) 0 70 rfl rfl
theorem dX12_keepsRow_13 : decode cX12_keepsRow 13 = .ok (.iload_n 1, 1) := dec_0 oX12_keepsRow (of27 _) rfl
theorem dX12_keepsRow_14 : decode cX12_keepsRow 14 = .ok (.aload_n 0, 1) := dec_0 oX12_keepsRow (of42 _) rfl
theorem dX12_keepsRow_15 : decode cX12_keepsRow 15 = .ok (.getfield 73, 3) := dec_2 oX12_keepsRow (of180 _) 0 73 rfl rfl
theorem dX12_keepsRow_18 : decode cX12_keepsRow 18 = .ok (.iload_n 1, 1) := dec_0 oX12_keepsRow (of27 _) rfl
theorem dX12_keepsRow_19 : decode cX12_keepsRow 19 = .ok (.iaload, 1) := dec_0 oX12_keepsRow (of46 _) rfl
theorem dX12_keepsRow_2 : decode cX12_keepsRow 2 = .ok (.iload_n 1, 1) := dec_0 oX12_keepsRow (of27 _) rfl
theorem dX12_keepsRow_20 : decode cX12_keepsRow 20 = .ok (.iastore, 1) := dec_0 oX12_keepsRow (of79 _) rfl
theorem dX12_keepsRow_21 : decode cX12_keepsRow 21 = .ok (.iinc 1 1, 3) := dec_ii oX12_keepsRow (of132 _) 1 1 rfl (sg8p rfl) rfl
theorem dX12_keepsRow_24 : decode cX12_keepsRow 24 = .ok (.goto (-22), 3) := dec_s2 oX12_keepsRow (of167 _) 255 234 rfl (sg16n (k := 22) rfl) rfl
theorem dX12_keepsRow_27 : decode cX12_keepsRow 27 = .ok (.return_, 1) := dec_0 oX12_keepsRow (of177 _) rfl
theorem dX12_keepsRow_3 : decode cX12_keepsRow 3 = .ok (.sipush 165, 3) := dec_s2 oX12_keepsRow (of17 _) 0 165 rfl (sg16p rfl) rfl
theorem dX12_keepsRow_6 : decode cX12_keepsRow 6 = .ok (.if_icmp .ge 21, 3) := dec_s2 oX12_keepsRow (of162 _) 0 21 rfl (sg16p rfl) rfl
theorem dX12_keepsRow_9 : decode cX12_keepsRow 9 = .ok (.aload_n 0, 1) := dec_0 oX12_keepsRow (of42 _) rfl
theorem dX12_kth_0 : decode cX12_kth 0 = .ok (.aload_n 0, 1) := dec_0 oX12_kth (of42 _) rfl
theorem dX12_kth_1 : decode cX12_kth 1 = .ok (.iload_n 1, 1) := dec_0 oX12_kth (of27 _) rfl
theorem dX12_kth_2 : decode cX12_kth 2 = .ok (.invokevirtual 251, 3) := dec_2 oX12_kth (of182 _) 0 251 rfl rfl
theorem dX12_kth_21 : decode cX12_kth 21 = .ok (.iconst (-1), 1) := dec_0 oX12_kth (of2 _) rfl
theorem dX12_kth_22 : decode cX12_kth 22 = .ok (.ireturn, 1) := dec_0 oX12_kth (of172 _) rfl
theorem dX12_kth_5 : decode cX12_kth 5 = .ok (.ifCond .eq 16, 3) := dec_s2 oX12_kth (of153 _) 0 16 rfl (sg16p rfl) rfl
theorem dX12_lays_0 : decode cX12_lays 0 = .ok (.bipush 24, 2) := dec_s1 oX12_lays (of16 _) 24 rfl (sg8p rfl) rfl
theorem dX12_lays_11 : decode cX12_lays 11 = .ok (.aload_n 0, 1) := dec_0 oX12_lays (of42 _) rfl
theorem dX12_lays_12 : decode cX12_lays 12 = .ok (.getfield 124, 3) := dec_2 oX12_lays (of180 _) 0 124 rfl rfl
theorem dX12_lays_15 : decode cX12_lays 15 = .ok (.iload_n 1, 1) := dec_0 oX12_lays (of27 _) rfl
theorem dX12_lays_16 : decode cX12_lays 16 = .ok (.iload_n 2, 1) := dec_0 oX12_lays (of28 _) rfl
theorem dX12_lays_17 : decode cX12_lays 17 = .ok (.ishr, 1) := dec_0 oX12_lays (of122 _) rfl
theorem dX12_lays_18 : decode cX12_lays 18 = .ok (.i2b, 1) := dec_0 oX12_lays (of145 _) rfl
theorem dX12_lays_19 : decode cX12_lays 19 = .ok (.bastore, 1) := dec_0 oX12_lays (of84 _) rfl
theorem dX12_lays_2 : decode cX12_lays 2 = .ok (.istore_n 2, 1) := dec_0 oX12_lays (of61 _) rfl
theorem dX12_lays_20 : decode cX12_lays 20 = .ok (.aload_n 0, 1) := dec_0 oX12_lays (of42 _) rfl
theorem dX12_lays_21 : decode cX12_lays 21 = .ok (.dup, 1) := dec_0 oX12_lays (of89 _) rfl
theorem dX12_lays_22 : decode cX12_lays 22 = .ok (.getfield 124, 3) := dec_2 oX12_lays (of180 _) 0 124 rfl rfl
theorem dX12_lays_25 : decode cX12_lays 25 = .ok (.iconst 1, 1) := dec_0 oX12_lays (of4 _) rfl
theorem dX12_lays_26 : decode cX12_lays 26 = .ok (.iadd, 1) := dec_0 oX12_lays (of96 _) rfl
theorem dX12_lays_27 : decode cX12_lays 27 = .ok (.putfield 124, 3) := dec_2 oX12_lays (of181 _) 0 124 rfl rfl
theorem dX12_lays_3 : decode cX12_lays 3 = .ok (.iload_n 2, 1) := dec_0 oX12_lays (of28 _) rfl
theorem dX12_lays_30 : decode cX12_lays 30 = .ok (.iinc 2 (-8), 3) := dec_ii oX12_lays (of132 _) 2 248 rfl (sg8n (k := 8) rfl) rfl
theorem dX12_lays_33 : decode cX12_lays 33 = .ok (.goto (-30), 3) := dec_s2 oX12_lays (of167 _) 255 226 rfl (sg16n (k := 30) rfl) rfl
theorem dX12_lays_36 : decode cX12_lays 36 = .ok (.return_, 1) := dec_0 oX12_lays (of177 _) rfl
theorem dX12_lays_4 : decode cX12_lays 4 = .ok (.ifCond .lt 32, 3) := dec_s2 oX12_lays (of155 _) 0 32 rfl (sg16p rfl) rfl
theorem dX12_lays_7 : decode cX12_lays 7 = .ok (.aload_n 0, 1) := dec_0 oX12_lays (of42 _) rfl
theorem dX12_lays_8 : decode cX12_lays 8 = .ok (.getfield 13, 3) := dec_2 oX12_lays (of180 _) 0 13 rfl rfl
theorem dX12_lean_0 : decode cX12_lean 0 = .ok (.aload_n 0, 1) := dec_0 oX12_lean (of42 _) rfl
theorem dX12_lean_1 : decode cX12_lean 1 = .ok (.iload_n 1, 1) := dec_0 oX12_lean (of27 _) rfl
theorem dX12_lean_18 : decode cX12_lean 18 = .ok (.iconst (-1), 1) := dec_0 oX12_lean (of2 _) rfl
theorem dX12_lean_19 : decode cX12_lean 19 = .ok (.ireturn, 1) := dec_0 oX12_lean (of172 _) rfl
theorem dX12_lean_2 : decode cX12_lean 2 = .ok (.iload_n 2, 1) := dec_0 oX12_lean (of28 _) rfl
theorem dX12_lean_3 : decode cX12_lean 3 = .ok (.invokevirtual 342, 3) := dec_2 oX12_lean (of182 _) 1 86 rfl rfl
theorem dX12_lean_6 : decode cX12_lean 6 = .ok (.ifCond .eq 12, 3) := dec_s2 oX12_lean (of153 _) 0 12 rfl (sg16p rfl) rfl
theorem dX12_letters_0 : decode cX12_letters 0 = .ok (.lconst 0, 1) := dec_0 oX12_letters (of9 _) rfl
theorem dX12_letters_1 : decode cX12_letters 1 = .ok (.iload_n 0, 1) := dec_0 oX12_letters (of26 _) rfl
theorem dX12_letters_10 : decode cX12_letters 10 = .ok (.invokestatic 135, 3) := dec_2 oX12_letters (of184 _) 0 135 rfl rfl
theorem dX12_letters_13 : decode cX12_letters 13 = .ok (.iload_n 3, 1) := dec_0 oX12_letters (of29 _) rfl
theorem dX12_letters_14 : decode cX12_letters 14 = .ok (.invokestatic 135, 3) := dec_2 oX12_letters (of184 _) 0 135 rfl rfl
theorem dX12_letters_17 : decode cX12_letters 17 = .ok (.iload 4, 2) := dec_1 oX12_letters (of21 _) 4 rfl rfl
theorem dX12_letters_19 : decode cX12_letters 19 = .ok (.invokestatic 135, 3) := dec_2 oX12_letters (of184 _) 0 135 rfl rfl
theorem dX12_letters_2 : decode cX12_letters 2 = .ok (.invokestatic 135, 3) := dec_2 oX12_letters (of184 _) 0 135 rfl rfl
theorem dX12_letters_22 : decode cX12_letters 22 = .ok (.iload 5, 2) := dec_1 oX12_letters (of21 _) 5 rfl rfl
theorem dX12_letters_24 : decode cX12_letters 24 = .ok (.invokestatic 135, 3) := dec_2 oX12_letters (of184 _) 0 135 rfl rfl
theorem dX12_letters_27 : decode cX12_letters 27 = .ok (.iload 6, 2) := dec_1 oX12_letters (of21 _) 6 rfl rfl
theorem dX12_letters_29 : decode cX12_letters 29 = .ok (.invokestatic 135, 3) := dec_2 oX12_letters (of184 _) 0 135 rfl rfl
theorem dX12_letters_32 : decode cX12_letters 32 = .ok (.lreturn, 1) := dec_0 oX12_letters (of173 _) rfl
theorem dX12_letters_5 : decode cX12_letters 5 = .ok (.iload_n 1, 1) := dec_0 oX12_letters (of27 _) rfl
theorem dX12_letters_6 : decode cX12_letters 6 = .ok (.invokestatic 135, 3) := dec_2 oX12_letters (of184 _) 0 135 rfl rfl
theorem dX12_letters_9 : decode cX12_letters 9 = .ok (.iload_n 2, 1) := dec_0 oX12_letters (of28 _) rfl
theorem dX12_level_0 : decode cX12_level 0 = .ok (.iload_n 2, 1) := dec_0 oX12_level (of28 _) rfl
theorem dX12_level_1 : decode cX12_level 1 = .ok (.iconst 2, 1) := dec_0 oX12_level (of5 _) rfl
theorem dX12_level_10 : decode cX12_level 10 = .ok (.aload_n 0, 1) := dec_0 oX12_level (of42 _) rfl
theorem dX12_level_11 : decode cX12_level 11 = .ok (.iload_n 1, 1) := dec_0 oX12_level (of27 _) rfl
theorem dX12_level_12 : decode cX12_level 12 = .ok (.iload_n 2, 1) := dec_0 oX12_level (of28 _) rfl
theorem dX12_level_13 : decode cX12_level 13 = .ok (.invokevirtual 257, 3) := dec_2 oX12_level (of182 _) 1 1 rfl rfl
theorem dX12_level_16 : decode cX12_level 16 = .ok (.ifCond .eq 14, 3) := dec_s2 oX12_level (of153 _) 0 14 rfl (sg16p rfl) rfl
theorem dX12_level_2 : decode cX12_level 2 = .ok (.bipush 16, 2) := dec_s1 oX12_level (of16 _) 16 rfl (sg8p rfl) rfl
theorem dX12_level_30 : decode cX12_level 30 = .ok (.ldc_w 332, 3) := dec_2 oX12_level (of19 _) 1 76 rfl rfl
theorem dX12_level_33 : decode cX12_level 33 = .ok (.ireturn, 1) := dec_0 oX12_level (of172 _) rfl
theorem dX12_level_4 : decode cX12_level 4 = .ok (.invokestatic 244, 3) := dec_2 oX12_level (of184 _) 0 244 rfl rfl
theorem dX12_level_7 : decode cX12_level 7 = .ok (.ifCond .eq 23, 3) := dec_s2 oX12_level (of153 _) 0 23 rfl (sg16p rfl) rfl
theorem dX12_look_0 : decode cX12_look 0 = .ok (.aload_n 0, 1) := dec_0 oX12_look (of42 _) rfl
theorem dX12_look_1 : decode cX12_look 1 = .ok (.iload_n 1, 1) := dec_0 oX12_look (of27 _) rfl
theorem dX12_look_2 : decode cX12_look 2 = .ok (.iload_n 2, 1) := dec_0 oX12_look (of28 _) rfl
theorem dX12_look_23 : decode cX12_look 23 = .ok (.iconst (-1), 1) := dec_0 oX12_look (of2 _) rfl
theorem dX12_look_24 : decode cX12_look 24 = .ok (.ireturn, 1) := dec_0 oX12_look (of172 _) rfl
theorem dX12_look_3 : decode cX12_look 3 = .ok (.invokevirtual 342, 3) := dec_2 oX12_look (of182 _) 1 86 rfl rfl
theorem dX12_look_6 : decode cX12_look 6 = .ok (.ifCond .eq 17, 3) := dec_s2 oX12_look (of153 _) 0 17 rfl (sg16p rfl) rfl
theorem dX12_match_0 : decode cX12_match 0 = .ok (.aload_n 0, 1) := dec_0 oX12_match (of42 _) rfl
theorem dX12_match_1 : decode cX12_match 1 = .ok (.iload_n 1, 1) := dec_0 oX12_match (of27 _) rfl
theorem dX12_match_2 : decode cX12_match 2 = .ok (.invokevirtual 251, 3) := dec_2 oX12_match (of182 _) 0 251 rfl rfl
theorem dX12_match_21 : decode cX12_match 21 = .ok (.iconst (-1), 1) := dec_0 oX12_match (of2 _) rfl
theorem dX12_match_22 : decode cX12_match 22 = .ok (.ireturn, 1) := dec_0 oX12_match (of172 _) rfl
theorem dX12_match_5 : decode cX12_match 5 = .ok (.ifCond .eq 16, 3) := dec_s2 oX12_match (of153 _) 0 16 rfl (sg16p rfl) rfl
theorem dX12_mend_0 : decode cX12_mend 0 = .ok (.aload_n 0, 1) := dec_0 oX12_mend (of42 _) rfl
theorem dX12_mend_1 : decode cX12_mend 1 = .ok (.iload_n 1, 1) := dec_0 oX12_mend (of27 _) rfl
theorem dX12_mend_2 : decode cX12_mend 2 = .ok (.invokevirtual 248, 3) := dec_2 oX12_mend (of182 _) 0 248 rfl rfl
theorem dX12_mend_36 : decode cX12_mend 36 = .ok (.sipush (-1000), 3) := dec_s2 oX12_mend (of17 _) 252 24 rfl (sg16n (k := 1000) rfl) rfl
theorem dX12_mend_39 : decode cX12_mend 39 = .ok (.ireturn, 1) := dec_0 oX12_mend (of172 _) rfl
theorem dX12_mend_5 : decode cX12_mend 5 = .ok (.ifCond .eq 31, 3) := dec_s2 oX12_mend (of153 _) 0 31 rfl (sg16p rfl) rfl
theorem dX12_near_0 : decode cX12_near 0 = .ok (.iload_n 2, 1) := dec_0 oX12_near (of28 _) rfl
theorem dX12_near_1 : decode cX12_near 1 = .ok (.iconst 2, 1) := dec_0 oX12_near (of5 _) rfl
theorem dX12_near_10 : decode cX12_near 10 = .ok (.aload_n 0, 1) := dec_0 oX12_near (of42 _) rfl
theorem dX12_near_11 : decode cX12_near 11 = .ok (.iload_n 1, 1) := dec_0 oX12_near (of27 _) rfl
theorem dX12_near_12 : decode cX12_near 12 = .ok (.iload_n 2, 1) := dec_0 oX12_near (of28 _) rfl
theorem dX12_near_13 : decode cX12_near 13 = .ok (.invokevirtual 257, 3) := dec_2 oX12_near (of182 _) 1 1 rfl rfl
theorem dX12_near_16 : decode cX12_near 16 = .ok (.ifCond .eq 12, 3) := dec_s2 oX12_near (of153 _) 0 12 rfl (sg16p rfl) rfl
theorem dX12_near_2 : decode cX12_near 2 = .ok (.bipush 16, 2) := dec_s1 oX12_near (of16 _) 16 rfl (sg8p rfl) rfl
theorem dX12_near_28 : decode cX12_near 28 = .ok (.iconst (-1), 1) := dec_0 oX12_near (of2 _) rfl
theorem dX12_near_29 : decode cX12_near 29 = .ok (.ireturn, 1) := dec_0 oX12_near (of172 _) rfl
theorem dX12_near_4 : decode cX12_near 4 = .ok (.invokestatic 244, 3) := dec_2 oX12_near (of184 _) 0 244 rfl rfl
theorem dX12_near_7 : decode cX12_near 7 = .ok (.ifCond .eq 21, 3) := dec_s2 oX12_near (of153 _) 0 21 rfl (sg16p rfl) rfl
theorem dX12_needs_0 : decode cX12_needs 0 = .ok (.aload_n 0, 1) := dec_0 oX12_needs (of42 _) rfl
theorem dX12_needs_1 : decode cX12_needs 1 = .ok (.iload_n 1, 1) := dec_0 oX12_needs (of27 _) rfl
theorem dX12_needs_10 : decode cX12_needs 10 = .ok (.ireturn, 1) := dec_0 oX12_needs (of172 _) rfl
theorem dX12_needs_2 : decode cX12_needs 2 = .ok (.iload_n 2, 1) := dec_0 oX12_needs (of28 _) rfl
theorem dX12_needs_3 : decode cX12_needs 3 = .ok (.invokevirtual 342, 3) := dec_2 oX12_needs (of182 _) 1 86 rfl rfl
theorem dX12_needs_6 : decode cX12_needs 6 = .ok (.ifCond .ne 5, 3) := dec_s2 oX12_needs (of154 _) 0 5 rfl (sg16p rfl) rfl
theorem dX12_needs_9 : decode cX12_needs 9 = .ok (.iconst (-1), 1) := dec_0 oX12_needs (of2 _) rfl
theorem dX12_odd_0 : decode cX12_odd 0 = .ok (.iload_n 1, 1) := dec_0 oX12_odd (of27 _) rfl
theorem dX12_odd_1 : decode cX12_odd 1 = .ok (.iconst 2, 1) := dec_0 oX12_odd (of5 _) rfl
theorem dX12_odd_10 : decode cX12_odd 10 = .ok (.iload_n 2, 1) := dec_0 oX12_odd (of28 _) rfl
theorem dX12_odd_101 : decode cX12_odd 101 = .ok (.iload 4, 2) := dec_1 oX12_odd (of21 _) 4 rfl rfl
theorem dX12_odd_103 : decode cX12_odd 103 = .ok (.ireturn, 1) := dec_0 oX12_odd (of172 _) rfl
theorem dX12_odd_11 : decode cX12_odd 11 = .ok (.iconst 0, 1) := dec_0 oX12_odd (of3 _) rfl
theorem dX12_odd_12 : decode cX12_odd 12 = .ok (.iconst 1, 1) := dec_0 oX12_odd (of4 _) rfl
theorem dX12_odd_13 : decode cX12_odd 13 = .ok (.invokestatic 244, 3) := dec_2 oX12_odd (of184 _) 0 244 rfl rfl
theorem dX12_odd_16 : decode cX12_odd 16 = .ok (.ifCond .ne 5, 3) := dec_s2 oX12_odd (of154 _) 0 5 rfl (sg16p rfl) rfl
theorem dX12_odd_19 : decode cX12_odd 19 = .ok (.iconst (-1), 1) := dec_0 oX12_odd (of2 _) rfl
theorem dX12_odd_2 : decode cX12_odd 2 = .ok (.bipush 16, 2) := dec_s1 oX12_odd (of16 _) 16 rfl (sg8p rfl) rfl
theorem dX12_odd_20 : decode cX12_odd 20 = .ok (.ireturn, 1) := dec_0 oX12_odd (of172 _) rfl
theorem dX12_odd_21 : decode cX12_odd 21 = .ok (.aload_n 0, 1) := dec_0 oX12_odd (of42 _) rfl
theorem dX12_odd_22 : decode cX12_odd 22 = .ok (.invokevirtual 323, 3) := dec_2 oX12_odd (of182 _) 1 67 rfl rfl
theorem dX12_odd_25 : decode cX12_odd 25 = .ok (.bipush (-2), 2) := dec_s1 oX12_odd (of16 _) 254 rfl (sg8n (k := 2) rfl) rfl
theorem dX12_odd_27 : decode cX12_odd 27 = .ok (.istore_n 3, 1) := dec_0 oX12_odd (of62 _) rfl
theorem dX12_odd_28 : decode cX12_odd 28 = .ok (.bipush (-2), 2) := dec_s1 oX12_odd (of16 _) 254 rfl (sg8n (k := 2) rfl) rfl
theorem dX12_odd_30 : decode cX12_odd 30 = .ok (.istore 4, 2) := dec_1 oX12_odd (of54 _) 4 rfl rfl
theorem dX12_odd_32 : decode cX12_odd 32 = .ok (.iconst 0, 1) := dec_0 oX12_odd (of3 _) rfl
theorem dX12_odd_33 : decode cX12_odd 33 = .ok (.istore 5, 2) := dec_1 oX12_odd (of54 _) 5 rfl rfl
theorem dX12_odd_35 : decode cX12_odd 35 = .ok (.iload 5, 2) := dec_1 oX12_odd (of21 _) 5 rfl rfl
theorem dX12_odd_37 : decode cX12_odd 37 = .ok (.aload_n 0, 1) := dec_0 oX12_odd (of42 _) rfl
theorem dX12_odd_38 : decode cX12_odd 38 = .ok (.getfield 70, 3) := dec_2 oX12_odd (of180 _) 0 70 rfl rfl
theorem dX12_odd_4 : decode cX12_odd 4 = .ok (.invokestatic 244, 3) := dec_2 oX12_odd (of184 _) 0 244 rfl rfl
theorem dX12_odd_41 : decode cX12_odd 41 = .ok (.iconst 0, 1) := dec_0 oX12_odd (of3 _) rfl
theorem dX12_odd_42 : decode cX12_odd 42 = .ok (.iaload, 1) := dec_0 oX12_odd (of46 _) rfl
theorem dX12_odd_43 : decode cX12_odd 43 = .ok (.if_icmp .ge 50, 3) := dec_s2 oX12_odd (of162 _) 0 50 rfl (sg16p rfl) rfl
theorem dX12_odd_7 : decode cX12_odd 7 = .ok (.ifCond .eq 12, 3) := dec_s2 oX12_odd (of153 _) 0 12 rfl (sg16p rfl) rfl
theorem dX12_odd_93 : decode cX12_odd 93 = .ok (.iload_n 2, 1) := dec_0 oX12_odd (of28 _) rfl
theorem dX12_odd_94 : decode cX12_odd 94 = .ok (.ifCond .ne 7, 3) := dec_s2 oX12_odd (of154 _) 0 7 rfl (sg16p rfl) rfl
theorem dX12_odd_97 : decode cX12_odd 97 = .ok (.iload_n 3, 1) := dec_0 oX12_odd (of29 _) rfl
theorem dX12_odd_98 : decode cX12_odd 98 = .ok (.goto 5, 3) := dec_s2 oX12_odd (of167 _) 0 5 rfl (sg16p rfl) rfl
theorem dX12_pair_0 : decode cX12_pair 0 = .ok (.iload_n 1, 1) := dec_0 oX12_pair (of27 _) rfl
theorem dX12_pair_1 : decode cX12_pair 1 = .ok (.iconst 2, 1) := dec_0 oX12_pair (of5 _) rfl
theorem dX12_pair_10 : decode cX12_pair 10 = .ok (.iload_n 2, 1) := dec_0 oX12_pair (of28 _) rfl
theorem dX12_pair_11 : decode cX12_pair 11 = .ok (.iconst 0, 1) := dec_0 oX12_pair (of3 _) rfl
theorem dX12_pair_12 : decode cX12_pair 12 = .ok (.iconst 2, 1) := dec_0 oX12_pair (of5 _) rfl
theorem dX12_pair_13 : decode cX12_pair 13 = .ok (.invokestatic 244, 3) := dec_2 oX12_pair (of184 _) 0 244 rfl rfl
theorem dX12_pair_148 : decode cX12_pair 148 = .ok (.iload_n 2, 1) := dec_0 oX12_pair (of28 _) rfl
theorem dX12_pair_149 : decode cX12_pair 149 = .ok (.ifCond .ne 7, 3) := dec_s2 oX12_pair (of154 _) 0 7 rfl (sg16p rfl) rfl
theorem dX12_pair_152 : decode cX12_pair 152 = .ok (.iload_n 3, 1) := dec_0 oX12_pair (of29 _) rfl
theorem dX12_pair_153 : decode cX12_pair 153 = .ok (.goto 15, 3) := dec_s2 oX12_pair (of167 _) 0 15 rfl (sg16p rfl) rfl
theorem dX12_pair_156 : decode cX12_pair 156 = .ok (.iload_n 2, 1) := dec_0 oX12_pair (of28 _) rfl
theorem dX12_pair_157 : decode cX12_pair 157 = .ok (.iconst 1, 1) := dec_0 oX12_pair (of4 _) rfl
theorem dX12_pair_158 : decode cX12_pair 158 = .ok (.if_icmp .ne 8, 3) := dec_s2 oX12_pair (of160 _) 0 8 rfl (sg16p rfl) rfl
theorem dX12_pair_16 : decode cX12_pair 16 = .ok (.ifCond .ne 5, 3) := dec_s2 oX12_pair (of154 _) 0 5 rfl (sg16p rfl) rfl
theorem dX12_pair_161 : decode cX12_pair 161 = .ok (.iload 4, 2) := dec_1 oX12_pair (of21 _) 4 rfl rfl
theorem dX12_pair_163 : decode cX12_pair 163 = .ok (.goto 5, 3) := dec_s2 oX12_pair (of167 _) 0 5 rfl (sg16p rfl) rfl
theorem dX12_pair_166 : decode cX12_pair 166 = .ok (.iload 5, 2) := dec_1 oX12_pair (of21 _) 5 rfl rfl
theorem dX12_pair_168 : decode cX12_pair 168 = .ok (.ireturn, 1) := dec_0 oX12_pair (of172 _) rfl
theorem dX12_pair_19 : decode cX12_pair 19 = .ok (.iconst (-1), 1) := dec_0 oX12_pair (of2 _) rfl
theorem dX12_pair_2 : decode cX12_pair 2 = .ok (.bipush 16, 2) := dec_s1 oX12_pair (of16 _) 16 rfl (sg8p rfl) rfl
theorem dX12_pair_20 : decode cX12_pair 20 = .ok (.ireturn, 1) := dec_0 oX12_pair (of172 _) rfl
theorem dX12_pair_21 : decode cX12_pair 21 = .ok (.aload_n 0, 1) := dec_0 oX12_pair (of42 _) rfl
theorem dX12_pair_22 : decode cX12_pair 22 = .ok (.invokevirtual 323, 3) := dec_2 oX12_pair (of182 _) 1 67 rfl rfl
theorem dX12_pair_25 : decode cX12_pair 25 = .ok (.bipush (-2), 2) := dec_s1 oX12_pair (of16 _) 254 rfl (sg8n (k := 2) rfl) rfl
theorem dX12_pair_27 : decode cX12_pair 27 = .ok (.istore_n 3, 1) := dec_0 oX12_pair (of62 _) rfl
theorem dX12_pair_28 : decode cX12_pair 28 = .ok (.bipush (-2), 2) := dec_s1 oX12_pair (of16 _) 254 rfl (sg8n (k := 2) rfl) rfl
theorem dX12_pair_30 : decode cX12_pair 30 = .ok (.istore 4, 2) := dec_1 oX12_pair (of54 _) 4 rfl rfl
theorem dX12_pair_32 : decode cX12_pair 32 = .ok (.bipush (-2), 2) := dec_s1 oX12_pair (of16 _) 254 rfl (sg8n (k := 2) rfl) rfl
theorem dX12_pair_34 : decode cX12_pair 34 = .ok (.istore 5, 2) := dec_1 oX12_pair (of54 _) 5 rfl rfl
theorem dX12_pair_36 : decode cX12_pair 36 = .ok (.iconst 0, 1) := dec_0 oX12_pair (of3 _) rfl
theorem dX12_pair_37 : decode cX12_pair 37 = .ok (.istore 6, 2) := dec_1 oX12_pair (of54 _) 6 rfl rfl
theorem dX12_pair_39 : decode cX12_pair 39 = .ok (.iload 6, 2) := dec_1 oX12_pair (of21 _) 6 rfl rfl
theorem dX12_pair_4 : decode cX12_pair 4 = .ok (.invokestatic 244, 3) := dec_2 oX12_pair (of184 _) 0 244 rfl rfl
theorem dX12_pair_41 : decode cX12_pair 41 = .ok (.aload_n 0, 1) := dec_0 oX12_pair (of42 _) rfl
theorem dX12_pair_42 : decode cX12_pair 42 = .ok (.getfield 70, 3) := dec_2 oX12_pair (of180 _) 0 70 rfl rfl
theorem dX12_pair_45 : decode cX12_pair 45 = .ok (.iconst 0, 1) := dec_0 oX12_pair (of3 _) rfl
theorem dX12_pair_46 : decode cX12_pair 46 = .ok (.iaload, 1) := dec_0 oX12_pair (of46 _) rfl
theorem dX12_pair_47 : decode cX12_pair 47 = .ok (.if_icmp .ge 101, 3) := dec_s2 oX12_pair (of162 _) 0 101 rfl (sg16p rfl) rfl
theorem dX12_pair_7 : decode cX12_pair 7 = .ok (.ifCond .eq 12, 3) := dec_s2 oX12_pair (of153 _) 0 12 rfl (sg16p rfl) rfl
theorem dX12_place_0 : decode cX12_place 0 = .ok (.aload_n 0, 1) := dec_0 oX12_place (of42 _) rfl
theorem dX12_place_1 : decode cX12_place 1 = .ok (.getfield 37, 3) := dec_2 oX12_place (of180 _) 0 37 rfl rfl
theorem dX12_place_4 : decode cX12_place 4 = .ok (.ireturn, 1) := dec_0 oX12_place (of172 _) rfl
theorem dX12_plain_0 : decode cX12_plain 0 = .ok (.aload_n 0, 1) := dec_0 oX12_plain (of42 _) rfl
theorem dX12_plain_1 : decode cX12_plain 1 = .ok (.getfield 43, 3) := dec_2 oX12_plain (of180 _) 0 43 rfl rfl
theorem dX12_plain_11 : decode cX12_plain 11 = .ok (.iload_n 1, 1) := dec_0 oX12_plain (of27 _) rfl
theorem dX12_plain_12 : decode cX12_plain 12 = .ok (.iconst 0, 1) := dec_0 oX12_plain (of3 _) rfl
theorem dX12_plain_13 : decode cX12_plain 13 = .ok (.iastore, 1) := dec_0 oX12_plain (of79 _) rfl
theorem dX12_plain_14 : decode cX12_plain 14 = .ok (.aload_n 0, 1) := dec_0 oX12_plain (of42 _) rfl
theorem dX12_plain_15 : decode cX12_plain 15 = .ok (.getfield 58, 3) := dec_2 oX12_plain (of180 _) 0 58 rfl rfl
theorem dX12_plain_18 : decode cX12_plain 18 = .ok (.iload_n 1, 1) := dec_0 oX12_plain (of27 _) rfl
theorem dX12_plain_19 : decode cX12_plain 19 = .ok (.iconst 2, 1) := dec_0 oX12_plain (of5 _) rfl
theorem dX12_plain_20 : decode cX12_plain 20 = .ok (.iastore, 1) := dec_0 oX12_plain (of79 _) rfl
theorem dX12_plain_21 : decode cX12_plain 21 = .ok (.aload_n 0, 1) := dec_0 oX12_plain (of42 _) rfl
theorem dX12_plain_22 : decode cX12_plain 22 = .ok (.getfield 61, 3) := dec_2 oX12_plain (of180 _) 0 61 rfl rfl
theorem dX12_plain_25 : decode cX12_plain 25 = .ok (.iload_n 1, 1) := dec_0 oX12_plain (of27 _) rfl
theorem dX12_plain_26 : decode cX12_plain 26 = .ok (.iconst 0, 1) := dec_0 oX12_plain (of3 _) rfl
theorem dX12_plain_27 : decode cX12_plain 27 = .ok (.iastore, 1) := dec_0 oX12_plain (of79 _) rfl
theorem dX12_plain_28 : decode cX12_plain 28 = .ok (.aload_n 0, 1) := dec_0 oX12_plain (of42 _) rfl
theorem dX12_plain_29 : decode cX12_plain 29 = .ok (.getfield 64, 3) := dec_2 oX12_plain (of180 _) 0 64 rfl rfl
theorem dX12_plain_32 : decode cX12_plain 32 = .ok (.iload_n 1, 1) := dec_0 oX12_plain (of27 _) rfl
theorem dX12_plain_33 : decode cX12_plain 33 = .ok (.iconst 0, 1) := dec_0 oX12_plain (of3 _) rfl
theorem dX12_plain_34 : decode cX12_plain 34 = .ok (.iastore, 1) := dec_0 oX12_plain (of79 _) rfl
theorem dX12_plain_35 : decode cX12_plain 35 = .ok (.aload_n 0, 1) := dec_0 oX12_plain (of42 _) rfl
theorem dX12_plain_36 : decode cX12_plain 36 = .ok (.getfield 67, 3) := dec_2 oX12_plain (of180 _) 0 67 rfl rfl
theorem dX12_plain_39 : decode cX12_plain 39 = .ok (.iload_n 1, 1) := dec_0 oX12_plain (of27 _) rfl
theorem dX12_plain_4 : decode cX12_plain 4 = .ok (.iload_n 1, 1) := dec_0 oX12_plain (of27 _) rfl
theorem dX12_plain_40 : decode cX12_plain 40 = .ok (.bipush 8, 2) := dec_s1 oX12_plain (of16 _) 8 rfl (sg8p rfl) rfl
theorem dX12_plain_42 : decode cX12_plain 42 = .ok (.iastore, 1) := dec_0 oX12_plain (of79 _) rfl
theorem dX12_plain_43 : decode cX12_plain 43 = .ok (.return_, 1) := dec_0 oX12_plain (of177 _) rfl
theorem dX12_plain_5 : decode cX12_plain 5 = .ok (.iconst 0, 1) := dec_0 oX12_plain (of3 _) rfl
theorem dX12_plain_6 : decode cX12_plain 6 = .ok (.iastore, 1) := dec_0 oX12_plain (of79 _) rfl
theorem dX12_plain_7 : decode cX12_plain 7 = .ok (.aload_n 0, 1) := dec_0 oX12_plain (of42 _) rfl
theorem dX12_plain_8 : decode cX12_plain 8 = .ok (.getfield 49, 3) := dec_2 oX12_plain (of180 _) 0 49 rfl rfl
theorem dX12_push_0 : decode cX12_push 0 = .ok (.iload_n 1, 1) := dec_0 oX12_push (of27 _) rfl
theorem dX12_push_1 : decode cX12_push 1 = .ok (.sipush (-999), 3) := dec_s2 oX12_push (of17 _) 252 25 rfl (sg16n (k := 999) rfl) rfl
theorem dX12_push_10 : decode cX12_push 10 = .ok (.ifCond .eq 11, 3) := dec_s2 oX12_push (of153 _) 0 11 rfl (sg16p rfl) rfl
theorem dX12_push_13 : decode cX12_push 13 = .ok (.aload_n 0, 1) := dec_0 oX12_push (of42 _) rfl
theorem dX12_push_14 : decode cX12_push 14 = .ok (.iload_n 1, 1) := dec_0 oX12_push (of27 _) rfl
theorem dX12_push_15 : decode cX12_push 15 = .ok (.invokevirtual 329, 3) := dec_2 oX12_push (of182 _) 1 73 rfl rfl
theorem dX12_push_18 : decode cX12_push 18 = .ok (.goto 4, 3) := dec_s2 oX12_push (of167 _) 0 4 rfl (sg16p rfl) rfl
theorem dX12_push_21 : decode cX12_push 21 = .ok (.iconst (-1), 1) := dec_0 oX12_push (of2 _) rfl
theorem dX12_push_22 : decode cX12_push 22 = .ok (.ireturn, 1) := dec_0 oX12_push (of172 _) rfl
theorem dX12_push_4 : decode cX12_push 4 = .ok (.sipush 999, 3) := dec_s2 oX12_push (of17 _) 3 231 rfl (sg16p rfl) rfl
theorem dX12_push_7 : decode cX12_push 7 = .ok (.invokestatic 244, 3) := dec_2 oX12_push (of184 _) 0 244 rfl rfl
theorem dX12_query_0 : decode cX12_query 0 = .ok (.aload_n 0, 1) := dec_0 oX12_query (of42 _) rfl
theorem dX12_query_1 : decode cX12_query 1 = .ok (.iload_n 1, 1) := dec_0 oX12_query (of27 _) rfl
theorem dX12_query_2 : decode cX12_query 2 = .ok (.invokevirtual 251, 3) := dec_2 oX12_query (of182 _) 0 251 rfl rfl
theorem dX12_query_44 : decode cX12_query 44 = .ok (.sipush (-1000), 3) := dec_s2 oX12_query (of17 _) 252 24 rfl (sg16n (k := 1000) rfl) rfl
theorem dX12_query_47 : decode cX12_query 47 = .ok (.ireturn, 1) := dec_0 oX12_query (of172 _) rfl
theorem dX12_query_5 : decode cX12_query 5 = .ok (.ifCond .eq 39, 3) := dec_s2 oX12_query (of153 _) 0 39 rfl (sg16p rfl) rfl
theorem dX12_rank_0 : decode cX12_rank 0 = .ok (.aload_n 0, 1) := dec_0 oX12_rank (of42 _) rfl
theorem dX12_rank_1 : decode cX12_rank 1 = .ok (.iload_n 1, 1) := dec_0 oX12_rank (of27 _) rfl
theorem dX12_rank_10 : decode cX12_rank 10 = .ok (.ireturn, 1) := dec_0 oX12_rank (of172 _) rfl
theorem dX12_rank_2 : decode cX12_rank 2 = .ok (.iload_n 2, 1) := dec_0 oX12_rank (of28 _) rfl
theorem dX12_rank_3 : decode cX12_rank 3 = .ok (.invokevirtual 342, 3) := dec_2 oX12_rank (of182 _) 1 86 rfl rfl
theorem dX12_rank_6 : decode cX12_rank 6 = .ok (.ifCond .ne 5, 3) := dec_s2 oX12_rank (of154 _) 0 5 rfl (sg16p rfl) rfl
theorem dX12_rank_9 : decode cX12_rank 9 = .ok (.iconst (-1), 1) := dec_0 oX12_rank (of2 _) rfl
theorem dX12_read_0 : decode cX12_read 0 = .ok (.aload_n 0, 1) := dec_0 oX12_read (of42 _) rfl
theorem dX12_read_1 : decode cX12_read 1 = .ok (.aload_n 0, 1) := dec_0 oX12_read (of42 _) rfl
theorem dX12_read_10 : decode cX12_read 10 = .ok (.iload_n 1, 1) := dec_0 oX12_read (of27 _) rfl
theorem dX12_read_101 : decode cX12_read 101 = .ok (.ifCond .ne 10, 3) := dec_s2 oX12_read (of154 _) 0 10 rfl (sg16p rfl) rfl
theorem dX12_read_11 : decode cX12_read 11 = .ok (.aload_n 0, 1) := dec_0 oX12_read (of42 _) rfl
theorem dX12_read_111 : decode cX12_read 111 = .ok (.aload_n 0, 1) := dec_0 oX12_read (of42 _) rfl
theorem dX12_read_112 : decode cX12_read 112 = .ok (.aload_n 0, 1) := dec_0 oX12_read (of42 _) rfl
theorem dX12_read_113 : decode cX12_read 113 = .ok (.getfield 161, 3) := dec_2 oX12_read (of180 _) 0 161 rfl rfl
theorem dX12_read_116 : decode cX12_read 116 = .ok (.ifCond .le 10, 3) := dec_s2 oX12_read (of158 _) 0 10 rfl (sg16p rfl) rfl
theorem dX12_read_12 : decode cX12_read 12 = .ok (.getfield 130, 3) := dec_2 oX12_read (of180 _) 0 130 rfl rfl
theorem dX12_read_126 : decode cX12_read 126 = .ok (.aload_n 0, 1) := dec_0 oX12_read (of42 _) rfl
theorem dX12_read_127 : decode cX12_read 127 = .ok (.getfield 176, 3) := dec_2 oX12_read (of180 _) 0 176 rfl rfl
theorem dX12_read_130 : decode cX12_read 130 = .ok (.ifCond .le 10, 3) := dec_s2 oX12_read (of158 _) 0 10 rfl (sg16p rfl) rfl
theorem dX12_read_140 : decode cX12_read 140 = .ok (.iconst (-1), 1) := dec_0 oX12_read (of2 _) rfl
theorem dX12_read_141 : decode cX12_read 141 = .ok (.putfield 37, 3) := dec_2 oX12_read (of181 _) 0 37 rfl rfl
theorem dX12_read_144 : decode cX12_read 144 = .ok (.aload_n 0, 1) := dec_0 oX12_read (of42 _) rfl
theorem dX12_read_145 : decode cX12_read 145 = .ok (.aload_n 0, 1) := dec_0 oX12_read (of42 _) rfl
theorem dX12_read_146 : decode cX12_read 146 = .ok (.getfield 161, 3) := dec_2 oX12_read (of180 _) 0 161 rfl rfl
theorem dX12_read_149 : decode cX12_read 149 = .ok (.ifCond .le 10, 3) := dec_s2 oX12_read (of158 _) 0 10 rfl (sg16p rfl) rfl
theorem dX12_read_15 : decode cX12_read 15 = .ok (.if_icmp .ge 21, 3) := dec_s2 oX12_read (of162 _) 0 21 rfl (sg16p rfl) rfl
theorem dX12_read_159 : decode cX12_read 159 = .ok (.aload_n 0, 1) := dec_0 oX12_read (of42 _) rfl
theorem dX12_read_160 : decode cX12_read 160 = .ok (.getfield 176, 3) := dec_2 oX12_read (of180 _) 0 176 rfl rfl
theorem dX12_read_163 : decode cX12_read 163 = .ok (.ifCond .le 10, 3) := dec_s2 oX12_read (of158 _) 0 10 rfl (sg16p rfl) rfl
theorem dX12_read_173 : decode cX12_read 173 = .ok (.iconst (-1), 1) := dec_0 oX12_read (of2 _) rfl
theorem dX12_read_174 : decode cX12_read 174 = .ok (.putfield 111, 3) := dec_2 oX12_read (of181 _) 0 111 rfl rfl
theorem dX12_read_177 : decode cX12_read 177 = .ok (.aload_n 0, 1) := dec_0 oX12_read (of42 _) rfl
theorem dX12_read_178 : decode cX12_read 178 = .ok (.getfield 161, 3) := dec_2 oX12_read (of180 _) 0 161 rfl rfl
theorem dX12_read_181 : decode cX12_read 181 = .ok (.ifCond .le 8, 3) := dec_s2 oX12_read (of158 _) 0 8 rfl (sg16p rfl) rfl
theorem dX12_read_189 : decode cX12_read 189 = .ok (.aload_n 0, 1) := dec_0 oX12_read (of42 _) rfl
theorem dX12_read_190 : decode cX12_read 190 = .ok (.getfield 176, 3) := dec_2 oX12_read (of180 _) 0 176 rfl rfl
theorem dX12_read_193 : decode cX12_read 193 = .ok (.ifCond .le 8, 3) := dec_s2 oX12_read (of158 _) 0 8 rfl (sg16p rfl) rfl
theorem dX12_read_2 : decode cX12_read 2 = .ok (.getfield 124, 3) := dec_2 oX12_read (of180 _) 0 124 rfl rfl
theorem dX12_read_201 : decode cX12_read 201 = .ok (.aload_n 0, 1) := dec_0 oX12_read (of42 _) rfl
theorem dX12_read_202 : decode cX12_read 202 = .ok (.aload_n 0, 1) := dec_0 oX12_read (of42 _) rfl
theorem dX12_read_203 : decode cX12_read 203 = .ok (.getfield 200, 3) := dec_2 oX12_read (of180 _) 0 200 rfl rfl
theorem dX12_read_206 : decode cX12_read 206 = .ok (.putfield 197, 3) := dec_2 oX12_read (of181 _) 0 197 rfl rfl
theorem dX12_read_209 : decode cX12_read 209 = .ok (.aload_n 0, 1) := dec_0 oX12_read (of42 _) rfl
theorem dX12_read_210 : decode cX12_read 210 = .ok (.invokevirtual 118, 3) := dec_2 oX12_read (of182 _) 0 118 rfl rfl
theorem dX12_read_213 : decode cX12_read 213 = .ok (.aload_n 0, 1) := dec_0 oX12_read (of42 _) rfl
theorem dX12_read_214 : decode cX12_read 214 = .ok (.invokevirtual 121, 3) := dec_2 oX12_read (of182 _) 0 121 rfl rfl
theorem dX12_read_217 : decode cX12_read 217 = .ok (.aload_n 0, 1) := dec_0 oX12_read (of42 _) rfl
theorem dX12_read_218 : decode cX12_read 218 = .ok (.iconst 0, 1) := dec_0 oX12_read (of3 _) rfl
theorem dX12_read_219 : decode cX12_read 219 = .ok (.putfield 209, 3) := dec_2 oX12_read (of181 _) 0 209 rfl rfl
theorem dX12_read_222 : decode cX12_read 222 = .ok (.iconst 0, 1) := dec_0 oX12_read (of3 _) rfl
theorem dX12_read_223 : decode cX12_read 223 = .ok (.istore_n 1, 1) := dec_0 oX12_read (of60 _) rfl
theorem dX12_read_224 : decode cX12_read 224 = .ok (.iload_n 1, 1) := dec_0 oX12_read (of27 _) rfl
theorem dX12_read_225 : decode cX12_read 225 = .ok (.iconst 3, 1) := dec_0 oX12_read (of6 _) rfl
theorem dX12_read_226 : decode cX12_read 226 = .ok (.if_icmp .ge 16, 3) := dec_s2 oX12_read (of162 _) 0 16 rfl (sg16p rfl) rfl
theorem dX12_read_229 : decode cX12_read 229 = .ok (.aload_n 0, 1) := dec_0 oX12_read (of42 _) rfl
theorem dX12_read_230 : decode cX12_read 230 = .ok (.getfield 100, 3) := dec_2 oX12_read (of180 _) 0 100 rfl rfl
theorem dX12_read_233 : decode cX12_read 233 = .ok (.iload_n 1, 1) := dec_0 oX12_read (of27 _) rfl
theorem dX12_read_234 : decode cX12_read 234 = .ok (.iconst 0, 1) := dec_0 oX12_read (of3 _) rfl
theorem dX12_read_235 : decode cX12_read 235 = .ok (.bastore, 1) := dec_0 oX12_read (of84 _) rfl
theorem dX12_read_236 : decode cX12_read 236 = .ok (.iinc 1 1, 3) := dec_ii oX12_read (of132 _) 1 1 rfl (sg8p rfl) rfl
theorem dX12_read_239 : decode cX12_read 239 = .ok (.goto (-15), 3) := dec_s2 oX12_read (of167 _) 255 241 rfl (sg16n (k := 15) rfl) rfl
theorem dX12_read_242 : decode cX12_read 242 = .ok (.iconst 0, 1) := dec_0 oX12_read (of3 _) rfl
theorem dX12_read_243 : decode cX12_read 243 = .ok (.ireturn, 1) := dec_0 oX12_read (of172 _) rfl
theorem dX12_read_36 : decode cX12_read 36 = .ok (.aload_n 0, 1) := dec_0 oX12_read (of42 _) rfl
theorem dX12_read_37 : decode cX12_read 37 = .ok (.iconst 0, 1) := dec_0 oX12_read (of3 _) rfl
theorem dX12_read_38 : decode cX12_read 38 = .ok (.putfield 124, 3) := dec_2 oX12_read (of181 _) 0 124 rfl rfl
theorem dX12_read_41 : decode cX12_read 41 = .ok (.aload_n 0, 1) := dec_0 oX12_read (of42 _) rfl
theorem dX12_read_42 : decode cX12_read 42 = .ok (.invokevirtual 194, 3) := dec_2 oX12_read (of182 _) 0 194 rfl rfl
theorem dX12_read_45 : decode cX12_read 45 = .ok (.aload_n 0, 1) := dec_0 oX12_read (of42 _) rfl
theorem dX12_read_46 : decode cX12_read 46 = .ok (.iconst 0, 1) := dec_0 oX12_read (of3 _) rfl
theorem dX12_read_47 : decode cX12_read 47 = .ok (.putfield 164, 3) := dec_2 oX12_read (of181 _) 0 164 rfl rfl
theorem dX12_read_5 : decode cX12_read 5 = .ok (.putfield 130, 3) := dec_2 oX12_read (of181 _) 0 130 rfl rfl
theorem dX12_read_50 : decode cX12_read 50 = .ok (.aload_n 0, 1) := dec_0 oX12_read (of42 _) rfl
theorem dX12_read_51 : decode cX12_read 51 = .ok (.iconst 0, 1) := dec_0 oX12_read (of3 _) rfl
theorem dX12_read_52 : decode cX12_read 52 = .ok (.putfield 161, 3) := dec_2 oX12_read (of181 _) 0 161 rfl rfl
theorem dX12_read_55 : decode cX12_read 55 = .ok (.aload_n 0, 1) := dec_0 oX12_read (of42 _) rfl
theorem dX12_read_56 : decode cX12_read 56 = .ok (.iconst 0, 1) := dec_0 oX12_read (of3 _) rfl
theorem dX12_read_57 : decode cX12_read 57 = .ok (.putfield 176, 3) := dec_2 oX12_read (of181 _) 0 176 rfl rfl
theorem dX12_read_60 : decode cX12_read 60 = .ok (.aload_n 0, 1) := dec_0 oX12_read (of42 _) rfl
theorem dX12_read_61 : decode cX12_read 61 = .ok (.bipush (-2), 2) := dec_s1 oX12_read (of16 _) 254 rfl (sg8n (k := 2) rfl) rfl
theorem dX12_read_63 : decode cX12_read 63 = .ok (.putfield 170, 3) := dec_2 oX12_read (of181 _) 0 170 rfl rfl
theorem dX12_read_66 : decode cX12_read 66 = .ok (.aload_n 0, 1) := dec_0 oX12_read (of42 _) rfl
theorem dX12_read_67 : decode cX12_read 67 = .ok (.iconst 1, 1) := dec_0 oX12_read (of4 _) rfl
theorem dX12_read_68 : decode cX12_read 68 = .ok (.aload_n 0, 1) := dec_0 oX12_read (of42 _) rfl
theorem dX12_read_69 : decode cX12_read 69 = .ok (.getfield 197, 3) := dec_2 oX12_read (of180 _) 0 197 rfl rfl
theorem dX12_read_72 : decode cX12_read 72 = .ok (.isub, 1) := dec_0 oX12_read (of100 _) rfl
theorem dX12_read_73 : decode cX12_read 73 = .ok (.putfield 200, 3) := dec_2 oX12_read (of181 _) 0 200 rfl rfl
theorem dX12_read_76 : decode cX12_read 76 = .ok (.aload_n 0, 1) := dec_0 oX12_read (of42 _) rfl
theorem dX12_read_77 : decode cX12_read 77 = .ok (.iconst 0, 1) := dec_0 oX12_read (of3 _) rfl
theorem dX12_read_78 : decode cX12_read 78 = .ok (.putfield 203, 3) := dec_2 oX12_read (of181 _) 0 203 rfl rfl
theorem dX12_read_8 : decode cX12_read 8 = .ok (.iconst 0, 1) := dec_0 oX12_read (of3 _) rfl
theorem dX12_read_81 : decode cX12_read 81 = .ok (.aload_n 0, 1) := dec_0 oX12_read (of42 _) rfl
theorem dX12_read_82 : decode cX12_read 82 = .ok (.aload_n 0, 1) := dec_0 oX12_read (of42 _) rfl
theorem dX12_read_83 : decode cX12_read 83 = .ok (.getfield 200, 3) := dec_2 oX12_read (of180 _) 0 200 rfl rfl
theorem dX12_read_86 : decode cX12_read 86 = .ok (.invokevirtual 107, 3) := dec_2 oX12_read (of182 _) 0 107 rfl rfl
theorem dX12_read_89 : decode cX12_read 89 = .ok (.aload_n 0, 1) := dec_0 oX12_read (of42 _) rfl
theorem dX12_read_9 : decode cX12_read 9 = .ok (.istore_n 1, 1) := dec_0 oX12_read (of60 _) rfl
theorem dX12_read_90 : decode cX12_read 90 = .ok (.getfield 161, 3) := dec_2 oX12_read (of180 _) 0 161 rfl rfl
theorem dX12_read_93 : decode cX12_read 93 = .ok (.ifCond .ne 18, 3) := dec_s2 oX12_read (of154 _) 0 18 rfl (sg16p rfl) rfl
theorem dX12_read_96 : decode cX12_read 96 = .ok (.aload_n 0, 1) := dec_0 oX12_read (of42 _) rfl
theorem dX12_read_97 : decode cX12_read 97 = .ok (.iconst 0, 1) := dec_0 oX12_read (of3 _) rfl
theorem dX12_read_98 : decode cX12_read 98 = .ok (.invokevirtual 188, 3) := dec_2 oX12_read (of182 _) 0 188 rfl rfl
theorem dX12_records_0 : decode cX12_records 0 = .ok (.aload_n 0, 1) := dec_0 oX12_records (of42 _) rfl
theorem dX12_records_1 : decode cX12_records 1 = .ok (.getfield 209, 3) := dec_2 oX12_records (of180 _) 0 209 rfl rfl
theorem dX12_records_100 : decode cX12_records 100 = .ok (.return_, 1) := dec_0 oX12_records (of177 _) rfl
theorem dX12_records_4 : decode cX12_records 4 = .ok (.bipush 40, 2) := dec_s1 oX12_records (of16 _) 40 rfl (sg8p rfl) rfl
theorem dX12_records_50 : decode cX12_records 50 = .ok (.iconst 0, 1) := dec_0 oX12_records (of3 _) rfl
theorem dX12_records_51 : decode cX12_records 51 = .ok (.istore_n 1, 1) := dec_0 oX12_records (of60 _) rfl
theorem dX12_records_52 : decode cX12_records 52 = .ok (.iload_n 1, 1) := dec_0 oX12_records (of27 _) rfl
theorem dX12_records_53 : decode cX12_records 53 = .ok (.sipush 165, 3) := dec_s2 oX12_records (of17 _) 0 165 rfl (sg16p rfl) rfl
theorem dX12_records_56 : decode cX12_records 56 = .ok (.if_icmp .ge 30, 3) := dec_s2 oX12_records (of162 _) 0 30 rfl (sg16p rfl) rfl
theorem dX12_records_59 : decode cX12_records 59 = .ok (.aload_n 0, 1) := dec_0 oX12_records (of42 _) rfl
theorem dX12_records_6 : decode cX12_records 6 = .ok (.if_icmp .ne 44, 3) := dec_s2 oX12_records (of160 _) 0 44 rfl (sg16p rfl) rfl
theorem dX12_records_60 : decode cX12_records 60 = .ok (.getfield 85, 3) := dec_2 oX12_records (of180 _) 0 85 rfl rfl
theorem dX12_records_63 : decode cX12_records 63 = .ok (.sipush 165, 3) := dec_s2 oX12_records (of17 _) 0 165 rfl (sg16p rfl) rfl
theorem dX12_records_66 : decode cX12_records 66 = .ok (.aload_n 0, 1) := dec_0 oX12_records (of42 _) rfl
theorem dX12_records_67 : decode cX12_records 67 = .ok (.getfield 209, 3) := dec_2 oX12_records (of180 _) 0 209 rfl rfl
theorem dX12_records_70 : decode cX12_records 70 = .ok (.imul, 1) := dec_0 oX12_records (of104 _) rfl
end
section
theorem dX12_records_71 : decode cX12_records 71 = .ok (.iload_n 1, 1) := dec_0 oX12_records (of27 _) rfl
theorem dX12_records_72 : decode cX12_records 72 = .ok (.iadd, 1) := dec_0 oX12_records (of96 _) rfl
theorem dX12_records_73 : decode cX12_records 73 = .ok (.aload_n 0, 1) := dec_0 oX12_records (of42 _) rfl
theorem dX12_records_74 : decode cX12_records 74 = .ok (.getfield 70, 3) := dec_2 oX12_records (of180 _) 0 70 rfl rfl
theorem dX12_records_77 : decode cX12_records 77 = .ok (.iload_n 1, 1) := dec_0 oX12_records (of27 _) rfl
theorem dX12_records_78 : decode cX12_records 78 = .ok (.iaload, 1) := dec_0 oX12_records (of46 _) rfl
theorem dX12_records_79 : decode cX12_records 79 = .ok (.iastore, 1) := dec_0 oX12_records (of79 _) rfl
theorem dX12_records_80 : decode cX12_records 80 = .ok (.iinc 1 1, 3) := dec_ii oX12_records (of132 _) 1 1 rfl (sg8p rfl) rfl
theorem dX12_records_83 : decode cX12_records 83 = .ok (.goto (-31), 3) := dec_s2 oX12_records (of167 _) 255 225 rfl (sg16n (k := 31) rfl) rfl
theorem dX12_records_86 : decode cX12_records 86 = .ok (.aload_n 0, 1) := dec_0 oX12_records (of42 _) rfl
theorem dX12_records_87 : decode cX12_records 87 = .ok (.dup, 1) := dec_0 oX12_records (of89 _) rfl
theorem dX12_records_88 : decode cX12_records 88 = .ok (.getfield 209, 3) := dec_2 oX12_records (of180 _) 0 209 rfl rfl
theorem dX12_records_91 : decode cX12_records 91 = .ok (.iconst 1, 1) := dec_0 oX12_records (of4 _) rfl
theorem dX12_records_92 : decode cX12_records 92 = .ok (.iadd, 1) := dec_0 oX12_records (of96 _) rfl
theorem dX12_records_93 : decode cX12_records 93 = .ok (.putfield 209, 3) := dec_2 oX12_records (of181 _) 0 209 rfl rfl
theorem dX12_records_96 : decode cX12_records 96 = .ok (.aload_n 0, 1) := dec_0 oX12_records (of42 _) rfl
theorem dX12_records_97 : decode cX12_records 97 = .ok (.invokevirtual 121, 3) := dec_2 oX12_records (of182 _) 0 121 rfl rfl
theorem dX12_restore_0 : decode cX12_restore 0 = .ok (.iload_n 1, 1) := dec_0 oX12_restore (of27 _) rfl
theorem dX12_restore_1 : decode cX12_restore 1 = .ok (.iconst 0, 1) := dec_0 oX12_restore (of3 _) rfl
theorem dX12_restore_10 : decode cX12_restore 10 = .ok (.getfield 100, 3) := dec_2 oX12_restore (of180 _) 0 100 rfl rfl
theorem dX12_restore_13 : decode cX12_restore 13 = .ok (.iload_n 1, 1) := dec_0 oX12_restore (of27 _) rfl
theorem dX12_restore_14 : decode cX12_restore 14 = .ok (.baload, 1) := dec_0 oX12_restore (of51 _) rfl
theorem dX12_restore_15 : decode cX12_restore 15 = .ok (.ifCond .ne 5, 3) := dec_s2 oX12_restore (of154 _) 0 5 rfl (sg16p rfl) rfl
theorem dX12_restore_18 : decode cX12_restore 18 = .ok (.iconst 0, 1) := dec_0 oX12_restore (of3 _) rfl
theorem dX12_restore_19 : decode cX12_restore 19 = .ok (.ireturn, 1) := dec_0 oX12_restore (of172 _) rfl
theorem dX12_restore_2 : decode cX12_restore 2 = .ok (.iconst 2, 1) := dec_0 oX12_restore (of5 _) rfl
theorem dX12_restore_3 : decode cX12_restore 3 = .ok (.invokestatic 244, 3) := dec_2 oX12_restore (of184 _) 0 244 rfl rfl
theorem dX12_restore_6 : decode cX12_restore 6 = .ok (.ifCond .eq 12, 3) := dec_s2 oX12_restore (of153 _) 0 12 rfl (sg16p rfl) rfl
theorem dX12_restore_9 : decode cX12_restore 9 = .ok (.aload_n 0, 1) := dec_0 oX12_restore (of42 _) rfl
theorem dX12_search_0 : decode cX12_search 0 = .ok (.aload_n 0, 1) := dec_0 oX12_search (of42 _) rfl
theorem dX12_search_1 : decode cX12_search 1 = .ok (.iload_n 1, 1) := dec_0 oX12_search (of27 _) rfl
theorem dX12_search_18 : decode cX12_search 18 = .ok (.iconst (-1), 1) := dec_0 oX12_search (of2 _) rfl
theorem dX12_search_19 : decode cX12_search 19 = .ok (.ireturn, 1) := dec_0 oX12_search (of172 _) rfl
theorem dX12_search_2 : decode cX12_search 2 = .ok (.invokevirtual 251, 3) := dec_2 oX12_search (of182 _) 0 251 rfl rfl
theorem dX12_search_5 : decode cX12_search 5 = .ok (.ifCond .eq 13, 3) := dec_s2 oX12_search (of153 _) 0 13 rfl (sg16p rfl) rfl
theorem dX12_set_0 : decode cX12_set 0 = .ok (.iload_n 1, 1) := dec_0 oX12_set (of27 _) rfl
theorem dX12_set_1 : decode cX12_set 1 = .ok (.iconst 0, 1) := dec_0 oX12_set (of3 _) rfl
theorem dX12_set_10 : decode cX12_set 10 = .ok (.getfield 70, 3) := dec_2 oX12_set (of180 _) 0 70 rfl rfl
theorem dX12_set_13 : decode cX12_set 13 = .ok (.sipush 161, 3) := dec_s2 oX12_set (of17 _) 0 161 rfl (sg16p rfl) rfl
theorem dX12_set_16 : decode cX12_set 16 = .ok (.iload_n 1, 1) := dec_0 oX12_set (of27 _) rfl
theorem dX12_set_17 : decode cX12_set 17 = .ok (.iadd, 1) := dec_0 oX12_set (of96 _) rfl
theorem dX12_set_18 : decode cX12_set 18 = .ok (.iaload, 1) := dec_0 oX12_set (of46 _) rfl
theorem dX12_set_19 : decode cX12_set 19 = .ok (.iload_n 2, 1) := dec_0 oX12_set (of28 _) rfl
theorem dX12_set_2 : decode cX12_set 2 = .ok (.iconst 3, 1) := dec_0 oX12_set (of6 _) rfl
theorem dX12_set_20 : decode cX12_set 20 = .ok (.if_icmp .ne 5, 3) := dec_s2 oX12_set (of160 _) 0 5 rfl (sg16p rfl) rfl
theorem dX12_set_23 : decode cX12_set 23 = .ok (.iconst 0, 1) := dec_0 oX12_set (of3 _) rfl
theorem dX12_set_24 : decode cX12_set 24 = .ok (.ireturn, 1) := dec_0 oX12_set (of172 _) rfl
theorem dX12_set_25 : decode cX12_set 25 = .ok (.iload_n 1, 1) := dec_0 oX12_set (of27 _) rfl
theorem dX12_set_26 : decode cX12_set 26 = .ok (.iconst 3, 1) := dec_0 oX12_set (of6 _) rfl
theorem dX12_set_27 : decode cX12_set 27 = .ok (.if_icmp .ne 7, 3) := dec_s2 oX12_set (of160 _) 0 7 rfl (sg16p rfl) rfl
theorem dX12_set_3 : decode cX12_set 3 = .ok (.invokestatic 244, 3) := dec_2 oX12_set (of184 _) 0 244 rfl rfl
theorem dX12_set_30 : decode cX12_set 30 = .ok (.iconst 1, 1) := dec_0 oX12_set (of4 _) rfl
theorem dX12_set_31 : decode cX12_set 31 = .ok (.goto 4, 3) := dec_s2 oX12_set (of167 _) 0 4 rfl (sg16p rfl) rfl
theorem dX12_set_34 : decode cX12_set 34 = .ok (.iconst 0, 1) := dec_0 oX12_set (of3 _) rfl
theorem dX12_set_35 : decode cX12_set 35 = .ok (.istore_n 3, 1) := dec_0 oX12_set (of62 _) rfl
theorem dX12_set_36 : decode cX12_set 36 = .ok (.iload_n 1, 1) := dec_0 oX12_set (of27 _) rfl
theorem dX12_set_37 : decode cX12_set 37 = .ok (.ifCond .ne 8, 3) := dec_s2 oX12_set (of154 _) 0 8 rfl (sg16p rfl) rfl
theorem dX12_set_40 : decode cX12_set 40 = .ok (.bipush 15, 2) := dec_s1 oX12_set (of16 _) 15 rfl (sg8p rfl) rfl
theorem dX12_set_42 : decode cX12_set 42 = .ok (.goto 23, 3) := dec_s2 oX12_set (of167 _) 0 23 rfl (sg16p rfl) rfl
theorem dX12_set_45 : decode cX12_set 45 = .ok (.iload_n 1, 1) := dec_0 oX12_set (of27 _) rfl
theorem dX12_set_46 : decode cX12_set 46 = .ok (.iconst 1, 1) := dec_0 oX12_set (of4 _) rfl
theorem dX12_set_47 : decode cX12_set 47 = .ok (.if_icmp .ne 7, 3) := dec_s2 oX12_set (of160 _) 0 7 rfl (sg16p rfl) rfl
theorem dX12_set_50 : decode cX12_set 50 = .ok (.iconst 3, 1) := dec_0 oX12_set (of6 _) rfl
theorem dX12_set_51 : decode cX12_set 51 = .ok (.goto 14, 3) := dec_s2 oX12_set (of167 _) 0 14 rfl (sg16p rfl) rfl
theorem dX12_set_54 : decode cX12_set 54 = .ok (.iload_n 1, 1) := dec_0 oX12_set (of27 _) rfl
theorem dX12_set_55 : decode cX12_set 55 = .ok (.iconst 2, 1) := dec_0 oX12_set (of5 _) rfl
theorem dX12_set_56 : decode cX12_set 56 = .ok (.if_icmp .ne 7, 3) := dec_s2 oX12_set (of160 _) 0 7 rfl (sg16p rfl) rfl
theorem dX12_set_59 : decode cX12_set 59 = .ok (.iconst 1, 1) := dec_0 oX12_set (of4 _) rfl
theorem dX12_set_6 : decode cX12_set 6 = .ok (.ifCond .eq 17, 3) := dec_s2 oX12_set (of153 _) 0 17 rfl (sg16p rfl) rfl
theorem dX12_set_60 : decode cX12_set 60 = .ok (.goto 5, 3) := dec_s2 oX12_set (of167 _) 0 5 rfl (sg16p rfl) rfl
theorem dX12_set_63 : decode cX12_set 63 = .ok (.bipush 99, 2) := dec_s1 oX12_set (of16 _) 99 rfl (sg8p rfl) rfl
theorem dX12_set_65 : decode cX12_set 65 = .ok (.istore 4, 2) := dec_1 oX12_set (of54 _) 4 rfl rfl
theorem dX12_set_67 : decode cX12_set 67 = .ok (.iload_n 2, 1) := dec_0 oX12_set (of28 _) rfl
theorem dX12_set_68 : decode cX12_set 68 = .ok (.iload_n 3, 1) := dec_0 oX12_set (of29 _) rfl
theorem dX12_set_69 : decode cX12_set 69 = .ok (.iload 4, 2) := dec_1 oX12_set (of21 _) 4 rfl rfl
theorem dX12_set_71 : decode cX12_set 71 = .ok (.invokestatic 244, 3) := dec_2 oX12_set (of184 _) 0 244 rfl rfl
theorem dX12_set_74 : decode cX12_set 74 = .ok (.ifCond .ne 5, 3) := dec_s2 oX12_set (of154 _) 0 5 rfl (sg16p rfl) rfl
theorem dX12_set_77 : decode cX12_set 77 = .ok (.iconst 0, 1) := dec_0 oX12_set (of3 _) rfl
theorem dX12_set_78 : decode cX12_set 78 = .ok (.ireturn, 1) := dec_0 oX12_set (of172 _) rfl
theorem dX12_set_79 : decode cX12_set 79 = .ok (.aload_n 0, 1) := dec_0 oX12_set (of42 _) rfl
theorem dX12_set_80 : decode cX12_set 80 = .ok (.invokevirtual 323, 3) := dec_2 oX12_set (of182 _) 1 67 rfl rfl
theorem dX12_set_83 : decode cX12_set 83 = .ok (.aload_n 0, 1) := dec_0 oX12_set (of42 _) rfl
theorem dX12_set_84 : decode cX12_set 84 = .ok (.getfield 73, 3) := dec_2 oX12_set (of180 _) 0 73 rfl rfl
theorem dX12_set_87 : decode cX12_set 87 = .ok (.sipush 161, 3) := dec_s2 oX12_set (of17 _) 0 161 rfl (sg16p rfl) rfl
theorem dX12_set_9 : decode cX12_set 9 = .ok (.aload_n 0, 1) := dec_0 oX12_set (of42 _) rfl
theorem dX12_set_90 : decode cX12_set 90 = .ok (.iload_n 1, 1) := dec_0 oX12_set (of27 _) rfl
theorem dX12_set_91 : decode cX12_set 91 = .ok (.iadd, 1) := dec_0 oX12_set (of96 _) rfl
theorem dX12_set_92 : decode cX12_set 92 = .ok (.iload_n 2, 1) := dec_0 oX12_set (of28 _) rfl
theorem dX12_set_93 : decode cX12_set 93 = .ok (.iastore, 1) := dec_0 oX12_set (of79 _) rfl
theorem dX12_set_94 : decode cX12_set 94 = .ok (.aload_n 0, 1) := dec_0 oX12_set (of42 _) rfl
theorem dX12_set_95 : decode cX12_set 95 = .ok (.invokevirtual 326, 3) := dec_2 oX12_set (of182 _) 1 70 rfl rfl
theorem dX12_set_98 : decode cX12_set 98 = .ok (.iconst 1, 1) := dec_0 oX12_set (of4 _) rfl
theorem dX12_set_99 : decode cX12_set 99 = .ok (.ireturn, 1) := dec_0 oX12_set (of172 _) rfl
theorem dX12_slack_0 : decode cX12_slack 0 = .ok (.aload_n 0, 1) := dec_0 oX12_slack (of42 _) rfl
theorem dX12_slack_1 : decode cX12_slack 1 = .ok (.iload_n 1, 1) := dec_0 oX12_slack (of27 _) rfl
theorem dX12_slack_2 : decode cX12_slack 2 = .ok (.invokevirtual 251, 3) := dec_2 oX12_slack (of182 _) 0 251 rfl rfl
theorem dX12_slack_5 : decode cX12_slack 5 = .ok (.ifCond .ne 5, 3) := dec_s2 oX12_slack (of154 _) 0 5 rfl (sg16p rfl) rfl
theorem dX12_slack_8 : decode cX12_slack 8 = .ok (.iconst (-1), 1) := dec_0 oX12_slack (of2 _) rfl
theorem dX12_slack_9 : decode cX12_slack 9 = .ok (.ireturn, 1) := dec_0 oX12_slack (of172 _) rfl
theorem dX12_token_0 : decode cX12_token 0 = .ok (.aload_n 0, 1) := dec_0 oX12_token (of42 _) rfl
theorem dX12_token_1 : decode cX12_token 1 = .ok (.getfield 20, 3) := dec_2 oX12_token (of180 _) 0 20 rfl rfl
theorem dX12_token_10 : decode cX12_token 10 = .ok (.aload_n 0, 1) := dec_0 oX12_token (of42 _) rfl
theorem dX12_token_11 : decode cX12_token 11 = .ok (.getfield 24, 3) := dec_2 oX12_token (of180 _) 0 24 rfl rfl
theorem dX12_token_14 : decode cX12_token 14 = .ok (.aload_n 0, 1) := dec_0 oX12_token (of42 _) rfl
theorem dX12_token_15 : decode cX12_token 15 = .ok (.getfield 139, 3) := dec_2 oX12_token (of180 _) 0 139 rfl rfl
theorem dX12_token_18 : decode cX12_token 18 = .ok (.iload_n 2, 1) := dec_0 oX12_token (of28 _) rfl
theorem dX12_token_19 : decode cX12_token 19 = .ok (.iastore, 1) := dec_0 oX12_token (of79 _) rfl
theorem dX12_token_20 : decode cX12_token 20 = .ok (.aload_n 0, 1) := dec_0 oX12_token (of42 _) rfl
theorem dX12_token_21 : decode cX12_token 21 = .ok (.getfield 27, 3) := dec_2 oX12_token (of180 _) 0 27 rfl rfl
theorem dX12_token_24 : decode cX12_token 24 = .ok (.aload_n 0, 1) := dec_0 oX12_token (of42 _) rfl
theorem dX12_token_25 : decode cX12_token 25 = .ok (.getfield 139, 3) := dec_2 oX12_token (of180 _) 0 139 rfl rfl
theorem dX12_token_28 : decode cX12_token 28 = .ok (.iload_n 3, 1) := dec_0 oX12_token (of29 _) rfl
theorem dX12_token_29 : decode cX12_token 29 = .ok (.iastore, 1) := dec_0 oX12_token (of79 _) rfl
theorem dX12_token_30 : decode cX12_token 30 = .ok (.aload_n 0, 1) := dec_0 oX12_token (of42 _) rfl
theorem dX12_token_31 : decode cX12_token 31 = .ok (.getfield 30, 3) := dec_2 oX12_token (of180 _) 0 30 rfl rfl
theorem dX12_token_34 : decode cX12_token 34 = .ok (.aload_n 0, 1) := dec_0 oX12_token (of42 _) rfl
theorem dX12_token_35 : decode cX12_token 35 = .ok (.getfield 139, 3) := dec_2 oX12_token (of180 _) 0 139 rfl rfl
theorem dX12_token_38 : decode cX12_token 38 = .ok (.lload 4, 2) := dec_1 oX12_token (of22 _) 4 rfl rfl
theorem dX12_token_4 : decode cX12_token 4 = .ok (.aload_n 0, 1) := dec_0 oX12_token (of42 _) rfl
theorem dX12_token_40 : decode cX12_token 40 = .ok (.lastore, 1) := dec_0 oX12_token (of80 _) rfl
theorem dX12_token_41 : decode cX12_token 41 = .ok (.aload_n 0, 1) := dec_0 oX12_token (of42 _) rfl
theorem dX12_token_42 : decode cX12_token 42 = .ok (.dup, 1) := dec_0 oX12_token (of89 _) rfl
theorem dX12_token_43 : decode cX12_token 43 = .ok (.getfield 139, 3) := dec_2 oX12_token (of180 _) 0 139 rfl rfl
theorem dX12_token_46 : decode cX12_token 46 = .ok (.iconst 1, 1) := dec_0 oX12_token (of4 _) rfl
theorem dX12_token_47 : decode cX12_token 47 = .ok (.iadd, 1) := dec_0 oX12_token (of96 _) rfl
theorem dX12_token_48 : decode cX12_token 48 = .ok (.putfield 139, 3) := dec_2 oX12_token (of181 _) 0 139 rfl rfl
theorem dX12_token_5 : decode cX12_token 5 = .ok (.getfield 139, 3) := dec_2 oX12_token (of180 _) 0 139 rfl rfl
theorem dX12_token_51 : decode cX12_token 51 = .ok (.return_, 1) := dec_0 oX12_token (of177 _) rfl
theorem dX12_token_8 : decode cX12_token 8 = .ok (.iload_n 1, 1) := dec_0 oX12_token (of27 _) rfl
theorem dX12_token_9 : decode cX12_token 9 = .ok (.iastore, 1) := dec_0 oX12_token (of79 _) rfl
theorem dX12_turns_0 : decode cX12_turns 0 = .ok (.aload_n 0, 1) := dec_0 oX12_turns (of42 _) rfl
theorem dX12_turns_1 : decode cX12_turns 1 = .ok (.iload_n 1, 1) := dec_0 oX12_turns (of27 _) rfl
theorem dX12_turns_2 : decode cX12_turns 2 = .ok (.invokevirtual 251, 3) := dec_2 oX12_turns (of182 _) 0 251 rfl rfl
theorem dX12_turns_5 : decode cX12_turns 5 = .ok (.ifCond .ne 5, 3) := dec_s2 oX12_turns (of154 _) 0 5 rfl (sg16p rfl) rfl
theorem dX12_turns_8 : decode cX12_turns 8 = .ok (.iconst (-1), 1) := dec_0 oX12_turns (of2 _) rfl
theorem dX12_turns_9 : decode cX12_turns 9 = .ok (.ireturn, 1) := dec_0 oX12_turns (of172 _) rfl
theorem dX12_undo_0 : decode cX12_undo 0 = .ok (.aload_n 0, 1) := dec_0 oX12_undo (of42 _) rfl
theorem dX12_undo_1 : decode cX12_undo 1 = .ok (.getfield 209, 3) := dec_2 oX12_undo (of180 _) 0 209 rfl rfl
theorem dX12_undo_4 : decode cX12_undo 4 = .ok (.ifCond .ne 5, 3) := dec_s2 oX12_undo (of154 _) 0 5 rfl (sg16p rfl) rfl
theorem dX12_undo_7 : decode cX12_undo 7 = .ok (.iconst 0, 1) := dec_0 oX12_undo (of3 _) rfl
theorem dX12_undo_8 : decode cX12_undo 8 = .ok (.ireturn, 1) := dec_0 oX12_undo (of172 _) rfl
theorem dX12_way_0 : decode cX12_way 0 = .ok (.aload_n 0, 1) := dec_0 oX12_way (of42 _) rfl
theorem dX12_way_1 : decode cX12_way 1 = .ok (.iload_n 1, 1) := dec_0 oX12_way (of27 _) rfl
theorem dX12_way_14 : decode cX12_way 14 = .ok (.iconst (-1), 1) := dec_0 oX12_way (of2 _) rfl
theorem dX12_way_15 : decode cX12_way 15 = .ok (.ireturn, 1) := dec_0 oX12_way (of172 _) rfl
theorem dX12_way_2 : decode cX12_way 2 = .ok (.iload_n 2, 1) := dec_0 oX12_way (of28 _) rfl
theorem dX12_way_3 : decode cX12_way 3 = .ok (.invokevirtual 342, 3) := dec_2 oX12_way (of182 _) 1 86 rfl rfl
theorem dX12_way_6 : decode cX12_way 6 = .ok (.ifCond .eq 8, 3) := dec_s2 oX12_way (of153 _) 0 8 rfl (sg16p rfl) rfl
theorem dX12_whole_0 : decode cX12_whole 0 = .ok (.iload_n 1, 1) := dec_0 oX12_whole (of27 _) rfl
theorem dX12_whole_1 : decode cX12_whole 1 = .ok (.iconst 0, 1) := dec_0 oX12_whole (of3 _) rfl
theorem dX12_whole_10 : decode cX12_whole 10 = .ok (.ireturn, 1) := dec_0 oX12_whole (of172 _) rfl
theorem dX12_whole_11 : decode cX12_whole 11 = .ok (.bipush (-2), 2) := dec_s1 oX12_whole (of16 _) 254 rfl (sg8n (k := 2) rfl) rfl
theorem dX12_whole_13 : decode cX12_whole 13 = .ok (.istore_n 2, 1) := dec_0 oX12_whole (of61 _) rfl
theorem dX12_whole_14 : decode cX12_whole 14 = .ok (.bipush (-2), 2) := dec_s1 oX12_whole (of16 _) 254 rfl (sg8n (k := 2) rfl) rfl
theorem dX12_whole_16 : decode cX12_whole 16 = .ok (.istore_n 3, 1) := dec_0 oX12_whole (of62 _) rfl
theorem dX12_whole_17 : decode cX12_whole 17 = .ok (.iconst 0, 1) := dec_0 oX12_whole (of3 _) rfl
theorem dX12_whole_18 : decode cX12_whole 18 = .ok (.istore 4, 2) := dec_1 oX12_whole (of54 _) 4 rfl rfl
theorem dX12_whole_2 : decode cX12_whole 2 = .ok (.iconst 1, 1) := dec_0 oX12_whole (of4 _) rfl
theorem dX12_whole_20 : decode cX12_whole 20 = .ok (.iload 4, 2) := dec_1 oX12_whole (of21 _) 4 rfl rfl
theorem dX12_whole_22 : decode cX12_whole 22 = .ok (.aload_n 0, 1) := dec_0 oX12_whole (of42 _) rfl
theorem dX12_whole_23 : decode cX12_whole 23 = .ok (.getfield 70, 3) := dec_2 oX12_whole (of180 _) 0 70 rfl rfl
theorem dX12_whole_26 : decode cX12_whole 26 = .ok (.iconst 0, 1) := dec_0 oX12_whole (of3 _) rfl
theorem dX12_whole_27 : decode cX12_whole 27 = .ok (.iaload, 1) := dec_0 oX12_whole (of46 _) rfl
theorem dX12_whole_28 : decode cX12_whole 28 = .ok (.if_icmp .ge 50, 3) := dec_s2 oX12_whole (of162 _) 0 50 rfl (sg16p rfl) rfl
theorem dX12_whole_3 : decode cX12_whole 3 = .ok (.invokestatic 244, 3) := dec_2 oX12_whole (of184 _) 0 244 rfl rfl
theorem dX12_whole_6 : decode cX12_whole 6 = .ok (.ifCond .ne 5, 3) := dec_s2 oX12_whole (of154 _) 0 5 rfl (sg16p rfl) rfl
theorem dX12_whole_78 : decode cX12_whole 78 = .ok (.iload_n 1, 1) := dec_0 oX12_whole (of27 _) rfl
theorem dX12_whole_79 : decode cX12_whole 79 = .ok (.ifCond .ne 7, 3) := dec_s2 oX12_whole (of154 _) 0 7 rfl (sg16p rfl) rfl
theorem dX12_whole_82 : decode cX12_whole 82 = .ok (.iload_n 2, 1) := dec_0 oX12_whole (of28 _) rfl
theorem dX12_whole_83 : decode cX12_whole 83 = .ok (.goto 4, 3) := dec_s2 oX12_whole (of167 _) 0 4 rfl (sg16p rfl) rfl
theorem dX12_whole_86 : decode cX12_whole 86 = .ok (.iload_n 3, 1) := dec_0 oX12_whole (of29 _) rfl
theorem dX12_whole_87 : decode cX12_whole 87 = .ok (.ireturn, 1) := dec_0 oX12_whole (of172 _) rfl
theorem dX12_whole_9 : decode cX12_whole 9 = .ok (.iconst (-1), 1) := dec_0 oX12_whole (of2 _) rfl
theorem dX12_whose_0 : decode cX12_whose 0 = .ok (.iload_n 2, 1) := dec_0 oX12_whose (of28 _) rfl
theorem dX12_whose_1 : decode cX12_whose 1 = .ok (.iconst 2, 1) := dec_0 oX12_whose (of5 _) rfl
theorem dX12_whose_10 : decode cX12_whose 10 = .ok (.aload_n 0, 1) := dec_0 oX12_whose (of42 _) rfl
theorem dX12_whose_11 : decode cX12_whose 11 = .ok (.iload_n 1, 1) := dec_0 oX12_whose (of27 _) rfl
theorem dX12_whose_12 : decode cX12_whose 12 = .ok (.iload_n 2, 1) := dec_0 oX12_whose (of28 _) rfl
theorem dX12_whose_13 : decode cX12_whose 13 = .ok (.invokevirtual 257, 3) := dec_2 oX12_whose (of182 _) 1 1 rfl rfl
theorem dX12_whose_16 : decode cX12_whose 16 = .ok (.ifCond .ne 5, 3) := dec_s2 oX12_whose (of154 _) 0 5 rfl (sg16p rfl) rfl
theorem dX12_whose_19 : decode cX12_whose 19 = .ok (.iconst (-1), 1) := dec_0 oX12_whose (of2 _) rfl
theorem dX12_whose_2 : decode cX12_whose 2 = .ok (.bipush 16, 2) := dec_s1 oX12_whose (of16 _) 16 rfl (sg8p rfl) rfl
theorem dX12_whose_20 : decode cX12_whose 20 = .ok (.ireturn, 1) := dec_0 oX12_whose (of172 _) rfl
theorem dX12_whose_4 : decode cX12_whose 4 = .ok (.invokestatic 244, 3) := dec_2 oX12_whose (of184 _) 0 244 rfl rfl
theorem dX12_whose_7 : decode cX12_whose 7 = .ok (.ifCond .eq 12, 3) := dec_s2 oX12_whose (of153 _) 0 12 rfl (sg16p rfl) rfl
theorem dX12_window_0 : decode cX12_window 0 = .ok (.aload_n 0, 1) := dec_0 oX12_window (of42 _) rfl
theorem dX12_window_1 : decode cX12_window 1 = .ok (.iload_n 1, 1) := dec_0 oX12_window (of27 _) rfl
theorem dX12_window_12 : decode cX12_window 12 = .ok (.ireturn, 1) := dec_0 oX12_window (of172 _) rfl
theorem dX12_window_2 : decode cX12_window 2 = .ok (.iload_n 2, 1) := dec_0 oX12_window (of28 _) rfl
theorem dX12_window_3 : decode cX12_window 3 = .ok (.invokevirtual 257, 3) := dec_2 oX12_window (of182 _) 1 1 rfl rfl
theorem dX12_window_6 : decode cX12_window 6 = .ok (.ifCond .ne 7, 3) := dec_s2 oX12_window (of154 _) 0 7 rfl (sg16p rfl) rfl
theorem dX12_window_9 : decode cX12_window 9 = .ok (.ldc_w 332, 3) := dec_2 oX12_window (of19 _) 1 76 rfl rfl
theorem dX12_within_0 : decode cX12_within 0 = .ok (.aload_n 0, 1) := dec_0 oX12_within (of42 _) rfl
theorem dX12_within_1 : decode cX12_within 1 = .ok (.iload_n 1, 1) := dec_0 oX12_within (of27 _) rfl
theorem dX12_within_12 : decode cX12_within 12 = .ok (.iconst (-1), 1) := dec_0 oX12_within (of2 _) rfl
theorem dX12_within_13 : decode cX12_within 13 = .ok (.ireturn, 1) := dec_0 oX12_within (of172 _) rfl
theorem dX12_within_2 : decode cX12_within 2 = .ok (.invokevirtual 251, 3) := dec_2 oX12_within (of182 _) 0 251 rfl rfl
theorem dX12_within_5 : decode cX12_within 5 = .ok (.ifCond .eq 7, 3) := dec_s2 oX12_within (of153 _) 0 7 rfl (sg16p rfl) rfl
theorem dX1_firedBits_0 : decode cX1_firedBits 0 = .ok (.iconst 0, 1) := dec_0 oX1_firedBits (of3 _) rfl
theorem dX1_firedBits_1 : decode cX1_firedBits 1 = .ok (.istore_n 2, 1) := dec_0 oX1_firedBits (of61 _) rfl
theorem dX1_firedBits_12 : decode cX1_firedBits 12 = .ok (.if_icmp .ge 60, 3) := dec_s2 oX1_firedBits (of162 _) 0 60 rfl (sg16p rfl) rfl
theorem dX1_firedBits_2 : decode cX1_firedBits 2 = .ok (.iconst 0, 1) := dec_0 oX1_firedBits (of3 _) rfl
theorem dX1_firedBits_3 : decode cX1_firedBits 3 = .ok (.istore_n 3, 1) := dec_0 oX1_firedBits (of62 _) rfl
theorem dX1_firedBits_4 : decode cX1_firedBits 4 = .ok (.iload_n 3, 1) := dec_0 oX1_firedBits (of29 _) rfl
theorem dX1_firedBits_5 : decode cX1_firedBits 5 = .ok (.aload_n 0, 1) := dec_0 oX1_firedBits (of42 _) rfl
theorem dX1_firedBits_6 : decode cX1_firedBits 6 = .ok (.getfield 43, 3) := dec_2 oX1_firedBits (of180 _) 0 43 rfl rfl
theorem dX1_firedBits_72 : decode cX1_firedBits 72 = .ok (.iload_n 2, 1) := dec_0 oX1_firedBits (of28 _) rfl
theorem dX1_firedBits_73 : decode cX1_firedBits 73 = .ok (.ireturn, 1) := dec_0 oX1_firedBits (of172 _) rfl
theorem dX1_firedBits_9 : decode cX1_firedBits 9 = .ok (.getfield 161, 3) := dec_2 oX1_firedBits (of180 _) 0 161 rfl rfl
theorem dX1_init_0 : decode cX1_init 0 = .ok (.aload_n 0, 1) := dec_0 oX1_init (of42 _) rfl
theorem dX1_init_1 : decode cX1_init 1 = .ok (.invokespecial 3, 3) := dec_2 oX1_init (of183 _) 0 3 rfl rfl
theorem dX1_init_12 : decode cX1_init 12 = .ok (.aload_n 0, 1) := dec_0 oX1_init (of42 _) rfl
theorem dX1_init_13 : decode cX1_init 13 = .ok (.sipush 160, 3) := dec_s2 oX1_init (of17 _) 0 160 rfl (sg16p rfl) rfl
theorem dX1_init_16 : decode cX1_init 16 = .ok (.newarray .int, 2) := by decide +kernel
theorem dX1_init_18 : decode cX1_init 18 = .ok (.putfield 15, 3) := dec_2 oX1_init (of181 _) 0 15 rfl rfl
theorem dX1_init_21 : decode cX1_init 21 = .ok (.aload_n 0, 1) := dec_0 oX1_init (of42 _) rfl
theorem dX1_init_22 : decode cX1_init 22 = .ok (.sipush 160, 3) := dec_s2 oX1_init (of17 _) 0 160 rfl (sg16p rfl) rfl
theorem dX1_init_25 : decode cX1_init 25 = .ok (.newarray .int, 2) := by decide +kernel
theorem dX1_init_27 : decode cX1_init 27 = .ok (.putfield 18, 3) := dec_2 oX1_init (of181 _) 0 18 rfl rfl
theorem dX1_init_30 : decode cX1_init 30 = .ok (.aload_n 0, 1) := dec_0 oX1_init (of42 _) rfl
theorem dX1_init_31 : decode cX1_init 31 = .ok (.sipush 160, 3) := dec_s2 oX1_init (of17 _) 0 160 rfl (sg16p rfl) rfl
theorem dX1_init_34 : decode cX1_init 34 = .ok (.newarray .int, 2) := by decide +kernel
theorem dX1_init_36 : decode cX1_init 36 = .ok (.putfield 21, 3) := dec_2 oX1_init (of181 _) 0 21 rfl rfl
theorem dX1_init_39 : decode cX1_init 39 = .ok (.aload_n 0, 1) := dec_0 oX1_init (of42 _) rfl
theorem dX1_init_4 : decode cX1_init 4 = .ok (.aload_n 0, 1) := dec_0 oX1_init (of42 _) rfl
theorem dX1_init_40 : decode cX1_init 40 = .ok (.sipush 160, 3) := dec_s2 oX1_init (of17 _) 0 160 rfl (sg16p rfl) rfl
theorem dX1_init_43 : decode cX1_init 43 = .ok (.newarray .boolean, 2) := by decide +kernel
theorem dX1_init_45 : decode cX1_init 45 = .ok (.putfield 24, 3) := dec_2 oX1_init (of181 _) 0 24 rfl rfl
theorem dX1_init_48 : decode cX1_init 48 = .ok (.aload_n 0, 1) := dec_0 oX1_init (of42 _) rfl
theorem dX1_init_49 : decode cX1_init 49 = .ok (.aload_n 1, 1) := dec_0 oX1_init (of43 _) rfl
theorem dX1_init_5 : decode cX1_init 5 = .ok (.bipush 9, 2) := dec_s1 oX1_init (of16 _) 9 rfl (sg8p rfl) rfl
theorem dX1_init_50 : decode cX1_init 50 = .ok (.putfield 28, 3) := dec_2 oX1_init (of181 _) 0 28 rfl rfl
theorem dX1_init_53 : decode cX1_init 53 = .ok (.aload_n 0, 1) := dec_0 oX1_init (of42 _) rfl
theorem dX1_init_54 : decode cX1_init 54 = .ok (.aload_n 1, 1) := dec_0 oX1_init (of43 _) rfl
theorem dX1_init_55 : decode cX1_init 55 = .ok (.getfield 32, 3) := dec_2 oX1_init (of180 _) 0 32 rfl rfl
theorem dX1_init_58 : decode cX1_init 58 = .ok (.putfield 38, 3) := dec_2 oX1_init (of181 _) 0 38 rfl rfl
theorem dX1_init_61 : decode cX1_init 61 = .ok (.aload_n 0, 1) := dec_0 oX1_init (of42 _) rfl
theorem dX1_init_62 : decode cX1_init 62 = .ok (.aload_n 1, 1) := dec_0 oX1_init (of43 _) rfl
theorem dX1_init_63 : decode cX1_init 63 = .ok (.getfield 39, 3) := dec_2 oX1_init (of180 _) 0 39 rfl rfl
theorem dX1_init_66 : decode cX1_init 66 = .ok (.putfield 43, 3) := dec_2 oX1_init (of181 _) 0 43 rfl rfl
theorem dX1_init_69 : decode cX1_init 69 = .ok (.return_, 1) := dec_0 oX1_init (of177 _) rfl
theorem dX1_init_7 : decode cX1_init 7 = .ok (.newarray .int, 2) := by decide +kernel
theorem dX1_init_9 : decode cX1_init 9 = .ok (.putfield 11, 3) := dec_2 oX1_init (of181 _) 0 11 rfl rfl
theorem dX2_init_0 : decode cX2_init 0 = .ok (.aload_n 0, 1) := dec_0 oX2_init (of42 _) rfl
theorem dX2_init_1 : decode cX2_init 1 = .ok (.invokespecial 3, 3) := dec_2 oX2_init (of183 _) 0 3 rfl rfl
theorem dX2_init_12 : decode cX2_init 12 = .ok (.aload_n 0, 1) := dec_0 oX2_init (of42 _) rfl
theorem dX2_init_13 : decode cX2_init 13 = .ok (.bipush 16, 2) := dec_s1 oX2_init (of16 _) 16 rfl (sg8p rfl) rfl
theorem dX2_init_15 : decode cX2_init 15 = .ok (.newarray .int, 2) := by decide +kernel
theorem dX2_init_17 : decode cX2_init 17 = .ok (.putfield 15, 3) := dec_2 oX2_init (of181 _) 0 15 rfl rfl
theorem dX2_init_20 : decode cX2_init 20 = .ok (.aload_n 0, 1) := dec_0 oX2_init (of42 _) rfl
theorem dX2_init_21 : decode cX2_init 21 = .ok (.sipush 256, 3) := dec_s2 oX2_init (of17 _) 1 0 rfl (sg16p rfl) rfl
theorem dX2_init_24 : decode cX2_init 24 = .ok (.newarray .int, 2) := by decide +kernel
theorem dX2_init_26 : decode cX2_init 26 = .ok (.putfield 18, 3) := dec_2 oX2_init (of181 _) 0 18 rfl rfl
theorem dX2_init_29 : decode cX2_init 29 = .ok (.aload_n 0, 1) := dec_0 oX2_init (of42 _) rfl
theorem dX2_init_30 : decode cX2_init 30 = .ok (.bipush 32, 2) := dec_s1 oX2_init (of16 _) 32 rfl (sg8p rfl) rfl
theorem dX2_init_32 : decode cX2_init 32 = .ok (.newarray .int, 2) := by decide +kernel
theorem dX2_init_34 : decode cX2_init 34 = .ok (.putfield 21, 3) := dec_2 oX2_init (of181 _) 0 21 rfl rfl
theorem dX2_init_37 : decode cX2_init 37 = .ok (.aload_n 0, 1) := dec_0 oX2_init (of42 _) rfl
theorem dX2_init_38 : decode cX2_init 38 = .ok (.iconst 1, 1) := dec_0 oX2_init (of4 _) rfl
theorem dX2_init_39 : decode cX2_init 39 = .ok (.putfield 24, 3) := dec_2 oX2_init (of181 _) 0 24 rfl rfl
theorem dX2_init_4 : decode cX2_init 4 = .ok (.aload_n 0, 1) := dec_0 oX2_init (of42 _) rfl
theorem dX2_init_42 : decode cX2_init 42 = .ok (.return_, 1) := dec_0 oX2_init (of177 _) rfl
theorem dX2_init_5 : decode cX2_init 5 = .ok (.bipush 16, 2) := dec_s1 oX2_init (of16 _) 16 rfl (sg8p rfl) rfl
theorem dX2_init_7 : decode cX2_init 7 = .ok (.newarray .int, 2) := by decide +kernel
theorem dX2_init_9 : decode cX2_init 9 = .ok (.putfield 9, 3) := dec_2 oX2_init (of181 _) 0 9 rfl rfl
theorem dX3_forget_0 : decode cX3_forget 0 = .ok (.aload_n 0, 1) := dec_0 oX3_forget (of42 _) rfl
theorem dX3_forget_1 : decode cX3_forget 1 = .ok (.iconst 0, 1) := dec_0 oX3_forget (of3 _) rfl
theorem dX3_forget_2 : decode cX3_forget 2 = .ok (.putfield 19, 3) := dec_2 oX3_forget (of181 _) 0 19 rfl rfl
theorem dX3_forget_5 : decode cX3_forget 5 = .ok (.return_, 1) := dec_0 oX3_forget (of177 _) rfl
theorem dX3_init_0 : decode cX3_init 0 = .ok (.aload_n 0, 1) := dec_0 oX3_init (of42 _) rfl
theorem dX3_init_1 : decode cX3_init 1 = .ok (.invokespecial 1, 3) := dec_2 oX3_init (of183 _) 0 1 rfl rfl
theorem dX3_init_12 : decode cX3_init 12 = .ok (.aload_n 0, 1) := dec_0 oX3_init (of42 _) rfl
theorem dX3_init_13 : decode cX3_init 13 = .ok (.bipush 40, 2) := dec_s1 oX3_init (of16 _) 40 rfl (sg8p rfl) rfl
theorem dX3_init_15 : decode cX3_init 15 = .ok (.newarray .int, 2) := by decide +kernel
theorem dX3_init_17 : decode cX3_init 17 = .ok (.putfield 13, 3) := dec_2 oX3_init (of181 _) 0 13 rfl rfl
theorem dX3_init_20 : decode cX3_init 20 = .ok (.aload_n 0, 1) := dec_0 oX3_init (of42 _) rfl
theorem dX3_init_21 : decode cX3_init 21 = .ok (.bipush 40, 2) := dec_s1 oX3_init (of16 _) 40 rfl (sg8p rfl) rfl
theorem dX3_init_23 : decode cX3_init 23 = .ok (.newarray .int, 2) := by decide +kernel
theorem dX3_init_25 : decode cX3_init 25 = .ok (.putfield 16, 3) := dec_2 oX3_init (of181 _) 0 16 rfl rfl
theorem dX3_init_28 : decode cX3_init 28 = .ok (.return_, 1) := dec_0 oX3_init (of177 _) rfl
theorem dX3_init_4 : decode cX3_init 4 = .ok (.aload_n 0, 1) := dec_0 oX3_init (of42 _) rfl
theorem dX3_init_5 : decode cX3_init 5 = .ok (.bipush 40, 2) := dec_s1 oX3_init (of16 _) 40 rfl (sg8p rfl) rfl
theorem dX3_init_7 : decode cX3_init 7 = .ok (.newarray .int, 2) := by decide +kernel
theorem dX3_init_9 : decode cX3_init 9 = .ok (.putfield 9, 3) := dec_2 oX3_init (of181 _) 0 9 rfl rfl
theorem dX3_note_0 : decode cX3_note 0 = .ok (.aload_n 0, 1) := dec_0 oX3_note (of42 _) rfl
theorem dX3_note_1 : decode cX3_note 1 = .ok (.getfield 23, 3) := dec_2 oX3_note (of180 _) 0 23 rfl rfl
theorem dX3_note_11 : decode cX3_note 11 = .ok (.bipush 40, 2) := dec_s1 oX3_note (of16 _) 40 rfl (sg8p rfl) rfl
theorem dX3_note_13 : decode cX3_note 13 = .ok (.if_icmp .lt 4, 3) := dec_s2 oX3_note (of161 _) 0 4 rfl (sg16p rfl) rfl
theorem dX3_note_17 : decode cX3_note 17 = .ok (.aload_n 0, 1) := dec_0 oX3_note (of42 _) rfl
theorem dX3_note_18 : decode cX3_note 18 = .ok (.getfield 9, 3) := dec_2 oX3_note (of180 _) 0 9 rfl rfl
theorem dX3_note_21 : decode cX3_note 21 = .ok (.aload_n 0, 1) := dec_0 oX3_note (of42 _) rfl
theorem dX3_note_22 : decode cX3_note 22 = .ok (.getfield 23, 3) := dec_2 oX3_note (of180 _) 0 23 rfl rfl
theorem dX3_note_25 : decode cX3_note 25 = .ok (.iload_n 1, 1) := dec_0 oX3_note (of27 _) rfl
theorem dX3_note_26 : decode cX3_note 26 = .ok (.iastore, 1) := dec_0 oX3_note (of79 _) rfl
theorem dX3_note_27 : decode cX3_note 27 = .ok (.aload_n 0, 1) := dec_0 oX3_note (of42 _) rfl
theorem dX3_note_28 : decode cX3_note 28 = .ok (.getfield 13, 3) := dec_2 oX3_note (of180 _) 0 13 rfl rfl
theorem dX3_note_31 : decode cX3_note 31 = .ok (.aload_n 0, 1) := dec_0 oX3_note (of42 _) rfl
theorem dX3_note_32 : decode cX3_note 32 = .ok (.getfield 23, 3) := dec_2 oX3_note (of180 _) 0 23 rfl rfl
theorem dX3_note_35 : decode cX3_note 35 = .ok (.iload_n 2, 1) := dec_0 oX3_note (of28 _) rfl
theorem dX3_note_36 : decode cX3_note 36 = .ok (.iastore, 1) := dec_0 oX3_note (of79 _) rfl
theorem dX3_note_37 : decode cX3_note 37 = .ok (.aload_n 0, 1) := dec_0 oX3_note (of42 _) rfl
theorem dX3_note_38 : decode cX3_note 38 = .ok (.getfield 16, 3) := dec_2 oX3_note (of180 _) 0 16 rfl rfl
theorem dX3_note_4 : decode cX3_note 4 = .ok (.ifCond .lt 12, 3) := dec_s2 oX3_note (of155 _) 0 12 rfl (sg16p rfl) rfl
theorem dX3_note_41 : decode cX3_note 41 = .ok (.aload_n 0, 1) := dec_0 oX3_note (of42 _) rfl
theorem dX3_note_42 : decode cX3_note 42 = .ok (.getfield 23, 3) := dec_2 oX3_note (of180 _) 0 23 rfl rfl
theorem dX3_note_45 : decode cX3_note 45 = .ok (.iload_n 3, 1) := dec_0 oX3_note (of29 _) rfl
theorem dX3_note_46 : decode cX3_note 46 = .ok (.iastore, 1) := dec_0 oX3_note (of79 _) rfl
theorem dX3_note_47 : decode cX3_note 47 = .ok (.aload_n 0, 1) := dec_0 oX3_note (of42 _) rfl
theorem dX3_note_48 : decode cX3_note 48 = .ok (.aload_n 0, 1) := dec_0 oX3_note (of42 _) rfl
theorem dX3_note_49 : decode cX3_note 49 = .ok (.getfield 23, 3) := dec_2 oX3_note (of180 _) 0 23 rfl rfl
theorem dX3_note_52 : decode cX3_note 52 = .ok (.bipush 39, 2) := dec_s1 oX3_note (of16 _) 39 rfl (sg8p rfl) rfl
theorem dX3_note_54 : decode cX3_note 54 = .ok (.if_icmp .ne 7, 3) := dec_s2 oX3_note (of160 _) 0 7 rfl (sg16p rfl) rfl
theorem dX3_note_61 : decode cX3_note 61 = .ok (.aload_n 0, 1) := dec_0 oX3_note (of42 _) rfl
theorem dX3_note_62 : decode cX3_note 62 = .ok (.getfield 23, 3) := dec_2 oX3_note (of180 _) 0 23 rfl rfl
theorem dX3_note_65 : decode cX3_note 65 = .ok (.iconst 1, 1) := dec_0 oX3_note (of4 _) rfl
theorem dX3_note_66 : decode cX3_note 66 = .ok (.iadd, 1) := dec_0 oX3_note (of96 _) rfl
theorem dX3_note_67 : decode cX3_note 67 = .ok (.putfield 23, 3) := dec_2 oX3_note (of181 _) 0 23 rfl rfl
theorem dX3_note_7 : decode cX3_note 7 = .ok (.aload_n 0, 1) := dec_0 oX3_note (of42 _) rfl
theorem dX3_note_70 : decode cX3_note 70 = .ok (.aload_n 0, 1) := dec_0 oX3_note (of42 _) rfl
theorem dX3_note_71 : decode cX3_note 71 = .ok (.aload_n 0, 1) := dec_0 oX3_note (of42 _) rfl
theorem dX3_note_72 : decode cX3_note 72 = .ok (.getfield 19, 3) := dec_2 oX3_note (of180 _) 0 19 rfl rfl
theorem dX3_note_75 : decode cX3_note 75 = .ok (.iconst 1, 1) := dec_0 oX3_note (of4 _) rfl
theorem dX3_note_76 : decode cX3_note 76 = .ok (.iadd, 1) := dec_0 oX3_note (of96 _) rfl
theorem dX3_note_77 : decode cX3_note 77 = .ok (.bipush 40, 2) := dec_s1 oX3_note (of16 _) 40 rfl (sg8p rfl) rfl
theorem dX3_note_79 : decode cX3_note 79 = .ok (.invokestatic 26, 3) := dec_2 oX3_note (of184 _) 0 26 rfl rfl
theorem dX3_note_8 : decode cX3_note 8 = .ok (.getfield 23, 3) := dec_2 oX3_note (of180 _) 0 23 rfl rfl
theorem dX3_note_82 : decode cX3_note 82 = .ok (.putfield 19, 3) := dec_2 oX3_note (of181 _) 0 19 rfl rfl
theorem dX3_note_85 : decode cX3_note 85 = .ok (.return_, 1) := dec_0 oX3_note (of177 _) rfl
theorem dX3_stepBack_0 : decode cX3_stepBack 0 = .ok (.aload_n 0, 1) := dec_0 oX3_stepBack (of42 _) rfl
theorem dX3_stepBack_1 : decode cX3_stepBack 1 = .ok (.getfield 19, 3) := dec_2 oX3_stepBack (of180 _) 0 19 rfl rfl
theorem dX3_stepBack_4 : decode cX3_stepBack 4 = .ok (.iconst 1, 1) := dec_0 oX3_stepBack (of4 _) rfl
theorem dX3_stepBack_5 : decode cX3_stepBack 5 = .ok (.if_icmp .ge 5, 3) := dec_s2 oX3_stepBack (of162 _) 0 5 rfl (sg16p rfl) rfl
theorem dX3_stepBack_8 : decode cX3_stepBack 8 = .ok (.iconst 0, 1) := dec_0 oX3_stepBack (of3 _) rfl
theorem dX3_stepBack_9 : decode cX3_stepBack 9 = .ok (.ireturn, 1) := dec_0 oX3_stepBack (of172 _) rfl
theorem dX4_has_0 : decode cX4_has 0 = .ok (.iload_n 1, 1) := dec_0 oX4_has (of27 _) rfl
theorem dX4_has_1 : decode cX4_has 1 = .ok (.ifCond .lt 20, 3) := dec_s2 oX4_has (of155 _) 0 20 rfl (sg16p rfl) rfl
theorem dX4_has_21 : decode cX4_has 21 = .ok (.iconst 0, 1) := dec_0 oX4_has (of3 _) rfl
theorem dX4_has_22 : decode cX4_has 22 = .ok (.ireturn, 1) := dec_0 oX4_has (of172 _) rfl
theorem dX4_has_4 : decode cX4_has 4 = .ok (.iload_n 1, 1) := dec_0 oX4_has (of27 _) rfl
theorem dX4_has_5 : decode cX4_has 5 = .ok (.aload_n 0, 1) := dec_0 oX4_has (of42 _) rfl
theorem dX4_has_6 : decode cX4_has 6 = .ok (.getfield 18, 3) := dec_2 oX4_has (of180 _) 0 18 rfl rfl
theorem dX4_has_9 : decode cX4_has 9 = .ok (.if_icmp .ge 12, 3) := dec_s2 oX4_has (of162 _) 0 12 rfl (sg16p rfl) rfl
theorem dX4_init_0 : decode cX4_init 0 = .ok (.aload_n 0, 1) := dec_0 oX4_init (of42 _) rfl
theorem dX4_init_1 : decode cX4_init 1 = .ok (.invokespecial 3, 3) := dec_2 oX4_init (of183 _) 0 3 rfl rfl
theorem dX4_init_12 : decode cX4_init 12 = .ok (.aload_n 0, 1) := dec_0 oX4_init (of42 _) rfl
theorem dX4_init_13 : decode cX4_init 13 = .ok (.iconst 5, 1) := dec_0 oX4_init (of8 _) rfl
theorem dX4_init_14 : decode cX4_init 14 = .ok (.newarray .int, 2) := by decide +kernel
theorem dX4_init_16 : decode cX4_init 16 = .ok (.putfield 15, 3) := dec_2 oX4_init (of181 _) 0 15 rfl rfl
theorem dX4_init_19 : decode cX4_init 19 = .ok (.return_, 1) := dec_0 oX4_init (of177 _) rfl
theorem dX4_init_4 : decode cX4_init 4 = .ok (.aload_n 0, 1) := dec_0 oX4_init (of42 _) rfl
theorem dX4_init_5 : decode cX4_init 5 = .ok (.bipush 80, 2) := dec_s1 oX4_init (of16 _) 80 rfl (sg8p rfl) rfl
theorem dX4_init_7 : decode cX4_init 7 = .ok (.newarray .int, 2) := by decide +kernel
theorem dX4_init_9 : decode cX4_init 9 = .ok (.putfield 9, 3) := dec_2 oX4_init (of181 _) 0 9 rfl rfl
theorem dX4_lengthOf_0 : decode cX4_lengthOf 0 = .ok (.aload_n 0, 1) := dec_0 oX4_lengthOf (of42 _) rfl
theorem dX4_lengthOf_1 : decode cX4_lengthOf 1 = .ok (.iload_n 1, 1) := dec_0 oX4_lengthOf (of27 _) rfl
theorem dX4_lengthOf_17 : decode cX4_lengthOf 17 = .ok (.iconst 0, 1) := dec_0 oX4_lengthOf (of3 _) rfl
theorem dX4_lengthOf_18 : decode cX4_lengthOf 18 = .ok (.ireturn, 1) := dec_0 oX4_lengthOf (of172 _) rfl
theorem dX4_lengthOf_2 : decode cX4_lengthOf 2 = .ok (.invokevirtual 22, 3) := dec_2 oX4_lengthOf (of182 _) 0 22 rfl rfl
theorem dX4_lengthOf_5 : decode cX4_lengthOf 5 = .ok (.ifCond .eq 12, 3) := dec_s2 oX4_lengthOf (of153 _) 0 12 rfl (sg16p rfl) rfl
theorem dX4_takeFrom_0 : decode cX4_takeFrom 0 = .ok (.aload_n 0, 1) := dec_0 oX4_takeFrom (of42 _) rfl
theorem dX4_takeFrom_1 : decode cX4_takeFrom 1 = .ok (.iconst 0, 1) := dec_0 oX4_takeFrom (of3 _) rfl
theorem dX4_takeFrom_12 : decode cX4_takeFrom 12 = .ok (.if_icmp .ge 40, 3) := dec_s2 oX4_takeFrom (of162 _) 0 40 rfl (sg16p rfl) rfl
theorem dX4_takeFrom_2 : decode cX4_takeFrom 2 = .ok (.putfield 18, 3) := dec_2 oX4_takeFrom (of181 _) 0 18 rfl rfl
theorem dX4_takeFrom_5 : decode cX4_takeFrom 5 = .ok (.iconst 0, 1) := dec_0 oX4_takeFrom (of3 _) rfl
theorem dX4_takeFrom_52 : decode cX4_takeFrom 52 = .ok (.return_, 1) := dec_0 oX4_takeFrom (of177 _) rfl
theorem dX4_takeFrom_6 : decode cX4_takeFrom 6 = .ok (.istore_n 2, 1) := dec_0 oX4_takeFrom (of61 _) rfl
theorem dX4_takeFrom_7 : decode cX4_takeFrom 7 = .ok (.iload_n 2, 1) := dec_0 oX4_takeFrom (of28 _) rfl
theorem dX4_takeFrom_8 : decode cX4_takeFrom 8 = .ok (.aload_n 1, 1) := dec_0 oX4_takeFrom (of43 _) rfl
theorem dX4_takeFrom_9 : decode cX4_takeFrom 9 = .ok (.getfield 18, 3) := dec_2 oX4_takeFrom (of180 _) 0 18 rfl rfl
theorem dX4_valueAt_0 : decode cX4_valueAt 0 = .ok (.iload_n 2, 1) := dec_0 oX4_valueAt (of28 _) rfl
theorem dX4_valueAt_1 : decode cX4_valueAt 1 = .ok (.ifCond .lt 32, 3) := dec_s2 oX4_valueAt (of155 _) 0 32 rfl (sg16p rfl) rfl
theorem dX4_valueAt_10 : decode cX4_valueAt 10 = .ok (.iload_n 2, 1) := dec_0 oX4_valueAt (of28 _) rfl
theorem dX4_valueAt_11 : decode cX4_valueAt 11 = .ok (.aload_n 0, 1) := dec_0 oX4_valueAt (of42 _) rfl
theorem dX4_valueAt_12 : decode cX4_valueAt 12 = .ok (.iload_n 1, 1) := dec_0 oX4_valueAt (of27 _) rfl
theorem dX4_valueAt_13 : decode cX4_valueAt 13 = .ok (.invokevirtual 26, 3) := dec_2 oX4_valueAt (of182 _) 0 26 rfl rfl
theorem dX4_valueAt_16 : decode cX4_valueAt 16 = .ok (.if_icmp .ge 17, 3) := dec_s2 oX4_valueAt (of162 _) 0 17 rfl (sg16p rfl) rfl
theorem dX4_valueAt_33 : decode cX4_valueAt 33 = .ok (.sipush (-1000), 3) := dec_s2 oX4_valueAt (of17 _) 252 24 rfl (sg16n (k := 1000) rfl) rfl
theorem dX4_valueAt_36 : decode cX4_valueAt 36 = .ok (.ireturn, 1) := dec_0 oX4_valueAt (of172 _) rfl
theorem dX4_valueAt_4 : decode cX4_valueAt 4 = .ok (.iload_n 2, 1) := dec_0 oX4_valueAt (of28 _) rfl
theorem dX4_valueAt_5 : decode cX4_valueAt 5 = .ok (.bipush 16, 2) := dec_s1 oX4_valueAt (of16 _) 16 rfl (sg8p rfl) rfl
theorem dX4_valueAt_7 : decode cX4_valueAt 7 = .ok (.if_icmp .ge 26, 3) := dec_s2 oX4_valueAt (of162 _) 0 26 rfl (sg16p rfl) rfl
theorem dX5_begin_0 : decode cX5_begin 0 = .ok (.aload_n 0, 1) := dec_0 oX5_begin (of42 _) rfl
theorem dX5_begin_1 : decode cX5_begin 1 = .ok (.getfield 12, 3) := dec_2 oX5_begin (of180 _) 0 12 rfl rfl
theorem dX5_begin_11 : decode cX5_begin 11 = .ok (.iconst 0, 1) := dec_0 oX5_begin (of3 _) rfl
theorem dX5_begin_12 : decode cX5_begin 12 = .ok (.putfield 84, 3) := dec_2 oX5_begin (of181 _) 0 84 rfl rfl
theorem dX5_begin_15 : decode cX5_begin 15 = .ok (.aload_n 0, 1) := dec_0 oX5_begin (of42 _) rfl
theorem dX5_begin_16 : decode cX5_begin 16 = .ok (.iconst 0, 1) := dec_0 oX5_begin (of3 _) rfl
theorem dX5_begin_17 : decode cX5_begin 17 = .ok (.putfield 75, 3) := dec_2 oX5_begin (of181 _) 0 75 rfl rfl
theorem dX5_begin_20 : decode cX5_begin 20 = .ok (.aload_n 0, 1) := dec_0 oX5_begin (of42 _) rfl
theorem dX5_begin_21 : decode cX5_begin 21 = .ok (.iconst 0, 1) := dec_0 oX5_begin (of3 _) rfl
theorem dX5_begin_22 : decode cX5_begin 22 = .ok (.putfield 87, 3) := dec_2 oX5_begin (of181 _) 0 87 rfl rfl
theorem dX5_begin_25 : decode cX5_begin 25 = .ok (.aload_n 0, 1) := dec_0 oX5_begin (of42 _) rfl
theorem dX5_begin_26 : decode cX5_begin 26 = .ok (.bipush (-2), 2) := dec_s1 oX5_begin (of16 _) 254 rfl (sg8n (k := 2) rfl) rfl
theorem dX5_begin_28 : decode cX5_begin 28 = .ok (.putfield 32, 3) := dec_2 oX5_begin (of181 _) 0 32 rfl rfl
theorem dX5_begin_31 : decode cX5_begin 31 = .ok (.aload_n 0, 1) := dec_0 oX5_begin (of42 _) rfl
theorem dX5_begin_32 : decode cX5_begin 32 = .ok (.iconst 0, 1) := dec_0 oX5_begin (of3 _) rfl
theorem dX5_begin_33 : decode cX5_begin 33 = .ok (.putfield 49, 3) := dec_2 oX5_begin (of181 _) 0 49 rfl rfl
theorem dX5_begin_36 : decode cX5_begin 36 = .ok (.aload_n 0, 1) := dec_0 oX5_begin (of42 _) rfl
theorem dX5_begin_37 : decode cX5_begin 37 = .ok (.iconst 0, 1) := dec_0 oX5_begin (of3 _) rfl
theorem dX5_begin_38 : decode cX5_begin 38 = .ok (.putfield 78, 3) := dec_2 oX5_begin (of181 _) 0 78 rfl rfl
theorem dX5_begin_4 : decode cX5_begin 4 = .ok (.invokevirtual 81, 3) := dec_2 oX5_begin (of182 _) 0 81 rfl rfl
theorem dX5_begin_41 : decode cX5_begin 41 = .ok (.aload_n 0, 1) := dec_0 oX5_begin (of42 _) rfl
theorem dX5_begin_42 : decode cX5_begin 42 = .ok (.iconst (-1), 1) := dec_0 oX5_begin (of2 _) rfl
theorem dX5_begin_43 : decode cX5_begin 43 = .ok (.putfield 36, 3) := dec_2 oX5_begin (of181 _) 0 36 rfl rfl
theorem dX5_begin_46 : decode cX5_begin 46 = .ok (.aload_n 0, 1) := dec_0 oX5_begin (of42 _) rfl
theorem dX5_begin_47 : decode cX5_begin 47 = .ok (.iconst (-1), 1) := dec_0 oX5_begin (of2 _) rfl
theorem dX5_begin_48 : decode cX5_begin 48 = .ok (.putfield 39, 3) := dec_2 oX5_begin (of181 _) 0 39 rfl rfl
theorem dX5_begin_51 : decode cX5_begin 51 = .ok (.aload_n 0, 1) := dec_0 oX5_begin (of42 _) rfl
theorem dX5_begin_52 : decode cX5_begin 52 = .ok (.getfield 42, 3) := dec_2 oX5_begin (of180 _) 0 42 rfl rfl
theorem dX5_begin_55 : decode cX5_begin 55 = .ok (.invokevirtual 90, 3) := dec_2 oX5_begin (of182 _) 0 90 rfl rfl
theorem dX5_begin_58 : decode cX5_begin 58 = .ok (.return_, 1) := dec_0 oX5_begin (of177 _) rfl
theorem dX5_begin_7 : decode cX5_begin 7 = .ok (.aload_n 0, 1) := dec_0 oX5_begin (of42 _) rfl
theorem dX5_begin_8 : decode cX5_begin 8 = .ok (.getfield 21, 3) := dec_2 oX5_begin (of180 _) 0 21 rfl rfl
theorem dX5_init_0 : decode cX5_init 0 = .ok (.aload_n 0, 1) := dec_0 oX5_init (of42 _) rfl
theorem dX5_init_1 : decode cX5_init 1 = .ok (.invokespecial 3, 3) := dec_2 oX5_init (of183 _) 0 3 rfl rfl
theorem dX5_init_12 : decode cX5_init 12 = .ok (.putfield 12, 3) := dec_2 oX5_init (of181 _) 0 12 rfl rfl
theorem dX5_init_15 : decode cX5_init 15 = .ok (.aload_n 0, 1) := dec_0 oX5_init (of42 _) rfl
theorem dX5_init_16 : decode cX5_init 16 = .ok (.new 18, 3) := dec_2 oX5_init (of187 _) 0 18 rfl rfl
theorem dX5_init_19 : decode cX5_init 19 = .ok (.dup, 1) := dec_0 oX5_init (of89 _) rfl
theorem dX5_init_20 : decode cX5_init 20 = .ok (.invokespecial 20, 3) := dec_2 oX5_init (of183 _) 0 20 rfl rfl
theorem dX5_init_23 : decode cX5_init 23 = .ok (.putfield 21, 3) := dec_2 oX5_init (of181 _) 0 21 rfl rfl
theorem dX5_init_26 : decode cX5_init 26 = .ok (.aload_n 0, 1) := dec_0 oX5_init (of42 _) rfl
theorem dX5_init_27 : decode cX5_init 27 = .ok (.iconst 5, 1) := dec_0 oX5_init (of8 _) rfl
theorem dX5_init_28 : decode cX5_init 28 = .ok (.newarray .int, 2) := by decide +kernel
theorem dX5_init_30 : decode cX5_init 30 = .ok (.putfield 25, 3) := dec_2 oX5_init (of181 _) 0 25 rfl rfl
theorem dX5_init_33 : decode cX5_init 33 = .ok (.aload_n 0, 1) := dec_0 oX5_init (of42 _) rfl
theorem dX5_init_34 : decode cX5_init 34 = .ok (.iconst 5, 1) := dec_0 oX5_init (of8 _) rfl
theorem dX5_init_35 : decode cX5_init 35 = .ok (.newarray .int, 2) := by decide +kernel
theorem dX5_init_37 : decode cX5_init 37 = .ok (.putfield 29, 3) := dec_2 oX5_init (of181 _) 0 29 rfl rfl
theorem dX5_init_4 : decode cX5_init 4 = .ok (.aload_n 0, 1) := dec_0 oX5_init (of42 _) rfl
theorem dX5_init_40 : decode cX5_init 40 = .ok (.aload_n 0, 1) := dec_0 oX5_init (of42 _) rfl
theorem dX5_init_41 : decode cX5_init 41 = .ok (.bipush (-2), 2) := dec_s1 oX5_init (of16 _) 254 rfl (sg8n (k := 2) rfl) rfl
theorem dX5_init_43 : decode cX5_init 43 = .ok (.putfield 32, 3) := dec_2 oX5_init (of181 _) 0 32 rfl rfl
theorem dX5_init_46 : decode cX5_init 46 = .ok (.aload_n 0, 1) := dec_0 oX5_init (of42 _) rfl
theorem dX5_init_47 : decode cX5_init 47 = .ok (.iconst (-1), 1) := dec_0 oX5_init (of2 _) rfl
theorem dX5_init_48 : decode cX5_init 48 = .ok (.putfield 36, 3) := dec_2 oX5_init (of181 _) 0 36 rfl rfl
theorem dX5_init_5 : decode cX5_init 5 = .ok (.new 9, 3) := dec_2 oX5_init (of187 _) 0 9 rfl rfl
theorem dX5_init_51 : decode cX5_init 51 = .ok (.aload_n 0, 1) := dec_0 oX5_init (of42 _) rfl
theorem dX5_init_52 : decode cX5_init 52 = .ok (.iconst (-1), 1) := dec_0 oX5_init (of2 _) rfl
theorem dX5_init_53 : decode cX5_init 53 = .ok (.putfield 39, 3) := dec_2 oX5_init (of181 _) 0 39 rfl rfl
theorem dX5_init_56 : decode cX5_init 56 = .ok (.aload_n 0, 1) := dec_0 oX5_init (of42 _) rfl
theorem dX5_init_57 : decode cX5_init 57 = .ok (.aload_n 1, 1) := dec_0 oX5_init (of43 _) rfl
theorem dX5_init_58 : decode cX5_init 58 = .ok (.putfield 42, 3) := dec_2 oX5_init (of181 _) 0 42 rfl rfl
theorem dX5_init_61 : decode cX5_init 61 = .ok (.return_, 1) := dec_0 oX5_init (of177 _) rfl
theorem dX5_init_8 : decode cX5_init 8 = .ok (.dup, 1) := dec_0 oX5_init (of89 _) rfl
theorem dX5_init_9 : decode cX5_init 9 = .ok (.invokespecial 11, 3) := dec_2 oX5_init (of183 _) 0 11 rfl rfl
theorem dX5_readText_0 : decode cX5_readText 0 = .ok (.aload_n 0, 1) := dec_0 oX5_readText (of42 _) rfl
theorem dX5_readText_1 : decode cX5_readText 1 = .ok (.invokevirtual 46, 3) := dec_2 oX5_readText (of182 _) 0 46 rfl rfl
theorem dX5_readText_10 : decode cX5_readText 10 = .ok (.if_icmp .gt 67, 3) := dec_s2 oX5_readText (of163 _) 0 67 rfl (sg16p rfl) rfl
theorem dX5_readText_100 : decode cX5_readText 100 = .ok (.ireturn, 1) := dec_0 oX5_readText (of172 _) rfl
theorem dX5_readText_13 : decode cX5_readText 13 = .ok (.aload_n 0, 1) := dec_0 oX5_readText (of42 _) rfl
theorem dX5_readText_14 : decode cX5_readText 14 = .ok (.getfield 49, 3) := dec_2 oX5_readText (of180 _) 0 49 rfl rfl
theorem dX5_readText_17 : decode cX5_readText 17 = .ok (.ifCond .ne 60, 3) := dec_s2 oX5_readText (of154 _) 0 60 rfl (sg16p rfl) rfl
theorem dX5_readText_20 : decode cX5_readText 20 = .ok (.aload_n 0, 1) := dec_0 oX5_readText (of42 _) rfl
theorem dX5_readText_21 : decode cX5_readText 21 = .ok (.getfield 42, 3) := dec_2 oX5_readText (of180 _) 0 42 rfl rfl
theorem dX5_readText_24 : decode cX5_readText 24 = .ok (.getfield 53, 3) := dec_2 oX5_readText (of180 _) 0 53 rfl rfl
theorem dX5_readText_27 : decode cX5_readText 27 = .ok (.ifCond .eq 50, 3) := dec_s2 oX5_readText (of153 _) 0 50 rfl (sg16p rfl) rfl
theorem dX5_readText_4 : decode cX5_readText 4 = .ok (.iconst 0, 1) := dec_0 oX5_readText (of3 _) rfl
theorem dX5_readText_5 : decode cX5_readText 5 = .ok (.istore_n 1, 1) := dec_0 oX5_readText (of60 _) rfl
theorem dX5_readText_6 : decode cX5_readText 6 = .ok (.iload_n 1, 1) := dec_0 oX5_readText (of27 _) rfl
theorem dX5_readText_7 : decode cX5_readText 7 = .ok (.sipush 400, 3) := dec_s2 oX5_readText (of17 _) 1 144 rfl (sg16p rfl) rfl
theorem dX5_readText_77 : decode cX5_readText 77 = .ok (.aload_n 0, 1) := dec_0 oX5_readText (of42 _) rfl
theorem dX5_readText_78 : decode cX5_readText 78 = .ok (.getfield 49, 3) := dec_2 oX5_readText (of180 _) 0 49 rfl rfl
theorem dX5_readText_81 : decode cX5_readText 81 = .ok (.ifCond .ne 15, 3) := dec_s2 oX5_readText (of154 _) 0 15 rfl (sg16p rfl) rfl
theorem dX5_readText_84 : decode cX5_readText 84 = .ok (.aload_n 0, 1) := dec_0 oX5_readText (of42 _) rfl
theorem dX5_readText_85 : decode cX5_readText 85 = .ok (.getfield 75, 3) := dec_2 oX5_readText (of180 _) 0 75 rfl rfl
theorem dX5_readText_88 : decode cX5_readText 88 = .ok (.ifCond .eq 8, 3) := dec_s2 oX5_readText (of153 _) 0 8 rfl (sg16p rfl) rfl
theorem dX5_readText_96 : decode cX5_readText 96 = .ok (.aload_n 0, 1) := dec_0 oX5_readText (of42 _) rfl
theorem dX5_readText_97 : decode cX5_readText 97 = .ok (.getfield 78, 3) := dec_2 oX5_readText (of180 _) 0 78 rfl rfl
theorem dX6_append_0 : decode cX6_append 0 = .ok (.aload_n 0, 1) := dec_0 oX6_append (of42 _) rfl
theorem dX6_append_1 : decode cX6_append 1 = .ok (.getfield 19, 3) := dec_2 oX6_append (of180 _) 0 19 rfl rfl
theorem dX6_append_12 : decode cX6_append 12 = .ok (.aload_n 0, 1) := dec_0 oX6_append (of42 _) rfl
theorem dX6_append_13 : decode cX6_append 13 = .ok (.getfield 11, 3) := dec_2 oX6_append (of180 _) 0 11 rfl rfl
theorem dX6_append_16 : decode cX6_append 16 = .ok (.aload_n 0, 1) := dec_0 oX6_append (of42 _) rfl
theorem dX6_append_17 : decode cX6_append 17 = .ok (.getfield 15, 3) := dec_2 oX6_append (of180 _) 0 15 rfl rfl
theorem dX6_append_20 : decode cX6_append 20 = .ok (.aload_n 0, 1) := dec_0 oX6_append (of42 _) rfl
theorem dX6_append_21 : decode cX6_append 21 = .ok (.getfield 19, 3) := dec_2 oX6_append (of180 _) 0 19 rfl rfl
theorem dX6_append_24 : decode cX6_append 24 = .ok (.iadd, 1) := dec_0 oX6_append (of96 _) rfl
theorem dX6_append_25 : decode cX6_append 25 = .ok (.sipush 255, 3) := dec_s2 oX6_append (of17 _) 0 255 rfl (sg16p rfl) rfl
theorem dX6_append_28 : decode cX6_append 28 = .ok (.iand, 1) := dec_0 oX6_append (of126 _) rfl
theorem dX6_append_29 : decode cX6_append 29 = .ok (.iload_n 1, 1) := dec_0 oX6_append (of27 _) rfl
theorem dX6_append_30 : decode cX6_append 30 = .ok (.iastore, 1) := dec_0 oX6_append (of79 _) rfl
theorem dX6_append_31 : decode cX6_append 31 = .ok (.aload_n 0, 1) := dec_0 oX6_append (of42 _) rfl
theorem dX6_append_32 : decode cX6_append 32 = .ok (.dup, 1) := dec_0 oX6_append (of89 _) rfl
theorem dX6_append_33 : decode cX6_append 33 = .ok (.getfield 19, 3) := dec_2 oX6_append (of180 _) 0 19 rfl rfl
theorem dX6_append_36 : decode cX6_append 36 = .ok (.iconst 1, 1) := dec_0 oX6_append (of4 _) rfl
theorem dX6_append_37 : decode cX6_append 37 = .ok (.iadd, 1) := dec_0 oX6_append (of96 _) rfl
theorem dX6_append_38 : decode cX6_append 38 = .ok (.putfield 19, 3) := dec_2 oX6_append (of181 _) 0 19 rfl rfl
theorem dX6_append_4 : decode cX6_append 4 = .ok (.sipush 160, 3) := dec_s2 oX6_append (of17 _) 0 160 rfl (sg16p rfl) rfl
theorem dX6_append_41 : decode cX6_append 41 = .ok (.iconst 1, 1) := dec_0 oX6_append (of4 _) rfl
theorem dX6_append_42 : decode cX6_append 42 = .ok (.ireturn, 1) := dec_0 oX6_append (of172 _) rfl
theorem dX6_append_7 : decode cX6_append 7 = .ok (.if_icmp .lt 5, 3) := dec_s2 oX6_append (of161 _) 0 5 rfl (sg16p rfl) rfl
theorem dX6_copyInto_0 : decode cX6_copyInto 0 = .ok (.aload_n 1, 1) := dec_0 oX6_copyInto (of43 _) rfl
theorem dX6_copyInto_1 : decode cX6_copyInto 1 = .ok (.iconst 0, 1) := dec_0 oX6_copyInto (of3 _) rfl
theorem dX6_copyInto_12 : decode cX6_copyInto 12 = .ok (.if_icmp .ge 18, 3) := dec_s2 oX6_copyInto (of162 _) 0 18 rfl (sg16p rfl) rfl
theorem dX6_copyInto_2 : decode cX6_copyInto 2 = .ok (.putfield 22, 3) := dec_2 oX6_copyInto (of181 _) 0 22 rfl rfl
theorem dX6_copyInto_30 : decode cX6_copyInto 30 = .ok (.return_, 1) := dec_0 oX6_copyInto (of177 _) rfl
theorem dX6_copyInto_5 : decode cX6_copyInto 5 = .ok (.iconst 0, 1) := dec_0 oX6_copyInto (of3 _) rfl
theorem dX6_copyInto_6 : decode cX6_copyInto 6 = .ok (.istore_n 2, 1) := dec_0 oX6_copyInto (of61 _) rfl
theorem dX6_copyInto_7 : decode cX6_copyInto 7 = .ok (.iload_n 2, 1) := dec_0 oX6_copyInto (of28 _) rfl
theorem dX6_copyInto_8 : decode cX6_copyInto 8 = .ok (.aload_n 0, 1) := dec_0 oX6_copyInto (of42 _) rfl
theorem dX6_copyInto_9 : decode cX6_copyInto 9 = .ok (.getfield 19, 3) := dec_2 oX6_copyInto (of180 _) 0 19 rfl rfl
theorem dX6_cutFirst_0 : decode cX6_cutFirst 0 = .ok (.iload_n 1, 1) := dec_0 oX6_cutFirst (of27 _) rfl
theorem dX6_cutFirst_1 : decode cX6_cutFirst 1 = .ok (.iconst 1, 1) := dec_0 oX6_cutFirst (of4 _) rfl
theorem dX6_cutFirst_10 : decode cX6_cutFirst 10 = .ok (.if_icmp .le 5, 3) := dec_s2 oX6_cutFirst (of164 _) 0 5 rfl (sg16p rfl) rfl
theorem dX6_cutFirst_13 : decode cX6_cutFirst 13 = .ok (.iconst 0, 1) := dec_0 oX6_cutFirst (of3 _) rfl
theorem dX6_cutFirst_14 : decode cX6_cutFirst 14 = .ok (.ireturn, 1) := dec_0 oX6_cutFirst (of172 _) rfl
theorem dX6_cutFirst_2 : decode cX6_cutFirst 2 = .ok (.if_icmp .lt 11, 3) := dec_s2 oX6_cutFirst (of161 _) 0 11 rfl (sg16p rfl) rfl
theorem dX6_cutFirst_5 : decode cX6_cutFirst 5 = .ok (.iload_n 1, 1) := dec_0 oX6_cutFirst (of27 _) rfl
theorem dX6_cutFirst_6 : decode cX6_cutFirst 6 = .ok (.aload_n 0, 1) := dec_0 oX6_cutFirst (of42 _) rfl
theorem dX6_cutFirst_7 : decode cX6_cutFirst 7 = .ok (.getfield 19, 3) := dec_2 oX6_cutFirst (of180 _) 0 19 rfl rfl
theorem dX6_flatWindows_0 : decode cX6_flatWindows 0 = .ok (.iconst 0, 1) := dec_0 oX6_flatWindows (of3 _) rfl
theorem dX6_flatWindows_1 : decode cX6_flatWindows 1 = .ok (.istore_n 2, 1) := dec_0 oX6_flatWindows (of61 _) rfl
theorem dX6_flatWindows_10 : decode cX6_flatWindows 10 = .ok (.getfield 19, 3) := dec_2 oX6_flatWindows (of180 _) 0 19 rfl rfl
theorem dX6_flatWindows_13 : decode cX6_flatWindows 13 = .ok (.if_icmp .ge 60, 3) := dec_s2 oX6_flatWindows (of162 _) 0 60 rfl (sg16p rfl) rfl
theorem dX6_flatWindows_2 : decode cX6_flatWindows 2 = .ok (.iconst 0, 1) := dec_0 oX6_flatWindows (of3 _) rfl
theorem dX6_flatWindows_3 : decode cX6_flatWindows 3 = .ok (.istore_n 3, 1) := dec_0 oX6_flatWindows (of62 _) rfl
theorem dX6_flatWindows_4 : decode cX6_flatWindows 4 = .ok (.iconst 0, 1) := dec_0 oX6_flatWindows (of3 _) rfl
theorem dX6_flatWindows_5 : decode cX6_flatWindows 5 = .ok (.istore 4, 2) := dec_1 oX6_flatWindows (of54 _) 4 rfl rfl
theorem dX6_flatWindows_7 : decode cX6_flatWindows 7 = .ok (.iload 4, 2) := dec_1 oX6_flatWindows (of21 _) 4 rfl rfl
theorem dX6_flatWindows_73 : decode cX6_flatWindows 73 = .ok (.iload_n 2, 1) := dec_0 oX6_flatWindows (of28 _) rfl
theorem dX6_flatWindows_74 : decode cX6_flatWindows 74 = .ok (.ireturn, 1) := dec_0 oX6_flatWindows (of172 _) rfl
theorem dX6_flatWindows_9 : decode cX6_flatWindows 9 = .ok (.aload_n 0, 1) := dec_0 oX6_flatWindows (of42 _) rfl
theorem dX6_gapCount_0 : decode cX6_gapCount 0 = .ok (.iconst 0, 1) := dec_0 oX6_gapCount (of3 _) rfl
theorem dX6_gapCount_1 : decode cX6_gapCount 1 = .ok (.istore_n 1, 1) := dec_0 oX6_gapCount (of60 _) rfl
theorem dX6_gapCount_2 : decode cX6_gapCount 2 = .ok (.iconst 0, 1) := dec_0 oX6_gapCount (of3 _) rfl
theorem dX6_gapCount_29 : decode cX6_gapCount 29 = .ok (.iload_n 1, 1) := dec_0 oX6_gapCount (of27 _) rfl
theorem dX6_gapCount_3 : decode cX6_gapCount 3 = .ok (.istore_n 2, 1) := dec_0 oX6_gapCount (of61 _) rfl
theorem dX6_gapCount_30 : decode cX6_gapCount 30 = .ok (.ireturn, 1) := dec_0 oX6_gapCount (of172 _) rfl
theorem dX6_gapCount_4 : decode cX6_gapCount 4 = .ok (.iload_n 2, 1) := dec_0 oX6_gapCount (of28 _) rfl
theorem dX6_gapCount_5 : decode cX6_gapCount 5 = .ok (.aload_n 0, 1) := dec_0 oX6_gapCount (of42 _) rfl
theorem dX6_gapCount_6 : decode cX6_gapCount 6 = .ok (.getfield 19, 3) := dec_2 oX6_gapCount (of180 _) 0 19 rfl rfl
theorem dX6_gapCount_9 : decode cX6_gapCount 9 = .ok (.if_icmp .ge 20, 3) := dec_s2 oX6_gapCount (of162 _) 0 20 rfl (sg16p rfl) rfl
theorem dX6_greatestOf_0 : decode cX6_greatestOf 0 = .ok (.sipush (-1000), 3) := dec_s2 oX6_greatestOf (of17 _) 252 24 rfl (sg16n (k := 1000) rfl) rfl
theorem dX6_greatestOf_10 : decode cX6_greatestOf 10 = .ok (.if_icmp .ge 22, 3) := dec_s2 oX6_greatestOf (of162 _) 0 22 rfl (sg16p rfl) rfl
theorem dX6_greatestOf_3 : decode cX6_greatestOf 3 = .ok (.istore_n 3, 1) := dec_0 oX6_greatestOf (of62 _) rfl
theorem dX6_greatestOf_32 : decode cX6_greatestOf 32 = .ok (.iload_n 3, 1) := dec_0 oX6_greatestOf (of29 _) rfl
theorem dX6_greatestOf_33 : decode cX6_greatestOf 33 = .ok (.ireturn, 1) := dec_0 oX6_greatestOf (of172 _) rfl
theorem dX6_greatestOf_4 : decode cX6_greatestOf 4 = .ok (.iconst 0, 1) := dec_0 oX6_greatestOf (of3 _) rfl
theorem dX6_greatestOf_5 : decode cX6_greatestOf 5 = .ok (.istore 4, 2) := dec_1 oX6_greatestOf (of54 _) 4 rfl rfl
theorem dX6_greatestOf_7 : decode cX6_greatestOf 7 = .ok (.iload 4, 2) := dec_1 oX6_greatestOf (of21 _) 4 rfl rfl
theorem dX6_greatestOf_9 : decode cX6_greatestOf 9 = .ok (.iload_n 2, 1) := dec_0 oX6_greatestOf (of28 _) rfl
theorem dX6_hasWindow_0 : decode cX6_hasWindow 0 = .ok (.iload_n 1, 1) := dec_0 oX6_hasWindow (of27 _) rfl
theorem dX6_hasWindow_1 : decode cX6_hasWindow 1 = .ok (.ifCond .lt 26, 3) := dec_s2 oX6_hasWindow (of155 _) 0 26 rfl (sg16p rfl) rfl
theorem dX6_hasWindow_27 : decode cX6_hasWindow 27 = .ok (.iconst 0, 1) := dec_0 oX6_hasWindow (of3 _) rfl
theorem dX6_hasWindow_28 : decode cX6_hasWindow 28 = .ok (.ireturn, 1) := dec_0 oX6_hasWindow (of172 _) rfl
theorem dX6_hasWindow_4 : decode cX6_hasWindow 4 = .ok (.iload_n 1, 1) := dec_0 oX6_hasWindow (of27 _) rfl
theorem dX6_hasWindow_5 : decode cX6_hasWindow 5 = .ok (.aload_n 0, 1) := dec_0 oX6_hasWindow (of42 _) rfl
theorem dX6_hasWindow_6 : decode cX6_hasWindow 6 = .ok (.getfield 19, 3) := dec_2 oX6_hasWindow (of180 _) 0 19 rfl rfl
theorem dX6_hasWindow_9 : decode cX6_hasWindow 9 = .ok (.if_icmp .ge 18, 3) := dec_s2 oX6_hasWindow (of162 _) 0 18 rfl (sg16p rfl) rfl
theorem dX6_init_0 : decode cX6_init 0 = .ok (.aload_n 0, 1) := dec_0 oX6_init (of42 _) rfl
theorem dX6_init_1 : decode cX6_init 1 = .ok (.invokespecial 5, 3) := dec_2 oX6_init (of183 _) 0 5 rfl rfl
theorem dX6_init_10 : decode cX6_init 10 = .ok (.putfield 11, 3) := dec_2 oX6_init (of181 _) 0 11 rfl rfl
theorem dX6_init_13 : decode cX6_init 13 = .ok (.return_, 1) := dec_0 oX6_init (of177 _) rfl
theorem dX6_init_4 : decode cX6_init 4 = .ok (.aload_n 0, 1) := dec_0 oX6_init (of42 _) rfl
theorem dX6_init_5 : decode cX6_init 5 = .ok (.sipush 256, 3) := dec_s2 oX6_init (of17 _) 1 0 rfl (sg16p rfl) rfl
theorem dX6_init_8 : decode cX6_init 8 = .ok (.newarray .int, 2) := by decide +kernel
theorem dX6_leastOf_0 : decode cX6_leastOf 0 = .ok (.sipush (-1000), 3) := dec_s2 oX6_leastOf (of17 _) 252 24 rfl (sg16n (k := 1000) rfl) rfl
theorem dX6_leastOf_10 : decode cX6_leastOf 10 = .ok (.if_icmp .ge 43, 3) := dec_s2 oX6_leastOf (of162 _) 0 43 rfl (sg16p rfl) rfl
theorem dX6_leastOf_3 : decode cX6_leastOf 3 = .ok (.istore_n 3, 1) := dec_0 oX6_leastOf (of62 _) rfl
theorem dX6_leastOf_4 : decode cX6_leastOf 4 = .ok (.iconst 0, 1) := dec_0 oX6_leastOf (of3 _) rfl
theorem dX6_leastOf_5 : decode cX6_leastOf 5 = .ok (.istore 4, 2) := dec_1 oX6_leastOf (of54 _) 4 rfl rfl
theorem dX6_leastOf_53 : decode cX6_leastOf 53 = .ok (.iload_n 3, 1) := dec_0 oX6_leastOf (of29 _) rfl
theorem dX6_leastOf_54 : decode cX6_leastOf 54 = .ok (.ireturn, 1) := dec_0 oX6_leastOf (of172 _) rfl
theorem dX6_leastOf_7 : decode cX6_leastOf 7 = .ok (.iload 4, 2) := dec_1 oX6_leastOf (of21 _) 4 rfl rfl
theorem dX6_leastOf_9 : decode cX6_leastOf 9 = .ok (.iload_n 2, 1) := dec_0 oX6_leastOf (of28 _) rfl
theorem dX6_longestRunFirst_0 : decode cX6_longestRunFirst 0 = .ok (.bipush (-2), 2) := dec_s1 oX6_longestRunFirst (of16 _) 254 rfl (sg8n (k := 2) rfl) rfl
theorem dX6_longestRunFirst_12 : decode cX6_longestRunFirst 12 = .ok (.if_icmp .ge 27, 3) := dec_s2 oX6_longestRunFirst (of162 _) 0 27 rfl (sg16p rfl) rfl
theorem dX6_longestRunFirst_2 : decode cX6_longestRunFirst 2 = .ok (.istore_n 1, 1) := dec_0 oX6_longestRunFirst (of60 _) rfl
theorem dX6_longestRunFirst_3 : decode cX6_longestRunFirst 3 = .ok (.iconst 0, 1) := dec_0 oX6_longestRunFirst (of3 _) rfl
theorem dX6_longestRunFirst_39 : decode cX6_longestRunFirst 39 = .ok (.iload_n 1, 1) := dec_0 oX6_longestRunFirst (of27 _) rfl
theorem dX6_longestRunFirst_4 : decode cX6_longestRunFirst 4 = .ok (.istore_n 2, 1) := dec_0 oX6_longestRunFirst (of61 _) rfl
theorem dX6_longestRunFirst_40 : decode cX6_longestRunFirst 40 = .ok (.ireturn, 1) := dec_0 oX6_longestRunFirst (of172 _) rfl
theorem dX6_longestRunFirst_5 : decode cX6_longestRunFirst 5 = .ok (.iconst 0, 1) := dec_0 oX6_longestRunFirst (of3 _) rfl
theorem dX6_longestRunFirst_6 : decode cX6_longestRunFirst 6 = .ok (.istore_n 3, 1) := dec_0 oX6_longestRunFirst (of62 _) rfl
theorem dX6_longestRunFirst_7 : decode cX6_longestRunFirst 7 = .ok (.iload_n 3, 1) := dec_0 oX6_longestRunFirst (of29 _) rfl
theorem dX6_longestRunFirst_8 : decode cX6_longestRunFirst 8 = .ok (.aload_n 0, 1) := dec_0 oX6_longestRunFirst (of42 _) rfl
theorem dX6_longestRunFirst_9 : decode cX6_longestRunFirst 9 = .ok (.getfield 19, 3) := dec_2 oX6_longestRunFirst (of180 _) 0 19 rfl rfl
theorem dX6_readingsAtEnd_0 : decode cX6_readingsAtEnd 0 = .ok (.iconst 0, 1) := dec_0 oX6_readingsAtEnd (of3 _) rfl
theorem dX6_readingsAtEnd_1 : decode cX6_readingsAtEnd 1 = .ok (.istore_n 1, 1) := dec_0 oX6_readingsAtEnd (of60 _) rfl
theorem dX6_readingsAtEnd_10 : decode cX6_readingsAtEnd 10 = .ok (.ifCond .lt 20, 3) := dec_s2 oX6_readingsAtEnd (of155 _) 0 20 rfl (sg16p rfl) rfl
theorem dX6_readingsAtEnd_2 : decode cX6_readingsAtEnd 2 = .ok (.aload_n 0, 1) := dec_0 oX6_readingsAtEnd (of42 _) rfl
theorem dX6_readingsAtEnd_3 : decode cX6_readingsAtEnd 3 = .ok (.getfield 19, 3) := dec_2 oX6_readingsAtEnd (of180 _) 0 19 rfl rfl
theorem dX6_readingsAtEnd_30 : decode cX6_readingsAtEnd 30 = .ok (.iload_n 1, 1) := dec_0 oX6_readingsAtEnd (of27 _) rfl
theorem dX6_readingsAtEnd_31 : decode cX6_readingsAtEnd 31 = .ok (.ireturn, 1) := dec_0 oX6_readingsAtEnd (of172 _) rfl
theorem dX6_readingsAtEnd_6 : decode cX6_readingsAtEnd 6 = .ok (.iconst 1, 1) := dec_0 oX6_readingsAtEnd (of4 _) rfl
theorem dX6_readingsAtEnd_7 : decode cX6_readingsAtEnd 7 = .ok (.isub, 1) := dec_0 oX6_readingsAtEnd (of100 _) rfl
theorem dX6_readingsAtEnd_8 : decode cX6_readingsAtEnd 8 = .ok (.istore_n 2, 1) := dec_0 oX6_readingsAtEnd (of61 _) rfl
theorem dX6_readingsAtEnd_9 : decode cX6_readingsAtEnd 9 = .ok (.iload_n 2, 1) := dec_0 oX6_readingsAtEnd (of28 _) rfl
theorem dX6_runFrom_0 : decode cX6_runFrom 0 = .ok (.iconst 0, 1) := dec_0 oX6_runFrom (of3 _) rfl
theorem dX6_runFrom_1 : decode cX6_runFrom 1 = .ok (.istore_n 2, 1) := dec_0 oX6_runFrom (of61 _) rfl
theorem dX6_runFrom_2 : decode cX6_runFrom 2 = .ok (.iload_n 1, 1) := dec_0 oX6_runFrom (of27 _) rfl
theorem dX6_runFrom_29 : decode cX6_runFrom 29 = .ok (.iload_n 2, 1) := dec_0 oX6_runFrom (of28 _) rfl
theorem dX6_runFrom_3 : decode cX6_runFrom 3 = .ok (.istore_n 3, 1) := dec_0 oX6_runFrom (of62 _) rfl
theorem dX6_runFrom_30 : decode cX6_runFrom 30 = .ok (.ireturn, 1) := dec_0 oX6_runFrom (of172 _) rfl
theorem dX6_runFrom_4 : decode cX6_runFrom 4 = .ok (.iload_n 3, 1) := dec_0 oX6_runFrom (of29 _) rfl
theorem dX6_runFrom_5 : decode cX6_runFrom 5 = .ok (.aload_n 0, 1) := dec_0 oX6_runFrom (of42 _) rfl
theorem dX6_runFrom_6 : decode cX6_runFrom 6 = .ok (.getfield 19, 3) := dec_2 oX6_runFrom (of180 _) 0 19 rfl rfl
theorem dX6_runFrom_9 : decode cX6_runFrom 9 = .ok (.if_icmp .ge 20, 3) := dec_s2 oX6_runFrom (of162 _) 0 20 rfl (sg16p rfl) rfl
theorem dX6_sumOf_0 : decode cX6_sumOf 0 = .ok (.iconst 0, 1) := dec_0 oX6_sumOf (of3 _) rfl
theorem dX6_sumOf_1 : decode cX6_sumOf 1 = .ok (.istore_n 3, 1) := dec_0 oX6_sumOf (of62 _) rfl
theorem dX6_sumOf_2 : decode cX6_sumOf 2 = .ok (.iconst 0, 1) := dec_0 oX6_sumOf (of3 _) rfl
theorem dX6_sumOf_3 : decode cX6_sumOf 3 = .ok (.istore 4, 2) := dec_1 oX6_sumOf (of54 _) 4 rfl rfl
theorem dX6_sumOf_39 : decode cX6_sumOf 39 = .ok (.iload_n 3, 1) := dec_0 oX6_sumOf (of29 _) rfl
theorem dX6_sumOf_40 : decode cX6_sumOf 40 = .ok (.ireturn, 1) := dec_0 oX6_sumOf (of172 _) rfl
theorem dX6_sumOf_5 : decode cX6_sumOf 5 = .ok (.iload 4, 2) := dec_1 oX6_sumOf (of21 _) 4 rfl rfl
theorem dX6_sumOf_7 : decode cX6_sumOf 7 = .ok (.iload_n 2, 1) := dec_0 oX6_sumOf (of28 _) rfl
theorem dX6_sumOf_8 : decode cX6_sumOf 8 = .ok (.if_icmp .ge 31, 3) := dec_s2 oX6_sumOf (of162 _) 0 31 rfl (sg16p rfl) rfl
theorem dX6_takeFrom_0 : decode cX6_takeFrom 0 = .ok (.aload_n 0, 1) := dec_0 oX6_takeFrom (of42 _) rfl
theorem dX6_takeFrom_1 : decode cX6_takeFrom 1 = .ok (.iconst 0, 1) := dec_0 oX6_takeFrom (of3 _) rfl
theorem dX6_takeFrom_10 : decode cX6_takeFrom 10 = .ok (.iconst 0, 1) := dec_0 oX6_takeFrom (of3 _) rfl
theorem dX6_takeFrom_11 : decode cX6_takeFrom 11 = .ok (.istore_n 2, 1) := dec_0 oX6_takeFrom (of61 _) rfl
theorem dX6_takeFrom_12 : decode cX6_takeFrom 12 = .ok (.iload_n 2, 1) := dec_0 oX6_takeFrom (of28 _) rfl
theorem dX6_takeFrom_13 : decode cX6_takeFrom 13 = .ok (.aload_n 1, 1) := dec_0 oX6_takeFrom (of43 _) rfl
theorem dX6_takeFrom_14 : decode cX6_takeFrom 14 = .ok (.getfield 22, 3) := dec_2 oX6_takeFrom (of180 _) 0 22 rfl rfl
theorem dX6_takeFrom_17 : decode cX6_takeFrom 17 = .ok (.if_icmp .ge 19, 3) := dec_s2 oX6_takeFrom (of162 _) 0 19 rfl (sg16p rfl) rfl
theorem dX6_takeFrom_2 : decode cX6_takeFrom 2 = .ok (.putfield 15, 3) := dec_2 oX6_takeFrom (of181 _) 0 15 rfl rfl
theorem dX6_takeFrom_36 : decode cX6_takeFrom 36 = .ok (.return_, 1) := dec_0 oX6_takeFrom (of177 _) rfl
theorem dX6_takeFrom_5 : decode cX6_takeFrom 5 = .ok (.aload_n 0, 1) := dec_0 oX6_takeFrom (of42 _) rfl
theorem dX6_takeFrom_6 : decode cX6_takeFrom 6 = .ok (.iconst 0, 1) := dec_0 oX6_takeFrom (of3 _) rfl
theorem dX6_takeFrom_7 : decode cX6_takeFrom 7 = .ok (.putfield 19, 3) := dec_2 oX6_takeFrom (of181 _) 0 19 rfl rfl
theorem dX6_valueAt_0 : decode cX6_valueAt 0 = .ok (.iload_n 1, 1) := dec_0 oX6_valueAt (of27 _) rfl
theorem dX6_valueAt_1 : decode cX6_valueAt 1 = .ok (.ifCond .lt 29, 3) := dec_s2 oX6_valueAt (of155 _) 0 29 rfl (sg16p rfl) rfl
theorem dX6_valueAt_30 : decode cX6_valueAt 30 = .ok (.sipush (-1000), 3) := dec_s2 oX6_valueAt (of17 _) 252 24 rfl (sg16n (k := 1000) rfl) rfl
theorem dX6_valueAt_33 : decode cX6_valueAt 33 = .ok (.ireturn, 1) := dec_0 oX6_valueAt (of172 _) rfl
theorem dX6_valueAt_4 : decode cX6_valueAt 4 = .ok (.iload_n 1, 1) := dec_0 oX6_valueAt (of27 _) rfl
theorem dX6_valueAt_5 : decode cX6_valueAt 5 = .ok (.aload_n 0, 1) := dec_0 oX6_valueAt (of42 _) rfl
theorem dX6_valueAt_6 : decode cX6_valueAt 6 = .ok (.getfield 19, 3) := dec_2 oX6_valueAt (of180 _) 0 19 rfl rfl
theorem dX6_valueAt_9 : decode cX6_valueAt 9 = .ok (.if_icmp .ge 21, 3) := dec_s2 oX6_valueAt (of162 _) 0 21 rfl (sg16p rfl) rfl
theorem dX7_allows_0 : decode cX7_allows 0 = .ok (.iload_n 0, 1) := dec_0 oX7_allows (of26 _) rfl
theorem dX7_allows_1 : decode cX7_allows 1 = .ok (.ifCond .lt 41, 3) := dec_s2 oX7_allows (of155 _) 0 41 rfl (sg16p rfl) rfl
theorem dX7_allows_12 : decode cX7_allows 12 = .ok (.iload_n 0, 1) := dec_0 oX7_allows (of26 _) rfl
theorem dX7_allows_13 : decode cX7_allows 13 = .ok (.getstatic 26, 3) := dec_2 oX7_allows (of178 _) 0 26 rfl rfl
theorem dX7_allows_16 : decode cX7_allows 16 = .ok (.arraylength, 1) := dec_0 oX7_allows (of190 _) rfl
theorem dX7_allows_17 : decode cX7_allows 17 = .ok (.if_icmp .ge 25, 3) := dec_s2 oX7_allows (of162 _) 0 25 rfl (sg16p rfl) rfl
theorem dX7_allows_20 : decode cX7_allows 20 = .ok (.iload_n 1, 1) := dec_0 oX7_allows (of27 _) rfl
theorem dX7_allows_21 : decode cX7_allows 21 = .ok (.getstatic 23, 3) := dec_2 oX7_allows (of178 _) 0 23 rfl rfl
theorem dX7_allows_24 : decode cX7_allows 24 = .ok (.iload_n 0, 1) := dec_0 oX7_allows (of26 _) rfl
theorem dX7_allows_25 : decode cX7_allows 25 = .ok (.iaload, 1) := dec_0 oX7_allows (of46 _) rfl
theorem dX7_allows_26 : decode cX7_allows 26 = .ok (.if_icmp .lt 16, 3) := dec_s2 oX7_allows (of161 _) 0 16 rfl (sg16p rfl) rfl
theorem dX7_allows_29 : decode cX7_allows 29 = .ok (.iload_n 1, 1) := dec_0 oX7_allows (of27 _) rfl
theorem dX7_allows_30 : decode cX7_allows 30 = .ok (.getstatic 26, 3) := dec_2 oX7_allows (of178 _) 0 26 rfl rfl
theorem dX7_allows_33 : decode cX7_allows 33 = .ok (.iload_n 0, 1) := dec_0 oX7_allows (of26 _) rfl
theorem dX7_allows_34 : decode cX7_allows 34 = .ok (.iaload, 1) := dec_0 oX7_allows (of46 _) rfl
theorem dX7_allows_35 : decode cX7_allows 35 = .ok (.if_icmp .gt 7, 3) := dec_s2 oX7_allows (of163 _) 0 7 rfl (sg16p rfl) rfl
theorem dX7_allows_38 : decode cX7_allows 38 = .ok (.iconst 1, 1) := dec_0 oX7_allows (of4 _) rfl
theorem dX7_allows_39 : decode cX7_allows 39 = .ok (.goto 4, 3) := dec_s2 oX7_allows (of167 _) 0 4 rfl (sg16p rfl) rfl
theorem dX7_allows_4 : decode cX7_allows 4 = .ok (.iload_n 0, 1) := dec_0 oX7_allows (of26 _) rfl
theorem dX7_allows_42 : decode cX7_allows 42 = .ok (.iconst 0, 1) := dec_0 oX7_allows (of3 _) rfl
theorem dX7_allows_43 : decode cX7_allows 43 = .ok (.ireturn, 1) := dec_0 oX7_allows (of172 _) rfl
theorem dX7_allows_5 : decode cX7_allows 5 = .ok (.getstatic 23, 3) := dec_2 oX7_allows (of178 _) 0 23 rfl rfl
theorem dX7_allows_8 : decode cX7_allows 8 = .ok (.arraylength, 1) := dec_0 oX7_allows (of190 _) rfl
theorem dX7_allows_9 : decode cX7_allows 9 = .ok (.if_icmp .ge 33, 3) := dec_s2 oX7_allows (of162 _) 0 33 rfl (sg16p rfl) rfl
theorem dX7_clear_0 : decode cX7_clear 0 = .ok (.iconst 0, 1) := dec_0 oX7_clear (of3 _) rfl
theorem dX7_clear_1 : decode cX7_clear 1 = .ok (.istore_n 1, 1) := dec_0 oX7_clear (of60 _) rfl
theorem dX7_clear_10 : decode cX7_clear 10 = .ok (.aload_n 0, 1) := dec_0 oX7_clear (of42 _) rfl
theorem dX7_clear_11 : decode cX7_clear 11 = .ok (.iload_n 1, 1) := dec_0 oX7_clear (of27 _) rfl
theorem dX7_clear_12 : decode cX7_clear 12 = .ok (.getstatic 9, 3) := dec_2 oX7_clear (of178 _) 0 9 rfl rfl
theorem dX7_clear_15 : decode cX7_clear 15 = .ok (.iload_n 1, 1) := dec_0 oX7_clear (of27 _) rfl
theorem dX7_clear_16 : decode cX7_clear 16 = .ok (.iaload, 1) := dec_0 oX7_clear (of46 _) rfl
theorem dX7_clear_17 : decode cX7_clear 17 = .ok (.invokevirtual 29, 3) := dec_2 oX7_clear (of182 _) 0 29 rfl rfl
theorem dX7_clear_2 : decode cX7_clear 2 = .ok (.iload_n 1, 1) := dec_0 oX7_clear (of27 _) rfl
theorem dX7_clear_20 : decode cX7_clear 20 = .ok (.iinc 1 1, 3) := dec_ii oX7_clear (of132 _) 1 1 rfl (sg8p rfl) rfl
theorem dX7_clear_23 : decode cX7_clear 23 = .ok (.goto (-21), 3) := dec_s2 oX7_clear (of167 _) 255 235 rfl (sg16n (k := 21) rfl) rfl
theorem dX7_clear_26 : decode cX7_clear 26 = .ok (.return_, 1) := dec_0 oX7_clear (of177 _) rfl
theorem dX7_clear_3 : decode cX7_clear 3 = .ok (.getstatic 9, 3) := dec_2 oX7_clear (of178 _) 0 9 rfl rfl
theorem dX7_clear_6 : decode cX7_clear 6 = .ok (.arraylength, 1) := dec_0 oX7_clear (of190 _) rfl
theorem dX7_clear_7 : decode cX7_clear 7 = .ok (.if_icmp .ge 19, 3) := dec_s2 oX7_clear (of162 _) 0 19 rfl (sg16p rfl) rfl
theorem dX7_init_0 : decode cX7_init 0 = .ok (.aload_n 0, 1) := dec_0 oX7_init (of42 _) rfl
theorem dX7_init_1 : decode cX7_init 1 = .ok (.invokespecial 3, 3) := dec_2 oX7_init (of183 _) 0 3 rfl rfl
theorem dX7_init_11 : decode cX7_init 11 = .ok (.checkcast 16, 3) := dec_2 oX7_init (of192 _) 0 16 rfl rfl
theorem dX7_init_14 : decode cX7_init 14 = .ok (.putfield 20, 3) := dec_2 oX7_init (of181 _) 0 20 rfl rfl
theorem dX7_init_17 : decode cX7_init 17 = .ok (.return_, 1) := dec_0 oX7_init (of177 _) rfl
theorem dX7_init_4 : decode cX7_init 4 = .ok (.aload_n 0, 1) := dec_0 oX7_init (of42 _) rfl
theorem dX7_init_5 : decode cX7_init 5 = .ok (.getstatic 9, 3) := dec_2 oX7_init (of178 _) 0 9 rfl rfl
theorem dX7_init_8 : decode cX7_init 8 = .ok (.invokevirtual 15, 3) := dec_2 oX7_init (of182 _) 0 15 rfl rfl
theorem dX7_put_0 : decode cX7_put 0 = .ok (.iload_n 1, 1) := dec_0 oX7_put (of27 _) rfl
theorem dX7_put_1 : decode cX7_put 1 = .ok (.ifCond .lt 19, 3) := dec_s2 oX7_put (of155 _) 0 19 rfl (sg16p rfl) rfl
theorem dX7_put_10 : decode cX7_put 10 = .ok (.if_icmp .ge 10, 3) := dec_s2 oX7_put (of162 _) 0 10 rfl (sg16p rfl) rfl
theorem dX7_put_13 : decode cX7_put 13 = .ok (.aload_n 0, 1) := dec_0 oX7_put (of42 _) rfl
theorem dX7_put_14 : decode cX7_put 14 = .ok (.getfield 20, 3) := dec_2 oX7_put (of180 _) 0 20 rfl rfl
theorem dX7_put_17 : decode cX7_put 17 = .ok (.iload_n 1, 1) := dec_0 oX7_put (of27 _) rfl
theorem dX7_put_18 : decode cX7_put 18 = .ok (.iload_n 2, 1) := dec_0 oX7_put (of28 _) rfl
theorem dX7_put_19 : decode cX7_put 19 = .ok (.iastore, 1) := dec_0 oX7_put (of79 _) rfl
theorem dX7_put_20 : decode cX7_put 20 = .ok (.return_, 1) := dec_0 oX7_put (of177 _) rfl
theorem dX7_put_4 : decode cX7_put 4 = .ok (.iload_n 1, 1) := dec_0 oX7_put (of27 _) rfl
theorem dX7_put_5 : decode cX7_put 5 = .ok (.aload_n 0, 1) := dec_0 oX7_put (of42 _) rfl
theorem dX7_put_6 : decode cX7_put 6 = .ok (.getfield 20, 3) := dec_2 oX7_put (of180 _) 0 20 rfl rfl
theorem dX7_put_9 : decode cX7_put 9 = .ok (.arraylength, 1) := dec_0 oX7_put (of190 _) rfl
theorem dX7_takeFrom_0 : decode cX7_takeFrom 0 = .ok (.iconst 0, 1) := dec_0 oX7_takeFrom (of3 _) rfl
theorem dX7_takeFrom_1 : decode cX7_takeFrom 1 = .ok (.istore_n 2, 1) := dec_0 oX7_takeFrom (of61 _) rfl
theorem dX7_takeFrom_11 : decode cX7_takeFrom 11 = .ok (.aload_n 0, 1) := dec_0 oX7_takeFrom (of42 _) rfl
theorem dX7_takeFrom_12 : decode cX7_takeFrom 12 = .ok (.getfield 20, 3) := dec_2 oX7_takeFrom (of180 _) 0 20 rfl rfl
theorem dX7_takeFrom_15 : decode cX7_takeFrom 15 = .ok (.iload_n 2, 1) := dec_0 oX7_takeFrom (of28 _) rfl
theorem dX7_takeFrom_16 : decode cX7_takeFrom 16 = .ok (.aload_n 1, 1) := dec_0 oX7_takeFrom (of43 _) rfl
theorem dX7_takeFrom_17 : decode cX7_takeFrom 17 = .ok (.iload_n 2, 1) := dec_0 oX7_takeFrom (of28 _) rfl
theorem dX7_takeFrom_18 : decode cX7_takeFrom 18 = .ok (.invokevirtual 33, 3) := dec_2 oX7_takeFrom (of182 _) 0 33 rfl rfl
theorem dX7_takeFrom_2 : decode cX7_takeFrom 2 = .ok (.iload_n 2, 1) := dec_0 oX7_takeFrom (of28 _) rfl
theorem dX7_takeFrom_21 : decode cX7_takeFrom 21 = .ok (.iastore, 1) := dec_0 oX7_takeFrom (of79 _) rfl
theorem dX7_takeFrom_22 : decode cX7_takeFrom 22 = .ok (.iinc 2 1, 3) := dec_ii oX7_takeFrom (of132 _) 2 1 rfl (sg8p rfl) rfl
theorem dX7_takeFrom_25 : decode cX7_takeFrom 25 = .ok (.goto (-23), 3) := dec_s2 oX7_takeFrom (of167 _) 255 233 rfl (sg16n (k := 23) rfl) rfl
theorem dX7_takeFrom_28 : decode cX7_takeFrom 28 = .ok (.return_, 1) := dec_0 oX7_takeFrom (of177 _) rfl
theorem dX7_takeFrom_3 : decode cX7_takeFrom 3 = .ok (.aload_n 0, 1) := dec_0 oX7_takeFrom (of42 _) rfl
theorem dX7_takeFrom_4 : decode cX7_takeFrom 4 = .ok (.getfield 20, 3) := dec_2 oX7_takeFrom (of180 _) 0 20 rfl rfl
theorem dX7_takeFrom_7 : decode cX7_takeFrom 7 = .ok (.arraylength, 1) := dec_0 oX7_takeFrom (of190 _) rfl
theorem dX7_takeFrom_8 : decode cX7_takeFrom 8 = .ok (.if_icmp .ge 20, 3) := dec_s2 oX7_takeFrom (of162 _) 0 20 rfl (sg16p rfl) rfl
theorem dX7_valueOf_0 : decode cX7_valueOf 0 = .ok (.iload_n 1, 1) := dec_0 oX7_valueOf (of27 _) rfl
theorem dX7_valueOf_1 : decode cX7_valueOf 1 = .ok (.ifCond .lt 21, 3) := dec_s2 oX7_valueOf (of155 _) 0 21 rfl (sg16p rfl) rfl
theorem dX7_valueOf_10 : decode cX7_valueOf 10 = .ok (.if_icmp .ge 12, 3) := dec_s2 oX7_valueOf (of162 _) 0 12 rfl (sg16p rfl) rfl
theorem dX7_valueOf_13 : decode cX7_valueOf 13 = .ok (.aload_n 0, 1) := dec_0 oX7_valueOf (of42 _) rfl
theorem dX7_valueOf_14 : decode cX7_valueOf 14 = .ok (.getfield 20, 3) := dec_2 oX7_valueOf (of180 _) 0 20 rfl rfl
theorem dX7_valueOf_17 : decode cX7_valueOf 17 = .ok (.iload_n 1, 1) := dec_0 oX7_valueOf (of27 _) rfl
theorem dX7_valueOf_18 : decode cX7_valueOf 18 = .ok (.iaload, 1) := dec_0 oX7_valueOf (of46 _) rfl
theorem dX7_valueOf_19 : decode cX7_valueOf 19 = .ok (.goto 4, 3) := dec_s2 oX7_valueOf (of167 _) 0 4 rfl (sg16p rfl) rfl
theorem dX7_valueOf_22 : decode cX7_valueOf 22 = .ok (.iconst (-1), 1) := dec_0 oX7_valueOf (of2 _) rfl
theorem dX7_valueOf_23 : decode cX7_valueOf 23 = .ok (.ireturn, 1) := dec_0 oX7_valueOf (of172 _) rfl
theorem dX7_valueOf_4 : decode cX7_valueOf 4 = .ok (.iload_n 1, 1) := dec_0 oX7_valueOf (of27 _) rfl
theorem dX7_valueOf_5 : decode cX7_valueOf 5 = .ok (.aload_n 0, 1) := dec_0 oX7_valueOf (of42 _) rfl
theorem dX7_valueOf_6 : decode cX7_valueOf 6 = .ok (.getfield 20, 3) := dec_2 oX7_valueOf (of180 _) 0 20 rfl rfl
theorem dX7_valueOf_9 : decode cX7_valueOf 9 = .ok (.arraylength, 1) := dec_0 oX7_valueOf (of190 _) rfl
theorem dX8_clear_0 : decode cX8_clear 0 = .ok (.aload_n 0, 1) := dec_0 oX8_clear (of42 _) rfl
theorem dX8_clear_1 : decode cX8_clear 1 = .ok (.iconst 0, 1) := dec_0 oX8_clear (of3 _) rfl
theorem dX8_clear_12 : decode cX8_clear 12 = .ok (.return_, 1) := dec_0 oX8_clear (of177 _) rfl
theorem dX8_clear_2 : decode cX8_clear 2 = .ok (.putfield 22, 3) := dec_2 oX8_clear (of181 _) 0 22 rfl rfl
theorem dX8_clear_5 : decode cX8_clear 5 = .ok (.aload_n 0, 1) := dec_0 oX8_clear (of42 _) rfl
theorem dX8_clear_6 : decode cX8_clear 6 = .ok (.getfield 18, 3) := dec_2 oX8_clear (of180 _) 0 18 rfl rfl
theorem dX8_clear_9 : decode cX8_clear 9 = .ok (.invokevirtual 26, 3) := dec_2 oX8_clear (of182 _) 0 26 rfl rfl
theorem dX8_init_0 : decode cX8_init 0 = .ok (.aload_n 0, 1) := dec_0 oX8_init (of42 _) rfl
theorem dX8_init_1 : decode cX8_init 1 = .ok (.invokespecial 3, 3) := dec_2 oX8_init (of183 _) 0 3 rfl rfl
theorem dX8_init_10 : decode cX8_init 10 = .ok (.putfield 9, 3) := dec_2 oX8_init (of181 _) 0 9 rfl rfl
theorem dX8_init_13 : decode cX8_init 13 = .ok (.aload_n 0, 1) := dec_0 oX8_init (of42 _) rfl
theorem dX8_init_14 : decode cX8_init 14 = .ok (.new 15, 3) := dec_2 oX8_init (of187 _) 0 15 rfl rfl
theorem dX8_init_17 : decode cX8_init 17 = .ok (.dup, 1) := dec_0 oX8_init (of89 _) rfl
theorem dX8_init_18 : decode cX8_init 18 = .ok (.invokespecial 17, 3) := dec_2 oX8_init (of183 _) 0 17 rfl rfl
theorem dX8_init_21 : decode cX8_init 21 = .ok (.putfield 18, 3) := dec_2 oX8_init (of181 _) 0 18 rfl rfl
theorem dX8_init_24 : decode cX8_init 24 = .ok (.return_, 1) := dec_0 oX8_init (of177 _) rfl
theorem dX8_init_4 : decode cX8_init 4 = .ok (.aload_n 0, 1) := dec_0 oX8_init (of42 _) rfl
theorem dX8_init_5 : decode cX8_init 5 = .ok (.sipush 160, 3) := dec_s2 oX8_init (of17 _) 0 160 rfl (sg16p rfl) rfl
theorem dX8_init_8 : decode cX8_init 8 = .ok (.newarray .int, 2) := by decide +kernel
theorem dX9_bringAll_0 : decode cX9_bringAll 0 = .ok (.iconst 0, 1) := dec_0 oX9_bringAll (of3 _) rfl
theorem dX9_bringAll_1 : decode cX9_bringAll 1 = .ok (.istore_n 2, 1) := dec_0 oX9_bringAll (of61 _) rfl
theorem dX9_bringAll_10 : decode cX9_bringAll 10 = .ok (.getfield 15, 3) := dec_2 oX9_bringAll (of180 _) 0 15 rfl rfl
theorem dX9_bringAll_13 : decode cX9_bringAll 13 = .ok (.iload_n 2, 1) := dec_0 oX9_bringAll (of28 _) rfl
theorem dX9_bringAll_14 : decode cX9_bringAll 14 = .ok (.aload_n 0, 1) := dec_0 oX9_bringAll (of42 _) rfl
theorem dX9_bringAll_15 : decode cX9_bringAll 15 = .ok (.getfield 19, 3) := dec_2 oX9_bringAll (of180 _) 0 19 rfl rfl
theorem dX9_bringAll_18 : decode cX9_bringAll 18 = .ok (.getfield 30, 3) := dec_2 oX9_bringAll (of180 _) 0 30 rfl rfl
theorem dX9_bringAll_2 : decode cX9_bringAll 2 = .ok (.iload_n 2, 1) := dec_0 oX9_bringAll (of28 _) rfl
theorem dX9_bringAll_21 : decode cX9_bringAll 21 = .ok (.iload_n 2, 1) := dec_0 oX9_bringAll (of28 _) rfl
theorem dX9_bringAll_22 : decode cX9_bringAll 22 = .ok (.iload_n 1, 1) := dec_0 oX9_bringAll (of27 _) rfl
theorem dX9_bringAll_23 : decode cX9_bringAll 23 = .ok (.invokevirtual 34, 3) := dec_2 oX9_bringAll (of182 _) 0 34 rfl rfl
theorem dX9_bringAll_26 : decode cX9_bringAll 26 = .ok (.bastore, 1) := dec_0 oX9_bringAll (of84 _) rfl
theorem dX9_bringAll_27 : decode cX9_bringAll 27 = .ok (.aload_n 0, 1) := dec_0 oX9_bringAll (of42 _) rfl
theorem dX9_bringAll_28 : decode cX9_bringAll 28 = .ok (.getfield 15, 3) := dec_2 oX9_bringAll (of180 _) 0 15 rfl rfl
theorem dX9_bringAll_3 : decode cX9_bringAll 3 = .ok (.sipush 160, 3) := dec_s2 oX9_bringAll (of17 _) 0 160 rfl (sg16p rfl) rfl
theorem dX9_bringAll_31 : decode cX9_bringAll 31 = .ok (.iload_n 2, 1) := dec_0 oX9_bringAll (of28 _) rfl
theorem dX9_bringAll_32 : decode cX9_bringAll 32 = .ok (.baload, 1) := dec_0 oX9_bringAll (of51 _) rfl
theorem dX9_bringAll_33 : decode cX9_bringAll 33 = .ok (.ifCond .eq 27, 3) := dec_s2 oX9_bringAll (of153 _) 0 27 rfl (sg16p rfl) rfl
theorem dX9_bringAll_6 : decode cX9_bringAll 6 = .ok (.if_icmp .ge 60, 3) := dec_s2 oX9_bringAll (of162 _) 0 60 rfl (sg16p rfl) rfl
theorem dX9_bringAll_60 : decode cX9_bringAll 60 = .ok (.iinc 2 1, 3) := dec_ii oX9_bringAll (of132 _) 2 1 rfl (sg8p rfl) rfl
theorem dX9_bringAll_63 : decode cX9_bringAll 63 = .ok (.goto (-61), 3) := dec_s2 oX9_bringAll (of167 _) 255 195 rfl (sg16n (k := 61) rfl) rfl
theorem dX9_bringAll_66 : decode cX9_bringAll 66 = .ok (.return_, 1) := dec_0 oX9_bringAll (of177 _) rfl
theorem dX9_bringAll_9 : decode cX9_bringAll 9 = .ok (.aload_n 0, 1) := dec_0 oX9_bringAll (of42 _) rfl
theorem dX9_findOdd_0 : decode cX9_findOdd 0 = .ok (.aload_n 0, 1) := dec_0 oX9_findOdd (of42 _) rfl
theorem dX9_findOdd_1 : decode cX9_findOdd 1 = .ok (.bipush (-2), 2) := dec_s1 oX9_findOdd (of16 _) 254 rfl (sg8n (k := 2) rfl) rfl
theorem dX9_findOdd_12 : decode cX9_findOdd 12 = .ok (.aload_n 0, 1) := dec_0 oX9_findOdd (of42 _) rfl
theorem dX9_findOdd_13 : decode cX9_findOdd 13 = .ok (.iload_n 1, 1) := dec_0 oX9_findOdd (of27 _) rfl
theorem dX9_findOdd_14 : decode cX9_findOdd 14 = .ok (.invokevirtual 50, 3) := dec_2 oX9_findOdd (of182 _) 0 50 rfl rfl
theorem dX9_findOdd_17 : decode cX9_findOdd 17 = .ok (.iconst 0, 1) := dec_0 oX9_findOdd (of3 _) rfl
theorem dX9_findOdd_18 : decode cX9_findOdd 18 = .ok (.istore_n 2, 1) := dec_0 oX9_findOdd (of61 _) rfl
theorem dX9_findOdd_19 : decode cX9_findOdd 19 = .ok (.iload_n 2, 1) := dec_0 oX9_findOdd (of28 _) rfl
theorem dX9_findOdd_20 : decode cX9_findOdd 20 = .ok (.sipush 160, 3) := dec_s2 oX9_findOdd (of17 _) 0 160 rfl (sg16p rfl) rfl
theorem dX9_findOdd_23 : decode cX9_findOdd 23 = .ok (.if_icmp .ge 62, 3) := dec_s2 oX9_findOdd (of162 _) 0 62 rfl (sg16p rfl) rfl
theorem dX9_findOdd_26 : decode cX9_findOdd 26 = .ok (.aload_n 0, 1) := dec_0 oX9_findOdd (of42 _) rfl
theorem dX9_findOdd_27 : decode cX9_findOdd 27 = .ok (.getfield 15, 3) := dec_2 oX9_findOdd (of180 _) 0 15 rfl rfl
theorem dX9_findOdd_3 : decode cX9_findOdd 3 = .ok (.putfield 98, 3) := dec_2 oX9_findOdd (of181 _) 0 98 rfl rfl
theorem dX9_findOdd_30 : decode cX9_findOdd 30 = .ok (.iload_n 2, 1) := dec_0 oX9_findOdd (of28 _) rfl
theorem dX9_findOdd_31 : decode cX9_findOdd 31 = .ok (.baload, 1) := dec_0 oX9_findOdd (of51 _) rfl
theorem dX9_findOdd_32 : decode cX9_findOdd 32 = .ok (.ifCond .ne 6, 3) := dec_s2 oX9_findOdd (of154 _) 0 6 rfl (sg16p rfl) rfl
theorem dX9_findOdd_35 : decode cX9_findOdd 35 = .ok (.goto 44, 3) := dec_s2 oX9_findOdd (of167 _) 0 44 rfl (sg16p rfl) rfl
theorem dX9_findOdd_6 : decode cX9_findOdd 6 = .ok (.aload_n 0, 1) := dec_0 oX9_findOdd (of42 _) rfl
theorem dX9_findOdd_7 : decode cX9_findOdd 7 = .ok (.bipush (-2), 2) := dec_s1 oX9_findOdd (of16 _) 254 rfl (sg8n (k := 2) rfl) rfl
theorem dX9_findOdd_79 : decode cX9_findOdd 79 = .ok (.iinc 2 1, 3) := dec_ii oX9_findOdd (of132 _) 2 1 rfl (sg8p rfl) rfl
theorem dX9_findOdd_82 : decode cX9_findOdd 82 = .ok (.goto (-63), 3) := dec_s2 oX9_findOdd (of167 _) 255 193 rfl (sg16n (k := 63) rfl) rfl
theorem dX9_findOdd_85 : decode cX9_findOdd 85 = .ok (.return_, 1) := dec_0 oX9_findOdd (of177 _) rfl
theorem dX9_findOdd_9 : decode cX9_findOdd 9 = .ok (.putfield 101, 3) := dec_2 oX9_findOdd (of181 _) 0 101 rfl rfl
theorem dX9_findPair_0 : decode cX9_findPair 0 = .ok (.aload_n 0, 1) := dec_0 oX9_findPair (of42 _) rfl
theorem dX9_findPair_1 : decode cX9_findPair 1 = .ok (.bipush (-2), 2) := dec_s1 oX9_findPair (of16 _) 254 rfl (sg8n (k := 2) rfl) rfl
theorem dX9_findPair_12 : decode cX9_findPair 12 = .ok (.aload_n 0, 1) := dec_0 oX9_findPair (of42 _) rfl
theorem dX9_findPair_13 : decode cX9_findPair 13 = .ok (.bipush (-2), 2) := dec_s1 oX9_findPair (of16 _) 254 rfl (sg8n (k := 2) rfl) rfl
theorem dX9_findPair_15 : decode cX9_findPair 15 = .ok (.putfield 92, 3) := dec_2 oX9_findPair (of181 _) 0 92 rfl rfl
theorem dX9_findPair_18 : decode cX9_findPair 18 = .ok (.aload_n 0, 1) := dec_0 oX9_findPair (of42 _) rfl
theorem dX9_findPair_19 : decode cX9_findPair 19 = .ok (.iload_n 1, 1) := dec_0 oX9_findPair (of27 _) rfl
theorem dX9_findPair_20 : decode cX9_findPair 20 = .ok (.invokevirtual 50, 3) := dec_2 oX9_findPair (of182 _) 0 50 rfl rfl
theorem dX9_findPair_23 : decode cX9_findPair 23 = .ok (.iconst 0, 1) := dec_0 oX9_findPair (of3 _) rfl
theorem dX9_findPair_24 : decode cX9_findPair 24 = .ok (.istore_n 2, 1) := dec_0 oX9_findPair (of61 _) rfl
theorem dX9_findPair_25 : decode cX9_findPair 25 = .ok (.iload_n 2, 1) := dec_0 oX9_findPair (of28 _) rfl
theorem dX9_findPair_26 : decode cX9_findPair 26 = .ok (.sipush 160, 3) := dec_s2 oX9_findPair (of17 _) 0 160 rfl (sg16p rfl) rfl
theorem dX9_findPair_29 : decode cX9_findPair 29 = .ok (.if_icmp .ge 39, 3) := dec_s2 oX9_findPair (of162 _) 0 39 rfl (sg16p rfl) rfl
theorem dX9_findPair_3 : decode cX9_findPair 3 = .ok (.putfield 86, 3) := dec_2 oX9_findPair (of181 _) 0 86 rfl rfl
theorem dX9_findPair_32 : decode cX9_findPair 32 = .ok (.aload_n 0, 1) := dec_0 oX9_findPair (of42 _) rfl
theorem dX9_findPair_33 : decode cX9_findPair 33 = .ok (.getfield 15, 3) := dec_2 oX9_findPair (of180 _) 0 15 rfl rfl
theorem dX9_findPair_36 : decode cX9_findPair 36 = .ok (.iload_n 2, 1) := dec_0 oX9_findPair (of28 _) rfl
theorem dX9_findPair_37 : decode cX9_findPair 37 = .ok (.baload, 1) := dec_0 oX9_findPair (of51 _) rfl
theorem dX9_findPair_38 : decode cX9_findPair 38 = .ok (.ifCond .eq 24, 3) := dec_s2 oX9_findPair (of153 _) 0 24 rfl (sg16p rfl) rfl
theorem dX9_findPair_6 : decode cX9_findPair 6 = .ok (.aload_n 0, 1) := dec_0 oX9_findPair (of42 _) rfl
theorem dX9_findPair_62 : decode cX9_findPair 62 = .ok (.iinc 2 1, 3) := dec_ii oX9_findPair (of132 _) 2 1 rfl (sg8p rfl) rfl
theorem dX9_findPair_65 : decode cX9_findPair 65 = .ok (.goto (-40), 3) := dec_s2 oX9_findPair (of167 _) 255 216 rfl (sg16n (k := 40) rfl) rfl
theorem dX9_findPair_68 : decode cX9_findPair 68 = .ok (.return_, 1) := dec_0 oX9_findPair (of177 _) rfl
theorem dX9_findPair_7 : decode cX9_findPair 7 = .ok (.bipush (-2), 2) := dec_s1 oX9_findPair (of16 _) 254 rfl (sg8n (k := 2) rfl) rfl
theorem dX9_findPair_9 : decode cX9_findPair 9 = .ok (.putfield 89, 3) := dec_2 oX9_findPair (of181 _) 0 89 rfl rfl
theorem dX9_init_0 : decode cX9_init 0 = .ok (.aload_n 0, 1) := dec_0 oX9_init (of42 _) rfl
theorem dX9_init_1 : decode cX9_init 1 = .ok (.invokespecial 3, 3) := dec_2 oX9_init (of183 _) 0 3 rfl rfl
theorem dX9_init_10 : decode cX9_init 10 = .ok (.putfield 9, 3) := dec_2 oX9_init (of181 _) 0 9 rfl rfl
theorem dX9_init_13 : decode cX9_init 13 = .ok (.aload_n 0, 1) := dec_0 oX9_init (of42 _) rfl
theorem dX9_init_14 : decode cX9_init 14 = .ok (.sipush 160, 3) := dec_s2 oX9_init (of17 _) 0 160 rfl (sg16p rfl) rfl
theorem dX9_init_17 : decode cX9_init 17 = .ok (.newarray .boolean, 2) := by decide +kernel
theorem dX9_init_19 : decode cX9_init 19 = .ok (.putfield 15, 3) := dec_2 oX9_init (of181 _) 0 15 rfl rfl
theorem dX9_init_22 : decode cX9_init 22 = .ok (.aload_n 0, 1) := dec_0 oX9_init (of42 _) rfl
theorem dX9_init_23 : decode cX9_init 23 = .ok (.aload_n 1, 1) := dec_0 oX9_init (of43 _) rfl
theorem dX9_init_24 : decode cX9_init 24 = .ok (.putfield 19, 3) := dec_2 oX9_init (of181 _) 0 19 rfl rfl
theorem dX9_init_27 : decode cX9_init 27 = .ok (.aload_n 0, 1) := dec_0 oX9_init (of42 _) rfl
theorem dX9_init_28 : decode cX9_init 28 = .ok (.aload_n 1, 1) := dec_0 oX9_init (of43 _) rfl
theorem dX9_init_29 : decode cX9_init 29 = .ok (.getfield 23, 3) := dec_2 oX9_init (of180 _) 0 23 rfl rfl
theorem dX9_init_32 : decode cX9_init 32 = .ok (.putfield 29, 3) := dec_2 oX9_init (of181 _) 0 29 rfl rfl
theorem dX9_init_35 : decode cX9_init 35 = .ok (.return_, 1) := dec_0 oX9_init (of177 _) rfl
theorem dX9_init_4 : decode cX9_init 4 = .ok (.aload_n 0, 1) := dec_0 oX9_init (of42 _) rfl
theorem dX9_init_5 : decode cX9_init 5 = .ok (.sipush 2560, 3) := dec_s2 oX9_init (of17 _) 10 0 rfl (sg16p rfl) rfl
theorem dX9_init_8 : decode cX9_init 8 = .ok (.newarray .int, 2) := by decide +kernel
end
