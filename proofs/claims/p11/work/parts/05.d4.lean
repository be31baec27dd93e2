theorem dX12_tellQuery_1 : decode cX12_tellQuery 1 = .ok (.iconst 0, 1) := dec_0 oX12_tellQuery (of3 _) rfl
theorem dX12_tellQuery_2 : decode cX12_tellQuery 2 = .ok (.putfield 170, 3) := dec_2 oX12_tellQuery (of181 _) 0 170 rfl rfl
theorem dX12_tellQuery_5 : decode cX12_tellQuery 5 = .ok (.iconst 5, 1) := dec_0 oX12_tellQuery (of8 _) rfl
theorem dX12_tellQuery_6 : decode cX12_tellQuery 6 = .ok (.aload_n 0, 1) := dec_0 oX12_tellQuery (of42 _) rfl
theorem dX12_tellQuery_7 : decode cX12_tellQuery 7 = .ok (.getfield 200, 3) := dec_2 oX12_tellQuery (of180 _) 0 200 rfl rfl
theorem dX12_tellQuery_10 : decode cX12_tellQuery 10 = .ok (.imul, 1) := dec_0 oX12_tellQuery (of104 _) rfl
theorem dX12_tellQuery_11 : decode cX12_tellQuery 11 = .ok (.aload_n 0, 1) := dec_0 oX12_tellQuery (of42 _) rfl
theorem dX12_tellQuery_12 : decode cX12_tellQuery 12 = .ok (.getfield 49, 3) := dec_2 oX12_tellQuery (of180 _) 0 49 rfl rfl
theorem dX12_tellQuery_15 : decode cX12_tellQuery 15 = .ok (.aload_n 0, 1) := dec_0 oX12_tellQuery (of42 _) rfl
theorem dX12_tellQuery_16 : decode cX12_tellQuery 16 = .ok (.getfield 200, 3) := dec_2 oX12_tellQuery (of180 _) 0 200 rfl rfl
theorem dX12_tellQuery_19 : decode cX12_tellQuery 19 = .ok (.iaload, 1) := dec_0 oX12_tellQuery (of46 _) rfl
theorem dX12_tellQuery_20 : decode cX12_tellQuery 20 = .ok (.iadd, 1) := dec_0 oX12_tellQuery (of96 _) rfl
theorem dX12_tellQuery_21 : decode cX12_tellQuery 21 = .ok (.istore_n 1, 1) := dec_0 oX12_tellQuery (of60 _) rfl
theorem dX12_tellQuery_22 : decode cX12_tellQuery 22 = .ok (.aload_n 0, 1) := dec_0 oX12_tellQuery (of42 _) rfl
theorem dX12_tellQuery_23 : decode cX12_tellQuery 23 = .ok (.getfield 164, 3) := dec_2 oX12_tellQuery (of180 _) 0 164 rfl rfl
theorem dX12_tellQuery_26 : decode cX12_tellQuery 26 = .ok (.istore_n 2, 1) := dec_0 oX12_tellQuery (of61 _) rfl
theorem dX12_tellQuery_27 : decode cX12_tellQuery 27 = .ok (.aload_n 0, 1) := dec_0 oX12_tellQuery (of42 _) rfl
theorem dX12_tellQuery_28 : decode cX12_tellQuery 28 = .ok (.iconst 1, 1) := dec_0 oX12_tellQuery (of4 _) rfl
theorem dX12_tellQuery_29 : decode cX12_tellQuery 29 = .ok (.invokevirtual 216, 3) := dec_2 oX12_tellQuery (of182 _) 0 216 rfl rfl
theorem dX12_tellQuery_32 : decode cX12_tellQuery 32 = .ok (.iconst 0, 1) := dec_0 oX12_tellQuery (of3 _) rfl
theorem dX12_tellQuery_33 : decode cX12_tellQuery 33 = .ok (.istore_n 3, 1) := dec_0 oX12_tellQuery (of62 _) rfl
theorem dX12_tellQuery_34 : decode cX12_tellQuery 34 = .ok (.iload_n 3, 1) := dec_0 oX12_tellQuery (of29 _) rfl
theorem dX12_tellQuery_35 : decode cX12_tellQuery 35 = .ok (.aload_n 0, 1) := dec_0 oX12_tellQuery (of42 _) rfl
theorem dX12_tellQuery_36 : decode cX12_tellQuery 36 = .ok (.getfield 203, 3) := dec_2 oX12_tellQuery (of180 _) 0 203 rfl rfl
theorem dX12_tellQuery_39 : decode cX12_tellQuery 39 = .ok (.if_icmp .ge 38, 3) := dec_s2 oX12_tellQuery (of162 _) 0 38 rfl (sg16p rfl) rfl
theorem dX12_tellQuery_42 : decode cX12_tellQuery 42 = .ok (.aload_n 0, 1) := dec_0 oX12_tellQuery (of42 _) rfl
theorem dX12_tellQuery_43 : decode cX12_tellQuery 43 = .ok (.getfield 161, 3) := dec_2 oX12_tellQuery (of180 _) 0 161 rfl rfl
theorem dX12_tellQuery_46 : decode cX12_tellQuery 46 = .ok (.ifCond .ne 31, 3) := dec_s2 oX12_tellQuery (of154 _) 0 31 rfl (sg16p rfl) rfl
theorem dX12_tellQuery_49 : decode cX12_tellQuery 49 = .ok (.aload_n 0, 1) := dec_0 oX12_tellQuery (of42 _) rfl
theorem dX12_tellQuery_50 : decode cX12_tellQuery 50 = .ok (.getfield 40, 3) := dec_2 oX12_tellQuery (of180 _) 0 40 rfl rfl
theorem dX12_tellQuery_53 : decode cX12_tellQuery 53 = .ok (.iload_n 3, 1) := dec_0 oX12_tellQuery (of29 _) rfl
theorem dX12_tellQuery_54 : decode cX12_tellQuery 54 = .ok (.laload, 1) := dec_0 oX12_tellQuery (of47 _) rfl
theorem dX12_tellQuery_55 : decode cX12_tellQuery 55 = .ok (.aload_n 0, 1) := dec_0 oX12_tellQuery (of42 _) rfl
theorem dX12_tellQuery_56 : decode cX12_tellQuery 56 = .ok (.getfield 30, 3) := dec_2 oX12_tellQuery (of180 _) 0 30 rfl rfl
theorem dX12_tellQuery_59 : decode cX12_tellQuery 59 = .ok (.iload_n 2, 1) := dec_0 oX12_tellQuery (of28 _) rfl
theorem dX12_tellQuery_60 : decode cX12_tellQuery 60 = .ok (.laload, 1) := dec_0 oX12_tellQuery (of47 _) rfl
theorem dX12_tellQuery_61 : decode cX12_tellQuery 61 = .ok (.lcmp, 1) := dec_0 oX12_tellQuery (of148 _) rfl
theorem dX12_tellQuery_62 : decode cX12_tellQuery 62 = .ok (.ifCond .ne 9, 3) := dec_s2 oX12_tellQuery (of154 _) 0 9 rfl (sg16p rfl) rfl
theorem dX12_tellQuery_65 : decode cX12_tellQuery 65 = .ok (.aload_n 0, 1) := dec_0 oX12_tellQuery (of42 _) rfl
theorem dX12_tellQuery_66 : decode cX12_tellQuery 66 = .ok (.iconst 3, 1) := dec_0 oX12_tellQuery (of6 _) rfl
theorem dX12_tellQuery_67 : decode cX12_tellQuery 67 = .ok (.iload_n 2, 1) := dec_0 oX12_tellQuery (of28 _) rfl
theorem dX12_tellQuery_68 : decode cX12_tellQuery 68 = .ok (.invokevirtual 231, 3) := dec_2 oX12_tellQuery (of182 _) 0 231 rfl rfl
theorem dX12_tellQuery_71 : decode cX12_tellQuery 71 = .ok (.iinc 3 1, 3) := dec_ii oX12_tellQuery (of132 _) 3 1 rfl (sg8p rfl) rfl
theorem dX12_tellQuery_74 : decode cX12_tellQuery 74 = .ok (.goto (-40), 3) := dec_s2 oX12_tellQuery (of167 _) 255 216 rfl (sg16n (k := 40) rfl) rfl
theorem dX12_tellQuery_77 : decode cX12_tellQuery 77 = .ok (.aload_n 0, 1) := dec_0 oX12_tellQuery (of42 _) rfl
theorem dX12_tellQuery_78 : decode cX12_tellQuery 78 = .ok (.getfield 52, 3) := dec_2 oX12_tellQuery (of180 _) 0 52 rfl rfl
theorem dX12_tellQuery_81 : decode cX12_tellQuery 81 = .ok (.iload_n 1, 1) := dec_0 oX12_tellQuery (of27 _) rfl
theorem dX12_tellQuery_82 : decode cX12_tellQuery 82 = .ok (.iconst 0, 1) := dec_0 oX12_tellQuery (of3 _) rfl
theorem dX12_tellQuery_83 : decode cX12_tellQuery 83 = .ok (.iastore, 1) := dec_0 oX12_tellQuery (of79 _) rfl
theorem dX12_tellQuery_84 : decode cX12_tellQuery 84 = .ok (.aload_n 0, 1) := dec_0 oX12_tellQuery (of42 _) rfl
theorem dX12_tellQuery_85 : decode cX12_tellQuery 85 = .ok (.invokevirtual 235, 3) := dec_2 oX12_tellQuery (of182 _) 0 235 rfl rfl
theorem dX12_tellQuery_88 : decode cX12_tellQuery 88 = .ok (.ifCond .eq 78, 3) := dec_s2 oX12_tellQuery (of153 _) 0 78 rfl (sg16p rfl) rfl
theorem dX12_tellQuery_91 : decode cX12_tellQuery 91 = .ok (.aload_n 0, 1) := dec_0 oX12_tellQuery (of42 _) rfl
theorem dX12_tellQuery_92 : decode cX12_tellQuery 92 = .ok (.getfield 52, 3) := dec_2 oX12_tellQuery (of180 _) 0 52 rfl rfl
theorem dX12_tellQuery_95 : decode cX12_tellQuery 95 = .ok (.iload_n 1, 1) := dec_0 oX12_tellQuery (of27 _) rfl
theorem dX12_tellQuery_96 : decode cX12_tellQuery 96 = .ok (.iaload, 1) := dec_0 oX12_tellQuery (of46 _) rfl
theorem dX12_tellQuery_97 : decode cX12_tellQuery 97 = .ok (.bipush 16, 2) := dec_s1 oX12_tellQuery (of16 _) 16 rfl (sg8p rfl) rfl
theorem dX12_tellQuery_99 : decode cX12_tellQuery 99 = .ok (.if_icmp .ne 8, 3) := dec_s2 oX12_tellQuery (of160 _) 0 8 rfl (sg16p rfl) rfl
theorem dX12_tellQuery_102 : decode cX12_tellQuery 102 = .ok (.aload_n 0, 1) := dec_0 oX12_tellQuery (of42 _) rfl
theorem dX12_tellQuery_103 : decode cX12_tellQuery 103 = .ok (.iconst 2, 1) := dec_0 oX12_tellQuery (of5 _) rfl
theorem dX12_tellQuery_104 : decode cX12_tellQuery 104 = .ok (.invokevirtual 185, 3) := dec_2 oX12_tellQuery (of182 _) 0 185 rfl rfl
theorem dX12_tellQuery_107 : decode cX12_tellQuery 107 = .ok (.aload_n 0, 1) := dec_0 oX12_tellQuery (of42 _) rfl
theorem dX12_tellQuery_108 : decode cX12_tellQuery 108 = .ok (.getfield 161, 3) := dec_2 oX12_tellQuery (of180 _) 0 161 rfl rfl
theorem dX12_tellQuery_111 : decode cX12_tellQuery 111 = .ok (.ifCond .le 4, 3) := dec_s2 oX12_tellQuery (of158 _) 0 4 rfl (sg16p rfl) rfl
theorem dX12_tellQuery_114 : decode cX12_tellQuery 114 = .ok (.return_, 1) := dec_0 oX12_tellQuery (of177 _) rfl
theorem dX12_tellQuery_115 : decode cX12_tellQuery 115 = .ok (.aload_n 0, 1) := dec_0 oX12_tellQuery (of42 _) rfl
theorem dX12_tellQuery_116 : decode cX12_tellQuery 116 = .ok (.getfield 55, 3) := dec_2 oX12_tellQuery (of180 _) 0 55 rfl rfl
theorem dX12_tellQuery_119 : decode cX12_tellQuery 119 = .ok (.bipush 16, 2) := dec_s1 oX12_tellQuery (of16 _) 16 rfl (sg8p rfl) rfl
theorem dX12_tellQuery_121 : decode cX12_tellQuery 121 = .ok (.iload_n 1, 1) := dec_0 oX12_tellQuery (of27 _) rfl
theorem dX12_tellQuery_122 : decode cX12_tellQuery 122 = .ok (.imul, 1) := dec_0 oX12_tellQuery (of104 _) rfl
theorem dX12_tellQuery_123 : decode cX12_tellQuery 123 = .ok (.aload_n 0, 1) := dec_0 oX12_tellQuery (of42 _) rfl
theorem dX12_tellQuery_124 : decode cX12_tellQuery 124 = .ok (.getfield 52, 3) := dec_2 oX12_tellQuery (of180 _) 0 52 rfl rfl
theorem dX12_tellQuery_127 : decode cX12_tellQuery 127 = .ok (.iload_n 1, 1) := dec_0 oX12_tellQuery (of27 _) rfl
theorem dX12_tellQuery_128 : decode cX12_tellQuery 128 = .ok (.iaload, 1) := dec_0 oX12_tellQuery (of46 _) rfl
theorem dX12_tellQuery_129 : decode cX12_tellQuery 129 = .ok (.iadd, 1) := dec_0 oX12_tellQuery (of96 _) rfl
theorem dX12_tellQuery_130 : decode cX12_tellQuery 130 = .ok (.aload_n 0, 1) := dec_0 oX12_tellQuery (of42 _) rfl
theorem dX12_tellQuery_131 : decode cX12_tellQuery 131 = .ok (.invokevirtual 240, 3) := dec_2 oX12_tellQuery (of182 _) 0 240 rfl rfl
theorem dX12_tellQuery_134 : decode cX12_tellQuery 134 = .ok (.iastore, 1) := dec_0 oX12_tellQuery (of79 _) rfl
theorem dX12_tellQuery_135 : decode cX12_tellQuery 135 = .ok (.aload_n 0, 1) := dec_0 oX12_tellQuery (of42 _) rfl
theorem dX12_tellQuery_136 : decode cX12_tellQuery 136 = .ok (.getfield 161, 3) := dec_2 oX12_tellQuery (of180 _) 0 161 rfl rfl
theorem dX12_tellQuery_139 : decode cX12_tellQuery 139 = .ok (.ifCond .le 4, 3) := dec_s2 oX12_tellQuery (of158 _) 0 4 rfl (sg16p rfl) rfl
theorem dX12_tellQuery_142 : decode cX12_tellQuery 142 = .ok (.return_, 1) := dec_0 oX12_tellQuery (of177 _) rfl
theorem dX12_tellQuery_143 : decode cX12_tellQuery 143 = .ok (.aload_n 0, 1) := dec_0 oX12_tellQuery (of42 _) rfl
theorem dX12_tellQuery_144 : decode cX12_tellQuery 144 = .ok (.getfield 52, 3) := dec_2 oX12_tellQuery (of180 _) 0 52 rfl rfl
theorem dX12_tellQuery_147 : decode cX12_tellQuery 147 = .ok (.iload_n 1, 1) := dec_0 oX12_tellQuery (of27 _) rfl
theorem dX12_tellQuery_148 : decode cX12_tellQuery 148 = .ok (.dup2, 1) := dec_0 oX12_tellQuery (of92 _) rfl
theorem dX12_tellQuery_149 : decode cX12_tellQuery 149 = .ok (.iaload, 1) := dec_0 oX12_tellQuery (of46 _) rfl
theorem dX12_tellQuery_150 : decode cX12_tellQuery 150 = .ok (.iconst 1, 1) := dec_0 oX12_tellQuery (of4 _) rfl
theorem dX12_tellQuery_151 : decode cX12_tellQuery 151 = .ok (.iadd, 1) := dec_0 oX12_tellQuery (of96 _) rfl
theorem dX12_tellQuery_152 : decode cX12_tellQuery 152 = .ok (.iastore, 1) := dec_0 oX12_tellQuery (of79 _) rfl
theorem dX12_tellQuery_153 : decode cX12_tellQuery 153 = .ok (.aload_n 0, 1) := dec_0 oX12_tellQuery (of42 _) rfl
theorem dX12_tellQuery_154 : decode cX12_tellQuery 154 = .ok (.dup, 1) := dec_0 oX12_tellQuery (of89 _) rfl
theorem dX12_tellQuery_155 : decode cX12_tellQuery 155 = .ok (.getfield 170, 3) := dec_2 oX12_tellQuery (of180 _) 0 170 rfl rfl
theorem dX12_tellQuery_158 : decode cX12_tellQuery 158 = .ok (.iconst 1, 1) := dec_0 oX12_tellQuery (of4 _) rfl
theorem dX12_tellQuery_159 : decode cX12_tellQuery 159 = .ok (.iadd, 1) := dec_0 oX12_tellQuery (of96 _) rfl
theorem dX12_tellQuery_160 : decode cX12_tellQuery 160 = .ok (.putfield 170, 3) := dec_2 oX12_tellQuery (of181 _) 0 170 rfl rfl
theorem dX12_tellQuery_163 : decode cX12_tellQuery 163 = .ok (.goto (-79), 3) := dec_s2 oX12_tellQuery (of167 _) 255 177 rfl (sg16n (k := 79) rfl) rfl
theorem dX12_tellQuery_166 : decode cX12_tellQuery 166 = .ok (.aload_n 0, 1) := dec_0 oX12_tellQuery (of42 _) rfl
theorem dX12_tellQuery_167 : decode cX12_tellQuery 167 = .ok (.iconst 4, 1) := dec_0 oX12_tellQuery (of7 _) rfl
theorem dX12_tellQuery_168 : decode cX12_tellQuery 168 = .ok (.invokevirtual 188, 3) := dec_2 oX12_tellQuery (of182 _) 0 188 rfl rfl
theorem dX12_tellQuery_171 : decode cX12_tellQuery 171 = .ok (.ifCond .eq 23, 3) := dec_s2 oX12_tellQuery (of153 _) 0 23 rfl (sg16p rfl) rfl
theorem dX12_tellQuery_174 : decode cX12_tellQuery 174 = .ok (.aload_n 0, 1) := dec_0 oX12_tellQuery (of42 _) rfl
theorem dX12_tellQuery_175 : decode cX12_tellQuery 175 = .ok (.getfield 52, 3) := dec_2 oX12_tellQuery (of180 _) 0 52 rfl rfl
theorem dX12_tellQuery_178 : decode cX12_tellQuery 178 = .ok (.iload_n 1, 1) := dec_0 oX12_tellQuery (of27 _) rfl
theorem dX12_tellQuery_179 : decode cX12_tellQuery 179 = .ok (.iaload, 1) := dec_0 oX12_tellQuery (of46 _) rfl
theorem dX12_tellQuery_180 : decode cX12_tellQuery 180 = .ok (.iconst 2, 1) := dec_0 oX12_tellQuery (of5 _) rfl
theorem dX12_tellQuery_181 : decode cX12_tellQuery 181 = .ok (.if_icmp .ge 13, 3) := dec_s2 oX12_tellQuery (of162 _) 0 13 rfl (sg16p rfl) rfl
theorem dX12_tellQuery_184 : decode cX12_tellQuery 184 = .ok (.aload_n 0, 1) := dec_0 oX12_tellQuery (of42 _) rfl
theorem dX12_tellQuery_185 : decode cX12_tellQuery 185 = .ok (.bipush 6, 2) := dec_s1 oX12_tellQuery (of16 _) 6 rfl (sg8p rfl) rfl
theorem dX12_tellQuery_187 : decode cX12_tellQuery 187 = .ok (.aload_n 0, 1) := dec_0 oX12_tellQuery (of42 _) rfl
theorem dX12_tellQuery_188 : decode cX12_tellQuery 188 = .ok (.getfield 164, 3) := dec_2 oX12_tellQuery (of180 _) 0 164 rfl rfl
theorem dX12_tellQuery_191 : decode cX12_tellQuery 191 = .ok (.invokevirtual 231, 3) := dec_2 oX12_tellQuery (of182 _) 0 231 rfl rfl
theorem dX12_tellQuery_194 : decode cX12_tellQuery 194 = .ok (.aload_n 0, 1) := dec_0 oX12_tellQuery (of42 _) rfl
theorem dX12_tellQuery_195 : decode cX12_tellQuery 195 = .ok (.iconst 4, 1) := dec_0 oX12_tellQuery (of7 _) rfl
theorem dX12_tellQuery_196 : decode cX12_tellQuery 196 = .ok (.invokevirtual 216, 3) := dec_2 oX12_tellQuery (of182 _) 0 216 rfl rfl
theorem dX12_tellQuery_199 : decode cX12_tellQuery 199 = .ok (.aload_n 0, 1) := dec_0 oX12_tellQuery (of42 _) rfl
theorem dX12_tellQuery_200 : decode cX12_tellQuery 200 = .ok (.getfield 161, 3) := dec_2 oX12_tellQuery (of180 _) 0 161 rfl rfl
theorem dX12_tellQuery_203 : decode cX12_tellQuery 203 = .ok (.ifCond .le 4, 3) := dec_s2 oX12_tellQuery (of158 _) 0 4 rfl (sg16p rfl) rfl
theorem dX12_tellQuery_206 : decode cX12_tellQuery 206 = .ok (.return_, 1) := dec_0 oX12_tellQuery (of177 _) rfl
theorem dX12_tellQuery_207 : decode cX12_tellQuery 207 = .ok (.aload_n 0, 1) := dec_0 oX12_tellQuery (of42 _) rfl
theorem dX12_tellQuery_208 : decode cX12_tellQuery 208 = .ok (.bipush (-2), 2) := dec_s1 oX12_tellQuery (of16 _) 254 rfl (sg8n (k := 2) rfl) rfl
theorem dX12_tellQuery_210 : decode cX12_tellQuery 210 = .ok (.putfield 170, 3) := dec_2 oX12_tellQuery (of181 _) 0 170 rfl rfl
theorem dX12_tellQuery_213 : decode cX12_tellQuery 213 = .ok (.aload_n 0, 1) := dec_0 oX12_tellQuery (of42 _) rfl
theorem dX12_tellQuery_214 : decode cX12_tellQuery 214 = .ok (.getfield 40, 3) := dec_2 oX12_tellQuery (of180 _) 0 40 rfl rfl
theorem dX12_tellQuery_217 : decode cX12_tellQuery 217 = .ok (.aload_n 0, 1) := dec_0 oX12_tellQuery (of42 _) rfl
theorem dX12_tellQuery_218 : decode cX12_tellQuery 218 = .ok (.getfield 203, 3) := dec_2 oX12_tellQuery (of180 _) 0 203 rfl rfl
theorem dX12_tellQuery_221 : decode cX12_tellQuery 221 = .ok (.aload_n 0, 1) := dec_0 oX12_tellQuery (of42 _) rfl
theorem dX12_tellQuery_222 : decode cX12_tellQuery 222 = .ok (.getfield 30, 3) := dec_2 oX12_tellQuery (of180 _) 0 30 rfl rfl
theorem dX12_tellQuery_225 : decode cX12_tellQuery 225 = .ok (.iload_n 2, 1) := dec_0 oX12_tellQuery (of28 _) rfl
theorem dX12_tellQuery_226 : decode cX12_tellQuery 226 = .ok (.laload, 1) := dec_0 oX12_tellQuery (of47 _) rfl
theorem dX12_tellQuery_227 : decode cX12_tellQuery 227 = .ok (.lastore, 1) := dec_0 oX12_tellQuery (of80 _) rfl
theorem dX12_tellQuery_228 : decode cX12_tellQuery 228 = .ok (.aload_n 0, 1) := dec_0 oX12_tellQuery (of42 _) rfl
theorem dX12_tellQuery_229 : decode cX12_tellQuery 229 = .ok (.dup, 1) := dec_0 oX12_tellQuery (of89 _) rfl
theorem dX12_tellQuery_230 : decode cX12_tellQuery 230 = .ok (.getfield 203, 3) := dec_2 oX12_tellQuery (of180 _) 0 203 rfl rfl
theorem dX12_tellQuery_233 : decode cX12_tellQuery 233 = .ok (.iconst 1, 1) := dec_0 oX12_tellQuery (of4 _) rfl
theorem dX12_tellQuery_234 : decode cX12_tellQuery 234 = .ok (.iadd, 1) := dec_0 oX12_tellQuery (of96 _) rfl
theorem dX12_tellQuery_235 : decode cX12_tellQuery 235 = .ok (.putfield 203, 3) := dec_2 oX12_tellQuery (of181 _) 0 203 rfl rfl
theorem dX12_tellQuery_238 : decode cX12_tellQuery 238 = .ok (.aload_n 0, 1) := dec_0 oX12_tellQuery (of42 _) rfl
theorem dX12_tellQuery_239 : decode cX12_tellQuery 239 = .ok (.getfield 49, 3) := dec_2 oX12_tellQuery (of180 _) 0 49 rfl rfl
theorem dX12_tellQuery_242 : decode cX12_tellQuery 242 = .ok (.aload_n 0, 1) := dec_0 oX12_tellQuery (of42 _) rfl
theorem dX12_tellQuery_243 : decode cX12_tellQuery 243 = .ok (.getfield 200, 3) := dec_2 oX12_tellQuery (of180 _) 0 200 rfl rfl
theorem dX12_tellQuery_246 : decode cX12_tellQuery 246 = .ok (.dup2, 1) := dec_0 oX12_tellQuery (of92 _) rfl
theorem dX12_tellQuery_247 : decode cX12_tellQuery 247 = .ok (.iaload, 1) := dec_0 oX12_tellQuery (of46 _) rfl
theorem dX12_tellQuery_248 : decode cX12_tellQuery 248 = .ok (.iconst 1, 1) := dec_0 oX12_tellQuery (of4 _) rfl
theorem dX12_tellQuery_249 : decode cX12_tellQuery 249 = .ok (.iadd, 1) := dec_0 oX12_tellQuery (of96 _) rfl
theorem dX12_tellQuery_250 : decode cX12_tellQuery 250 = .ok (.iastore, 1) := dec_0 oX12_tellQuery (of79 _) rfl
theorem dX12_tellQuery_251 : decode cX12_tellQuery 251 = .ok (.return_, 1) := dec_0 oX12_tellQuery (of177 _) rfl
theorem dX12_downBy_0 : decode cX12_downBy 0 = .ok (.iload_n 0, 1) := dec_0 oX12_downBy (of26 _) rfl
theorem dX12_downBy_1 : decode cX12_downBy 1 = .ok (.iload_n 1, 1) := dec_0 oX12_downBy (of27 _) rfl
theorem dX12_downBy_2 : decode cX12_downBy 2 = .ok (.idiv, 1) := dec_0 oX12_downBy (of108 _) rfl
theorem dX12_downBy_3 : decode cX12_downBy 3 = .ok (.istore_n 2, 1) := dec_0 oX12_downBy (of61 _) rfl
theorem dX12_downBy_4 : decode cX12_downBy 4 = .ok (.iload_n 0, 1) := dec_0 oX12_downBy (of26 _) rfl
theorem dX12_downBy_5 : decode cX12_downBy 5 = .ok (.iload_n 1, 1) := dec_0 oX12_downBy (of27 _) rfl
theorem dX12_downBy_6 : decode cX12_downBy 6 = .ok (.irem, 1) := dec_0 oX12_downBy (of112 _) rfl
theorem dX12_downBy_7 : decode cX12_downBy 7 = .ok (.ifCond .ge 9, 3) := dec_s2 oX12_downBy (of156 _) 0 9 rfl (sg16p rfl) rfl
theorem dX12_downBy_10 : decode cX12_downBy 10 = .ok (.iload_n 2, 1) := dec_0 oX12_downBy (of28 _) rfl
theorem dX12_downBy_11 : decode cX12_downBy 11 = .ok (.iconst 1, 1) := dec_0 oX12_downBy (of4 _) rfl
theorem dX12_downBy_12 : decode cX12_downBy 12 = .ok (.isub, 1) := dec_0 oX12_downBy (of100 _) rfl
theorem dX12_downBy_13 : decode cX12_downBy 13 = .ok (.goto 4, 3) := dec_s2 oX12_downBy (of167 _) 0 4 rfl (sg16p rfl) rfl
theorem dX12_downBy_16 : decode cX12_downBy 16 = .ok (.iload_n 2, 1) := dec_0 oX12_downBy (of28 _) rfl
theorem dX12_downBy_17 : decode cX12_downBy 17 = .ok (.ireturn, 1) := dec_0 oX12_downBy (of172 _) rfl
theorem dX12_begins_49 : decode cX12_begins 49 = .ok (.aload_n 0, 1) := dec_0 oX12_begins (of42 _) rfl
theorem dX12_begins_50 : decode cX12_begins 50 = .ok (.getfield 73, 3) := dec_2 oX12_begins (of180 _) 0 73 rfl rfl
theorem dX12_begins_53 : decode cX12_begins 53 = .ok (.iconst 1, 1) := dec_0 oX12_begins (of4 _) rfl
theorem dX12_begins_54 : decode cX12_begins 54 = .ok (.iload_n 1, 1) := dec_0 oX12_begins (of27 _) rfl
theorem dX12_begins_55 : decode cX12_begins 55 = .ok (.iadd, 1) := dec_0 oX12_begins (of96 _) rfl
theorem dX12_begins_56 : decode cX12_begins 56 = .ok (.aload_n 0, 1) := dec_0 oX12_begins (of42 _) rfl
theorem dX12_begins_57 : decode cX12_begins 57 = .ok (.getfield 46, 3) := dec_2 oX12_begins (of180 _) 0 46 rfl rfl
theorem dX12_begins_60 : decode cX12_begins 60 = .ok (.sipush 160, 3) := dec_s2 oX12_begins (of17 _) 0 160 rfl (sg16p rfl) rfl
theorem dX12_begins_63 : decode cX12_begins 63 = .ok (.aload_n 0, 1) := dec_0 oX12_begins (of42 _) rfl
theorem dX12_begins_64 : decode cX12_begins 64 = .ok (.getfield 197, 3) := dec_2 oX12_begins (of180 _) 0 197 rfl rfl
theorem dX12_begins_67 : decode cX12_begins 67 = .ok (.imul, 1) := dec_0 oX12_begins (of104 _) rfl
theorem dX12_begins_68 : decode cX12_begins 68 = .ok (.iload_n 1, 1) := dec_0 oX12_begins (of27 _) rfl
theorem dX12_begins_69 : decode cX12_begins 69 = .ok (.iadd, 1) := dec_0 oX12_begins (of96 _) rfl
theorem dX12_begins_70 : decode cX12_begins 70 = .ok (.iaload, 1) := dec_0 oX12_begins (of46 _) rfl
theorem dX12_begins_71 : decode cX12_begins 71 = .ok (.iastore, 1) := dec_0 oX12_begins (of79 _) rfl
theorem dX12_begins_72 : decode cX12_begins 72 = .ok (.iinc 1 1, 3) := dec_ii oX12_begins (of132 _) 1 1 rfl (sg8p rfl) rfl
theorem dX12_begins_75 : decode cX12_begins 75 = .ok (.goto (-36), 3) := dec_s2 oX12_begins (of167 _) 255 220 rfl (sg16n (k := 36) rfl) rfl
theorem dX12_isThere_8 : decode cX12_isThere 8 = .ok (.aload_n 0, 1) := dec_0 oX12_isThere (of42 _) rfl
theorem dX12_isThere_9 : decode cX12_isThere 9 = .ok (.getfield 70, 3) := dec_2 oX12_isThere (of180 _) 0 70 rfl rfl
theorem dX12_isThere_12 : decode cX12_isThere 12 = .ok (.iconst 1, 1) := dec_0 oX12_isThere (of4 _) rfl
theorem dX12_isThere_13 : decode cX12_isThere 13 = .ok (.iload_n 1, 1) := dec_0 oX12_isThere (of27 _) rfl
theorem dX12_isThere_14 : decode cX12_isThere 14 = .ok (.iadd, 1) := dec_0 oX12_isThere (of96 _) rfl
theorem dX12_isThere_15 : decode cX12_isThere 15 = .ok (.iaload, 1) := dec_0 oX12_isThere (of46 _) rfl
theorem dX12_isThere_16 : decode cX12_isThere 16 = .ok (.ldc 239, 2) := dec_1 oX12_isThere (of18 _) 239 rfl rfl
theorem dX12_isThere_18 : decode cX12_isThere 18 = .ok (.if_icmp .eq 7, 3) := dec_s2 oX12_isThere (of159 _) 0 7 rfl (sg16p rfl) rfl
theorem dX12_isThere_21 : decode cX12_isThere 21 = .ok (.iconst 1, 1) := dec_0 oX12_isThere (of4 _) rfl
theorem dX12_isThere_22 : decode cX12_isThere 22 = .ok (.goto 4, 3) := dec_s2 oX12_isThere (of167 _) 0 4 rfl (sg16p rfl) rfl
theorem dX12_isWindow_23 : decode cX12_isWindow 23 = .ok (.iload_n 1, 1) := dec_0 oX12_isWindow (of27 _) rfl
theorem dX12_isWindow_24 : decode cX12_isWindow 24 = .ok (.istore_n 3, 1) := dec_0 oX12_isWindow (of62 _) rfl
theorem dX12_isWindow_25 : decode cX12_isWindow 25 = .ok (.iload_n 3, 1) := dec_0 oX12_isWindow (of29 _) rfl
theorem dX12_isWindow_26 : decode cX12_isWindow 26 = .ok (.iload_n 1, 1) := dec_0 oX12_isWindow (of27 _) rfl
theorem dX12_isWindow_27 : decode cX12_isWindow 27 = .ok (.iload_n 2, 1) := dec_0 oX12_isWindow (of28 _) rfl
theorem dX12_isWindow_28 : decode cX12_isWindow 28 = .ok (.iadd, 1) := dec_0 oX12_isWindow (of96 _) rfl
theorem dX12_isWindow_29 : decode cX12_isWindow 29 = .ok (.if_icmp .ge 24, 3) := dec_s2 oX12_isWindow (of162 _) 0 24 rfl (sg16p rfl) rfl
theorem dX12_isWindow_32 : decode cX12_isWindow 32 = .ok (.aload_n 0, 1) := dec_0 oX12_isWindow (of42 _) rfl
theorem dX12_isWindow_33 : decode cX12_isWindow 33 = .ok (.getfield 70, 3) := dec_2 oX12_isWindow (of180 _) 0 70 rfl rfl
theorem dX12_isWindow_36 : decode cX12_isWindow 36 = .ok (.iconst 1, 1) := dec_0 oX12_isWindow (of4 _) rfl
theorem dX12_isWindow_37 : decode cX12_isWindow 37 = .ok (.iload_n 3, 1) := dec_0 oX12_isWindow (of29 _) rfl
theorem dX12_isWindow_38 : decode cX12_isWindow 38 = .ok (.iadd, 1) := dec_0 oX12_isWindow (of96 _) rfl
theorem dX12_isWindow_39 : decode cX12_isWindow 39 = .ok (.iaload, 1) := dec_0 oX12_isWindow (of46 _) rfl
theorem dX12_isWindow_40 : decode cX12_isWindow 40 = .ok (.ldc 239, 2) := dec_1 oX12_isWindow (of18 _) 239 rfl rfl
theorem dX12_isWindow_42 : decode cX12_isWindow 42 = .ok (.if_icmp .ne 5, 3) := dec_s2 oX12_isWindow (of160 _) 0 5 rfl (sg16p rfl) rfl
theorem dX12_isWindow_45 : decode cX12_isWindow 45 = .ok (.iconst 0, 1) := dec_0 oX12_isWindow (of3 _) rfl
theorem dX12_isWindow_46 : decode cX12_isWindow 46 = .ok (.ireturn, 1) := dec_0 oX12_isWindow (of172 _) rfl
theorem dX12_isWindow_47 : decode cX12_isWindow 47 = .ok (.iinc 3 1, 3) := dec_ii oX12_isWindow (of132 _) 3 1 rfl (sg8p rfl) rfl
theorem dX12_isWindow_50 : decode cX12_isWindow 50 = .ok (.goto (-25), 3) := dec_s2 oX12_isWindow (of167 _) 255 231 rfl (sg16n (k := 25) rfl) rfl
theorem dX12_isWindow_53 : decode cX12_isWindow 53 = .ok (.iconst 1, 1) := dec_0 oX12_isWindow (of4 _) rfl
theorem dX12_isWindow_54 : decode cX12_isWindow 54 = .ok (.ireturn, 1) := dec_0 oX12_isWindow (of172 _) rfl
theorem dX12_wideOf_0 : decode cX12_wideOf 0 = .ok (.aload_n 0, 1) := dec_0 oX12_wideOf (of42 _) rfl
theorem dX12_wideOf_1 : decode cX12_wideOf 1 = .ok (.getfield 52, 3) := dec_2 oX12_wideOf (of180 _) 0 52 rfl rfl
theorem dX12_wideOf_4 : decode cX12_wideOf 4 = .ok (.iconst 5, 1) := dec_0 oX12_wideOf (of8 _) rfl
theorem dX12_wideOf_5 : decode cX12_wideOf 5 = .ok (.aload_n 0, 1) := dec_0 oX12_wideOf (of42 _) rfl
theorem dX12_wideOf_6 : decode cX12_wideOf 6 = .ok (.getfield 197, 3) := dec_2 oX12_wideOf (of180 _) 0 197 rfl rfl
theorem dX12_wideOf_9 : decode cX12_wideOf 9 = .ok (.imul, 1) := dec_0 oX12_wideOf (of104 _) rfl
theorem dX12_wideOf_10 : decode cX12_wideOf 10 = .ok (.iload_n 1, 1) := dec_0 oX12_wideOf (of27 _) rfl
theorem dX12_wideOf_11 : decode cX12_wideOf 11 = .ok (.iadd, 1) := dec_0 oX12_wideOf (of96 _) rfl
theorem dX12_wideOf_12 : decode cX12_wideOf 12 = .ok (.iaload, 1) := dec_0 oX12_wideOf (of46 _) rfl
theorem dX12_wideOf_13 : decode cX12_wideOf 13 = .ok (.ireturn, 1) := dec_0 oX12_wideOf (of172 _) rfl
theorem dX12_isOf_8 : decode cX12_isOf 8 = .ok (.aload_n 0, 1) := dec_0 oX12_isOf (of42 _) rfl
theorem dX12_isOf_9 : decode cX12_isOf 9 = .ok (.iload_n 2, 1) := dec_0 oX12_isOf (of28 _) rfl
theorem dX12_isOf_10 : decode cX12_isOf 10 = .ok (.aload_n 0, 1) := dec_0 oX12_isOf (of42 _) rfl
theorem dX12_isOf_11 : decode cX12_isOf 11 = .ok (.iload_n 1, 1) := dec_0 oX12_isOf (of27 _) rfl
theorem dX12_isOf_12 : decode cX12_isOf 12 = .ok (.invokevirtual 254, 3) := dec_2 oX12_isOf (of182 _) 0 254 rfl rfl
theorem dX12_isOf_15 : decode cX12_isOf 15 = .ok (.invokevirtual 257, 3) := dec_2 oX12_isOf (of182 _) 1 1 rfl rfl
theorem dX12_isOf_18 : decode cX12_isOf 18 = .ok (.ifCond .eq 7, 3) := dec_s2 oX12_isOf (of153 _) 0 7 rfl (sg16p rfl) rfl
theorem dX12_isOf_21 : decode cX12_isOf 21 = .ok (.iconst 1, 1) := dec_0 oX12_isOf (of4 _) rfl
theorem dX12_isOf_22 : decode cX12_isOf 22 = .ok (.goto 4, 3) := dec_s2 oX12_isOf (of167 _) 0 4 rfl (sg16p rfl) rfl
theorem dX12_levelsFirst_0 : decode cX12_levelsFirst 0 = .ok (.iconst 0, 1) := dec_0 oX12_levelsFirst (of3 _) rfl
theorem dX12_levelsFirst_1 : decode cX12_levelsFirst 1 = .ok (.istore_n 2, 1) := dec_0 oX12_levelsFirst (of61 _) rfl
theorem dX12_levelsFirst_2 : decode cX12_levelsFirst 2 = .ok (.aload_n 0, 1) := dec_0 oX12_levelsFirst (of42 _) rfl
theorem dX12_levelsFirst_3 : decode cX12_levelsFirst 3 = .ok (.getfield 76, 3) := dec_2 oX12_levelsFirst (of180 _) 0 76 rfl rfl
theorem dX12_levelsFirst_6 : decode cX12_levelsFirst 6 = .ok (.iconst 0, 1) := dec_0 oX12_levelsFirst (of3 _) rfl
theorem dX12_levelsFirst_7 : decode cX12_levelsFirst 7 = .ok (.iaload, 1) := dec_0 oX12_levelsFirst (of46 _) rfl
theorem dX12_levelsFirst_8 : decode cX12_levelsFirst 8 = .ok (.istore_n 3, 1) := dec_0 oX12_levelsFirst (of62 _) rfl
theorem dX12_levelsFirst_9 : decode cX12_levelsFirst 9 = .ok (.aload_n 0, 1) := dec_0 oX12_levelsFirst (of42 _) rfl
theorem dX12_levelsFirst_10 : decode cX12_levelsFirst 10 = .ok (.getfield 76, 3) := dec_2 oX12_levelsFirst (of180 _) 0 76 rfl rfl
theorem dX12_levelsFirst_13 : decode cX12_levelsFirst 13 = .ok (.iconst 0, 1) := dec_0 oX12_levelsFirst (of3 _) rfl
theorem dX12_levelsFirst_14 : decode cX12_levelsFirst 14 = .ok (.iaload, 1) := dec_0 oX12_levelsFirst (of46 _) rfl
theorem dX12_levelsFirst_15 : decode cX12_levelsFirst 15 = .ok (.istore 4, 2) := dec_1 oX12_levelsFirst (of54 _) 4 rfl rfl
theorem dX12_levelsFirst_17 : decode cX12_levelsFirst 17 = .ok (.aload_n 0, 1) := dec_0 oX12_levelsFirst (of42 _) rfl
theorem dX12_levelsFirst_18 : decode cX12_levelsFirst 18 = .ok (.getfield 76, 3) := dec_2 oX12_levelsFirst (of180 _) 0 76 rfl rfl
theorem dX12_levelsFirst_21 : decode cX12_levelsFirst 21 = .ok (.iconst 0, 1) := dec_0 oX12_levelsFirst (of3 _) rfl
theorem dX12_levelsFirst_22 : decode cX12_levelsFirst 22 = .ok (.iaload, 1) := dec_0 oX12_levelsFirst (of46 _) rfl
theorem dX12_levelsFirst_23 : decode cX12_levelsFirst 23 = .ok (.istore 5, 2) := dec_1 oX12_levelsFirst (of54 _) 5 rfl rfl
theorem dX12_levelsFirst_25 : decode cX12_levelsFirst 25 = .ok (.iconst 0, 1) := dec_0 oX12_levelsFirst (of3 _) rfl
theorem dX12_levelsFirst_26 : decode cX12_levelsFirst 26 = .ok (.istore 6, 2) := dec_1 oX12_levelsFirst (of54 _) 6 rfl rfl
theorem dX12_levelsFirst_28 : decode cX12_levelsFirst 28 = .ok (.iload 6, 2) := dec_1 oX12_levelsFirst (of21 _) 6 rfl rfl
theorem dX12_levelsFirst_30 : decode cX12_levelsFirst 30 = .ok (.iload_n 1, 1) := dec_0 oX12_levelsFirst (of27 _) rfl
theorem dX12_levelsFirst_31 : decode cX12_levelsFirst 31 = .ok (.if_icmp .ge 59, 3) := dec_s2 oX12_levelsFirst (of162 _) 0 59 rfl (sg16p rfl) rfl
theorem dX12_levelsFirst_34 : decode cX12_levelsFirst 34 = .ok (.iload_n 2, 1) := dec_0 oX12_levelsFirst (of28 _) rfl
theorem dX12_levelsFirst_35 : decode cX12_levelsFirst 35 = .ok (.aload_n 0, 1) := dec_0 oX12_levelsFirst (of42 _) rfl
theorem dX12_levelsFirst_36 : decode cX12_levelsFirst 36 = .ok (.getfield 76, 3) := dec_2 oX12_levelsFirst (of180 _) 0 76 rfl rfl
theorem dX12_levelsFirst_39 : decode cX12_levelsFirst 39 = .ok (.iload 6, 2) := dec_1 oX12_levelsFirst (of21 _) 6 rfl rfl
theorem dX12_levelsFirst_41 : decode cX12_levelsFirst 41 = .ok (.iaload, 1) := dec_0 oX12_levelsFirst (of46 _) rfl
theorem dX12_levelsFirst_42 : decode cX12_levelsFirst 42 = .ok (.iadd, 1) := dec_0 oX12_levelsFirst (of96 _) rfl
theorem dX12_levelsFirst_43 : decode cX12_levelsFirst 43 = .ok (.istore_n 2, 1) := dec_0 oX12_levelsFirst (of61 _) rfl
theorem dX12_levelsFirst_44 : decode cX12_levelsFirst 44 = .ok (.aload_n 0, 1) := dec_0 oX12_levelsFirst (of42 _) rfl
theorem dX12_levelsFirst_45 : decode cX12_levelsFirst 45 = .ok (.getfield 76, 3) := dec_2 oX12_levelsFirst (of180 _) 0 76 rfl rfl
theorem dX12_levelsFirst_48 : decode cX12_levelsFirst 48 = .ok (.iload 6, 2) := dec_1 oX12_levelsFirst (of21 _) 6 rfl rfl
theorem dX12_levelsFirst_50 : decode cX12_levelsFirst 50 = .ok (.iaload, 1) := dec_0 oX12_levelsFirst (of46 _) rfl
theorem dX12_levelsFirst_51 : decode cX12_levelsFirst 51 = .ok (.iload_n 3, 1) := dec_0 oX12_levelsFirst (of29 _) rfl
theorem dX12_levelsFirst_52 : decode cX12_levelsFirst 52 = .ok (.if_icmp .ge 11, 3) := dec_s2 oX12_levelsFirst (of162 _) 0 11 rfl (sg16p rfl) rfl
theorem dX12_levelsFirst_55 : decode cX12_levelsFirst 55 = .ok (.aload_n 0, 1) := dec_0 oX12_levelsFirst (of42 _) rfl
theorem dX12_levelsFirst_56 : decode cX12_levelsFirst 56 = .ok (.getfield 76, 3) := dec_2 oX12_levelsFirst (of180 _) 0 76 rfl rfl
theorem dX12_levelsFirst_59 : decode cX12_levelsFirst 59 = .ok (.iload 6, 2) := dec_1 oX12_levelsFirst (of21 _) 6 rfl rfl
theorem dX12_levelsFirst_61 : decode cX12_levelsFirst 61 = .ok (.iaload, 1) := dec_0 oX12_levelsFirst (of46 _) rfl
theorem dX12_levelsFirst_62 : decode cX12_levelsFirst 62 = .ok (.istore_n 3, 1) := dec_0 oX12_levelsFirst (of62 _) rfl
theorem dX12_levelsFirst_63 : decode cX12_levelsFirst 63 = .ok (.aload_n 0, 1) := dec_0 oX12_levelsFirst (of42 _) rfl
theorem dX12_levelsFirst_64 : decode cX12_levelsFirst 64 = .ok (.getfield 76, 3) := dec_2 oX12_levelsFirst (of180 _) 0 76 rfl rfl
theorem dX12_levelsFirst_67 : decode cX12_levelsFirst 67 = .ok (.iload 6, 2) := dec_1 oX12_levelsFirst (of21 _) 6 rfl rfl
theorem dX12_levelsFirst_69 : decode cX12_levelsFirst 69 = .ok (.iaload, 1) := dec_0 oX12_levelsFirst (of46 _) rfl
theorem dX12_levelsFirst_70 : decode cX12_levelsFirst 70 = .ok (.iload 4, 2) := dec_1 oX12_levelsFirst (of21 _) 4 rfl rfl
theorem dX12_levelsFirst_72 : decode cX12_levelsFirst 72 = .ok (.if_icmp .le 12, 3) := dec_s2 oX12_levelsFirst (of164 _) 0 12 rfl (sg16p rfl) rfl
theorem dX12_levelsFirst_75 : decode cX12_levelsFirst 75 = .ok (.aload_n 0, 1) := dec_0 oX12_levelsFirst (of42 _) rfl
theorem dX12_levelsFirst_76 : decode cX12_levelsFirst 76 = .ok (.getfield 76, 3) := dec_2 oX12_levelsFirst (of180 _) 0 76 rfl rfl
theorem dX12_levelsFirst_79 : decode cX12_levelsFirst 79 = .ok (.iload 6, 2) := dec_1 oX12_levelsFirst (of21 _) 6 rfl rfl
theorem dX12_levelsFirst_81 : decode cX12_levelsFirst 81 = .ok (.iaload, 1) := dec_0 oX12_levelsFirst (of46 _) rfl
theorem dX12_levelsFirst_82 : decode cX12_levelsFirst 82 = .ok (.istore 4, 2) := dec_1 oX12_levelsFirst (of54 _) 4 rfl rfl
theorem dX12_levelsFirst_84 : decode cX12_levelsFirst 84 = .ok (.iinc 6 1, 3) := dec_ii oX12_levelsFirst (of132 _) 6 1 rfl (sg8p rfl) rfl
theorem dX12_levelsFirst_87 : decode cX12_levelsFirst 87 = .ok (.goto (-59), 3) := dec_s2 oX12_levelsFirst (of167 _) 255 197 rfl (sg16n (k := 59) rfl) rfl
theorem dX12_levelsFirst_90 : decode cX12_levelsFirst 90 = .ok (.iload_n 2, 1) := dec_0 oX12_levelsFirst (of28 _) rfl
theorem dX12_levelsFirst_91 : decode cX12_levelsFirst 91 = .ok (.iload_n 1, 1) := dec_0 oX12_levelsFirst (of27 _) rfl
theorem dX12_levelsFirst_92 : decode cX12_levelsFirst 92 = .ok (.invokestatic 261, 3) := dec_2 oX12_levelsFirst (of184 _) 1 5 rfl rfl
theorem dX12_levelsFirst_95 : decode cX12_levelsFirst 95 = .ok (.istore 6, 2) := dec_1 oX12_levelsFirst (of54 _) 6 rfl rfl
theorem dX12_levelsFirst_97 : decode cX12_levelsFirst 97 = .ok (.iconst 0, 1) := dec_0 oX12_levelsFirst (of3 _) rfl
theorem dX12_levelsFirst_98 : decode cX12_levelsFirst 98 = .ok (.istore 7, 2) := dec_1 oX12_levelsFirst (of54 _) 7 rfl rfl
theorem dX12_levelsFirst_100 : decode cX12_levelsFirst 100 = .ok (.iload 7, 2) := dec_1 oX12_levelsFirst (of21 _) 7 rfl rfl
theorem dX12_levelsFirst_102 : decode cX12_levelsFirst 102 = .ok (.iload_n 1, 1) := dec_0 oX12_levelsFirst (of27 _) rfl
theorem dX12_levelsFirst_103 : decode cX12_levelsFirst 103 = .ok (.if_icmp .ge 111, 3) := dec_s2 oX12_levelsFirst (of162 _) 0 111 rfl (sg16p rfl) rfl
theorem dX12_levelsFirst_106 : decode cX12_levelsFirst 106 = .ok (.aload_n 0, 1) := dec_0 oX12_levelsFirst (of42 _) rfl
theorem dX12_levelsFirst_107 : decode cX12_levelsFirst 107 = .ok (.getfield 73, 3) := dec_2 oX12_levelsFirst (of180 _) 0 73 rfl rfl
theorem dX12_levelsFirst_110 : decode cX12_levelsFirst 110 = .ok (.sipush 162, 3) := dec_s2 oX12_levelsFirst (of17 _) 0 162 rfl (sg16p rfl) rfl
theorem dX12_levelsFirst_113 : decode cX12_levelsFirst 113 = .ok (.iaload, 1) := dec_0 oX12_levelsFirst (of46 _) rfl
theorem dX12_levelsFirst_114 : decode cX12_levelsFirst 114 = .ok (.tableswitch 59 0 2 #[26, 29, 44], 26) := by decide +kernel
theorem dX12_levelsFirst_140 : decode cX12_levelsFirst 140 = .ok (.goto 68, 3) := dec_s2 oX12_levelsFirst (of167 _) 0 68 rfl (sg16p rfl) rfl
theorem dX12_levelsFirst_143 : decode cX12_levelsFirst 143 = .ok (.aload_n 0, 1) := dec_0 oX12_levelsFirst (of42 _) rfl
theorem dX12_levelsFirst_144 : decode cX12_levelsFirst 144 = .ok (.getfield 76, 3) := dec_2 oX12_levelsFirst (of180 _) 0 76 rfl rfl
theorem dX12_levelsFirst_147 : decode cX12_levelsFirst 147 = .ok (.iload 7, 2) := dec_1 oX12_levelsFirst (of21 _) 7 rfl rfl
theorem dX12_levelsFirst_149 : decode cX12_levelsFirst 149 = .ok (.dup2, 1) := dec_0 oX12_levelsFirst (of92 _) rfl
theorem dX12_levelsFirst_150 : decode cX12_levelsFirst 150 = .ok (.iaload, 1) := dec_0 oX12_levelsFirst (of46 _) rfl
theorem dX12_levelsFirst_151 : decode cX12_levelsFirst 151 = .ok (.iload 6, 2) := dec_1 oX12_levelsFirst (of21 _) 6 rfl rfl
theorem dX12_levelsFirst_153 : decode cX12_levelsFirst 153 = .ok (.isub, 1) := dec_0 oX12_levelsFirst (of100 _) rfl
theorem dX12_levelsFirst_154 : decode cX12_levelsFirst 154 = .ok (.iastore, 1) := dec_0 oX12_levelsFirst (of79 _) rfl
theorem dX12_levelsFirst_155 : decode cX12_levelsFirst 155 = .ok (.goto 53, 3) := dec_s2 oX12_levelsFirst (of167 _) 0 53 rfl (sg16p rfl) rfl
theorem dX12_levelsFirst_158 : decode cX12_levelsFirst 158 = .ok (.aload_n 0, 1) := dec_0 oX12_levelsFirst (of42 _) rfl
theorem dX12_levelsFirst_159 : decode cX12_levelsFirst 159 = .ok (.getfield 76, 3) := dec_2 oX12_levelsFirst (of180 _) 0 76 rfl rfl
theorem dX12_levelsFirst_162 : decode cX12_levelsFirst 162 = .ok (.iload 7, 2) := dec_1 oX12_levelsFirst (of21 _) 7 rfl rfl
theorem dX12_levelsFirst_164 : decode cX12_levelsFirst 164 = .ok (.dup2, 1) := dec_0 oX12_levelsFirst (of92 _) rfl
theorem dX12_levelsFirst_165 : decode cX12_levelsFirst 165 = .ok (.iaload, 1) := dec_0 oX12_levelsFirst (of46 _) rfl
theorem dX12_levelsFirst_166 : decode cX12_levelsFirst 166 = .ok (.iload 5, 2) := dec_1 oX12_levelsFirst (of21 _) 5 rfl rfl
theorem dX12_levelsFirst_168 : decode cX12_levelsFirst 168 = .ok (.isub, 1) := dec_0 oX12_levelsFirst (of100 _) rfl
theorem dX12_levelsFirst_169 : decode cX12_levelsFirst 169 = .ok (.iastore, 1) := dec_0 oX12_levelsFirst (of79 _) rfl
theorem dX12_levelsFirst_170 : decode cX12_levelsFirst 170 = .ok (.goto 38, 3) := dec_s2 oX12_levelsFirst (of167 _) 0 38 rfl (sg16p rfl) rfl
theorem dX12_levelsFirst_173 : decode cX12_levelsFirst 173 = .ok (.aload_n 0, 1) := dec_0 oX12_levelsFirst (of42 _) rfl
theorem dX12_levelsFirst_174 : decode cX12_levelsFirst 174 = .ok (.getfield 76, 3) := dec_2 oX12_levelsFirst (of180 _) 0 76 rfl rfl
theorem dX12_levelsFirst_177 : decode cX12_levelsFirst 177 = .ok (.iload 7, 2) := dec_1 oX12_levelsFirst (of21 _) 7 rfl rfl
theorem dX12_levelsFirst_179 : decode cX12_levelsFirst 179 = .ok (.iload 4, 2) := dec_1 oX12_levelsFirst (of21 _) 4 rfl rfl
theorem dX12_levelsFirst_181 : decode cX12_levelsFirst 181 = .ok (.iload_n 3, 1) := dec_0 oX12_levelsFirst (of29 _) rfl
theorem dX12_levelsFirst_182 : decode cX12_levelsFirst 182 = .ok (.if_icmp .ne 7, 3) := dec_s2 oX12_levelsFirst (of160 _) 0 7 rfl (sg16p rfl) rfl
theorem dX12_levelsFirst_185 : decode cX12_levelsFirst 185 = .ok (.iconst 0, 1) := dec_0 oX12_levelsFirst (of3 _) rfl
theorem dX12_levelsFirst_186 : decode cX12_levelsFirst 186 = .ok (.goto 21, 3) := dec_s2 oX12_levelsFirst (of167 _) 0 21 rfl (sg16p rfl) rfl
theorem dX12_levelsFirst_189 : decode cX12_levelsFirst 189 = .ok (.sipush 1000, 3) := dec_s2 oX12_levelsFirst (of17 _) 3 232 rfl (sg16p rfl) rfl
theorem dX12_levelsFirst_192 : decode cX12_levelsFirst 192 = .ok (.aload_n 0, 1) := dec_0 oX12_levelsFirst (of42 _) rfl
theorem dX12_levelsFirst_193 : decode cX12_levelsFirst 193 = .ok (.getfield 76, 3) := dec_2 oX12_levelsFirst (of180 _) 0 76 rfl rfl
theorem dX12_levelsFirst_196 : decode cX12_levelsFirst 196 = .ok (.iload 7, 2) := dec_1 oX12_levelsFirst (of21 _) 7 rfl rfl
theorem dX12_levelsFirst_198 : decode cX12_levelsFirst 198 = .ok (.iaload, 1) := dec_0 oX12_levelsFirst (of46 _) rfl
theorem dX12_levelsFirst_199 : decode cX12_levelsFirst 199 = .ok (.iload_n 3, 1) := dec_0 oX12_levelsFirst (of29 _) rfl
theorem dX12_levelsFirst_200 : decode cX12_levelsFirst 200 = .ok (.isub, 1) := dec_0 oX12_levelsFirst (of100 _) rfl
theorem dX12_levelsFirst_201 : decode cX12_levelsFirst 201 = .ok (.imul, 1) := dec_0 oX12_levelsFirst (of104 _) rfl
theorem dX12_levelsFirst_202 : decode cX12_levelsFirst 202 = .ok (.iload 4, 2) := dec_1 oX12_levelsFirst (of21 _) 4 rfl rfl
theorem dX12_levelsFirst_204 : decode cX12_levelsFirst 204 = .ok (.iload_n 3, 1) := dec_0 oX12_levelsFirst (of29 _) rfl
theorem dX12_levelsFirst_205 : decode cX12_levelsFirst 205 = .ok (.isub, 1) := dec_0 oX12_levelsFirst (of100 _) rfl
theorem dX12_levelsFirst_206 : decode cX12_levelsFirst 206 = .ok (.idiv, 1) := dec_0 oX12_levelsFirst (of108 _) rfl
theorem dX12_levelsFirst_207 : decode cX12_levelsFirst 207 = .ok (.iastore, 1) := dec_0 oX12_levelsFirst (of79 _) rfl
theorem dX12_levelsFirst_208 : decode cX12_levelsFirst 208 = .ok (.iinc 7 1, 3) := dec_ii oX12_levelsFirst (of132 _) 7 1 rfl (sg8p rfl) rfl
theorem dX12_levelsFirst_211 : decode cX12_levelsFirst 211 = .ok (.goto (-111), 3) := dec_s2 oX12_levelsFirst (of167 _) 255 145 rfl (sg16n (k := 111) rfl) rfl
theorem dX12_levelsFirst_214 : decode cX12_levelsFirst 214 = .ok (.return_, 1) := dec_0 oX12_levelsFirst (of177 _) rfl
theorem dX12_changesBoth_0 : decode cX12_changesBoth 0 = .ok (.iconst 0, 1) := dec_0 oX12_changesBoth (of3 _) rfl
theorem dX12_changesBoth_1 : decode cX12_changesBoth 1 = .ok (.istore_n 2, 1) := dec_0 oX12_changesBoth (of61 _) rfl
theorem dX12_changesBoth_2 : decode cX12_changesBoth 2 = .ok (.iload_n 2, 1) := dec_0 oX12_changesBoth (of28 _) rfl
theorem dX12_changesBoth_3 : decode cX12_changesBoth 3 = .ok (.iload_n 1, 1) := dec_0 oX12_changesBoth (of27 _) rfl
theorem dX12_changesBoth_4 : decode cX12_changesBoth 4 = .ok (.if_icmp .ge 35, 3) := dec_s2 oX12_changesBoth (of162 _) 0 35 rfl (sg16p rfl) rfl
theorem dX12_changesBoth_7 : decode cX12_changesBoth 7 = .ok (.aload_n 0, 1) := dec_0 oX12_changesBoth (of42 _) rfl
theorem dX12_changesBoth_8 : decode cX12_changesBoth 8 = .ok (.getfield 76, 3) := dec_2 oX12_changesBoth (of180 _) 0 76 rfl rfl
theorem dX12_changesBoth_11 : decode cX12_changesBoth 11 = .ok (.iload_n 2, 1) := dec_0 oX12_changesBoth (of28 _) rfl
theorem dX12_changesBoth_12 : decode cX12_changesBoth 12 = .ok (.iaload, 1) := dec_0 oX12_changesBoth (of46 _) rfl
theorem dX12_changesBoth_13 : decode cX12_changesBoth 13 = .ok (.istore_n 3, 1) := dec_0 oX12_changesBoth (of62 _) rfl
theorem dX12_changesBoth_14 : decode cX12_changesBoth 14 = .ok (.aload_n 0, 1) := dec_0 oX12_changesBoth (of42 _) rfl
theorem dX12_changesBoth_15 : decode cX12_changesBoth 15 = .ok (.getfield 76, 3) := dec_2 oX12_changesBoth (of180 _) 0 76 rfl rfl
theorem dX12_changesBoth_18 : decode cX12_changesBoth 18 = .ok (.iload_n 2, 1) := dec_0 oX12_changesBoth (of28 _) rfl
theorem dX12_changesBoth_19 : decode cX12_changesBoth 19 = .ok (.aload_n 0, 1) := dec_0 oX12_changesBoth (of42 _) rfl
theorem dX12_changesBoth_20 : decode cX12_changesBoth 20 = .ok (.getfield 79, 3) := dec_2 oX12_changesBoth (of180 _) 0 79 rfl rfl
theorem dX12_changesBoth_23 : decode cX12_changesBoth 23 = .ok (.iload_n 2, 1) := dec_0 oX12_changesBoth (of28 _) rfl
theorem dX12_changesBoth_24 : decode cX12_changesBoth 24 = .ok (.iaload, 1) := dec_0 oX12_changesBoth (of46 _) rfl
theorem dX12_changesBoth_25 : decode cX12_changesBoth 25 = .ok (.iastore, 1) := dec_0 oX12_changesBoth (of79 _) rfl
theorem dX12_changesBoth_26 : decode cX12_changesBoth 26 = .ok (.aload_n 0, 1) := dec_0 oX12_changesBoth (of42 _) rfl
theorem dX12_changesBoth_27 : decode cX12_changesBoth 27 = .ok (.getfield 79, 3) := dec_2 oX12_changesBoth (of180 _) 0 79 rfl rfl
theorem dX12_changesBoth_30 : decode cX12_changesBoth 30 = .ok (.iload_n 2, 1) := dec_0 oX12_changesBoth (of28 _) rfl
theorem dX12_changesBoth_31 : decode cX12_changesBoth 31 = .ok (.iload_n 3, 1) := dec_0 oX12_changesBoth (of29 _) rfl
theorem dX12_changesBoth_32 : decode cX12_changesBoth 32 = .ok (.iastore, 1) := dec_0 oX12_changesBoth (of79 _) rfl
theorem dX12_changesBoth_33 : decode cX12_changesBoth 33 = .ok (.iinc 2 1, 3) := dec_ii oX12_changesBoth (of132 _) 2 1 rfl (sg8p rfl) rfl
theorem dX12_changesBoth_36 : decode cX12_changesBoth 36 = .ok (.goto (-34), 3) := dec_s2 oX12_changesBoth (of167 _) 255 222 rfl (sg16n (k := 34) rfl) rfl
theorem dX12_changesBoth_39 : decode cX12_changesBoth 39 = .ok (.return_, 1) := dec_0 oX12_changesBoth (of177 _) rfl
theorem dX12_laysQuery_0 : decode cX12_laysQuery 0 = .ok (.iconst 0, 1) := dec_0 oX12_laysQuery (of3 _) rfl
theorem dX12_laysQuery_1 : decode cX12_laysQuery 1 = .ok (.istore_n 2, 1) := dec_0 oX12_laysQuery (of61 _) rfl
theorem dX12_laysQuery_2 : decode cX12_laysQuery 2 = .ok (.iload_n 2, 1) := dec_0 oX12_laysQuery (of28 _) rfl
theorem dX12_laysQuery_3 : decode cX12_laysQuery 3 = .ok (.aload_n 0, 1) := dec_0 oX12_laysQuery (of42 _) rfl
theorem dX12_laysQuery_4 : decode cX12_laysQuery 4 = .ok (.iload_n 1, 1) := dec_0 oX12_laysQuery (of27 _) rfl
theorem dX12_laysQuery_5 : decode cX12_laysQuery 5 = .ok (.invokevirtual 254, 3) := dec_2 oX12_laysQuery (of182 _) 0 254 rfl rfl
theorem dX12_laysQuery_8 : decode cX12_laysQuery 8 = .ok (.if_icmp .ge 33, 3) := dec_s2 oX12_laysQuery (of162 _) 0 33 rfl (sg16p rfl) rfl
theorem dX12_laysQuery_11 : decode cX12_laysQuery 11 = .ok (.aload_n 0, 1) := dec_0 oX12_laysQuery (of42 _) rfl
theorem dX12_laysQuery_12 : decode cX12_laysQuery 12 = .ok (.getfield 76, 3) := dec_2 oX12_laysQuery (of180 _) 0 76 rfl rfl
theorem dX12_laysQuery_15 : decode cX12_laysQuery 15 = .ok (.iload_n 2, 1) := dec_0 oX12_laysQuery (of28 _) rfl
theorem dX12_laysQuery_16 : decode cX12_laysQuery 16 = .ok (.aload_n 0, 1) := dec_0 oX12_laysQuery (of42 _) rfl
theorem dX12_laysQuery_17 : decode cX12_laysQuery 17 = .ok (.getfield 55, 3) := dec_2 oX12_laysQuery (of180 _) 0 55 rfl rfl
theorem dX12_laysQuery_20 : decode cX12_laysQuery 20 = .ok (.bipush 16, 2) := dec_s1 oX12_laysQuery (of16 _) 16 rfl (sg8p rfl) rfl
theorem dX12_laysQuery_22 : decode cX12_laysQuery 22 = .ok (.iconst 5, 1) := dec_0 oX12_laysQuery (of8 _) rfl
theorem dX12_laysQuery_23 : decode cX12_laysQuery 23 = .ok (.aload_n 0, 1) := dec_0 oX12_laysQuery (of42 _) rfl
theorem dX12_laysQuery_24 : decode cX12_laysQuery 24 = .ok (.getfield 197, 3) := dec_2 oX12_laysQuery (of180 _) 0 197 rfl rfl
theorem dX12_laysQuery_27 : decode cX12_laysQuery 27 = .ok (.imul, 1) := dec_0 oX12_laysQuery (of104 _) rfl
theorem dX12_laysQuery_28 : decode cX12_laysQuery 28 = .ok (.iload_n 1, 1) := dec_0 oX12_laysQuery (of27 _) rfl
theorem dX12_laysQuery_29 : decode cX12_laysQuery 29 = .ok (.iadd, 1) := dec_0 oX12_laysQuery (of96 _) rfl
theorem dX12_laysQuery_30 : decode cX12_laysQuery 30 = .ok (.imul, 1) := dec_0 oX12_laysQuery (of104 _) rfl
theorem dX12_laysQuery_31 : decode cX12_laysQuery 31 = .ok (.iload_n 2, 1) := dec_0 oX12_laysQuery (of28 _) rfl
theorem dX12_laysQuery_32 : decode cX12_laysQuery 32 = .ok (.iadd, 1) := dec_0 oX12_laysQuery (of96 _) rfl
theorem dX12_laysQuery_33 : decode cX12_laysQuery 33 = .ok (.iaload, 1) := dec_0 oX12_laysQuery (of46 _) rfl
theorem dX12_laysQuery_34 : decode cX12_laysQuery 34 = .ok (.iastore, 1) := dec_0 oX12_laysQuery (of79 _) rfl
theorem dX12_laysQuery_35 : decode cX12_laysQuery 35 = .ok (.iinc 2 1, 3) := dec_ii oX12_laysQuery (of132 _) 2 1 rfl (sg8p rfl) rfl
theorem dX12_laysQuery_38 : decode cX12_laysQuery 38 = .ok (.goto (-36), 3) := dec_s2 oX12_laysQuery (of167 _) 255 220 rfl (sg16n (k := 36) rfl) rfl
theorem dX12_laysQuery_41 : decode cX12_laysQuery 41 = .ok (.aload_n 0, 1) := dec_0 oX12_laysQuery (of42 _) rfl
theorem dX12_laysQuery_42 : decode cX12_laysQuery 42 = .ok (.aload_n 0, 1) := dec_0 oX12_laysQuery (of42 _) rfl
theorem dX12_laysQuery_43 : decode cX12_laysQuery 43 = .ok (.iload_n 1, 1) := dec_0 oX12_laysQuery (of27 _) rfl
theorem dX12_laysQuery_44 : decode cX12_laysQuery 44 = .ok (.invokevirtual 254, 3) := dec_2 oX12_laysQuery (of182 _) 0 254 rfl rfl
theorem dX12_laysQuery_47 : decode cX12_laysQuery 47 = .ok (.invokevirtual 264, 3) := dec_2 oX12_laysQuery (of182 _) 1 8 rfl rfl
theorem dX12_laysQuery_50 : decode cX12_laysQuery 50 = .ok (.return_, 1) := dec_0 oX12_laysQuery (of177 _) rfl
theorem dX12_laysWindow_0 : decode cX12_laysWindow 0 = .ok (.iconst 0, 1) := dec_0 oX12_laysWindow (of3 _) rfl
theorem dX12_laysWindow_1 : decode cX12_laysWindow 1 = .ok (.istore_n 3, 1) := dec_0 oX12_laysWindow (of62 _) rfl
theorem dX12_laysWindow_2 : decode cX12_laysWindow 2 = .ok (.iload_n 3, 1) := dec_0 oX12_laysWindow (of29 _) rfl
theorem dX12_laysWindow_3 : decode cX12_laysWindow 3 = .ok (.iload_n 2, 1) := dec_0 oX12_laysWindow (of28 _) rfl
theorem dX12_laysWindow_4 : decode cX12_laysWindow 4 = .ok (.if_icmp .ge 25, 3) := dec_s2 oX12_laysWindow (of162 _) 0 25 rfl (sg16p rfl) rfl
theorem dX12_laysWindow_7 : decode cX12_laysWindow 7 = .ok (.aload_n 0, 1) := dec_0 oX12_laysWindow (of42 _) rfl
theorem dX12_laysWindow_8 : decode cX12_laysWindow 8 = .ok (.getfield 76, 3) := dec_2 oX12_laysWindow (of180 _) 0 76 rfl rfl
theorem dX12_laysWindow_11 : decode cX12_laysWindow 11 = .ok (.iload_n 3, 1) := dec_0 oX12_laysWindow (of29 _) rfl
theorem dX12_laysWindow_12 : decode cX12_laysWindow 12 = .ok (.aload_n 0, 1) := dec_0 oX12_laysWindow (of42 _) rfl
theorem dX12_laysWindow_13 : decode cX12_laysWindow 13 = .ok (.getfield 73, 3) := dec_2 oX12_laysWindow (of180 _) 0 73 rfl rfl
theorem dX12_laysWindow_16 : decode cX12_laysWindow 16 = .ok (.iconst 1, 1) := dec_0 oX12_laysWindow (of4 _) rfl
theorem dX12_laysWindow_17 : decode cX12_laysWindow 17 = .ok (.iload_n 1, 1) := dec_0 oX12_laysWindow (of27 _) rfl
theorem dX12_laysWindow_18 : decode cX12_laysWindow 18 = .ok (.iadd, 1) := dec_0 oX12_laysWindow (of96 _) rfl
theorem dX12_laysWindow_19 : decode cX12_laysWindow 19 = .ok (.iload_n 3, 1) := dec_0 oX12_laysWindow (of29 _) rfl
theorem dX12_laysWindow_20 : decode cX12_laysWindow 20 = .ok (.iadd, 1) := dec_0 oX12_laysWindow (of96 _) rfl
theorem dX12_laysWindow_21 : decode cX12_laysWindow 21 = .ok (.iaload, 1) := dec_0 oX12_laysWindow (of46 _) rfl
theorem dX12_laysWindow_22 : decode cX12_laysWindow 22 = .ok (.iastore, 1) := dec_0 oX12_laysWindow (of79 _) rfl
theorem dX12_laysWindow_23 : decode cX12_laysWindow 23 = .ok (.iinc 3 1, 3) := dec_ii oX12_laysWindow (of132 _) 3 1 rfl (sg8p rfl) rfl
theorem dX12_laysWindow_26 : decode cX12_laysWindow 26 = .ok (.goto (-24), 3) := dec_s2 oX12_laysWindow (of167 _) 255 232 rfl (sg16n (k := 24) rfl) rfl
theorem dX12_laysWindow_29 : decode cX12_laysWindow 29 = .ok (.aload_n 0, 1) := dec_0 oX12_laysWindow (of42 _) rfl
theorem dX12_laysWindow_30 : decode cX12_laysWindow 30 = .ok (.iload_n 2, 1) := dec_0 oX12_laysWindow (of28 _) rfl
theorem dX12_laysWindow_31 : decode cX12_laysWindow 31 = .ok (.invokevirtual 264, 3) := dec_2 oX12_laysWindow (of182 _) 1 8 rfl rfl
theorem dX12_laysWindow_34 : decode cX12_laysWindow 34 = .ok (.return_, 1) := dec_0 oX12_laysWindow (of177 _) rfl
theorem dX12_laysBoth_0 : decode cX12_laysBoth 0 = .ok (.aload_n 0, 1) := dec_0 oX12_laysBoth (of42 _) rfl
theorem dX12_laysBoth_1 : decode cX12_laysBoth 1 = .ok (.aload_n 0, 1) := dec_0 oX12_laysBoth (of42 _) rfl
theorem dX12_laysBoth_2 : decode cX12_laysBoth 2 = .ok (.iload_n 1, 1) := dec_0 oX12_laysBoth (of27 _) rfl
theorem dX12_laysBoth_3 : decode cX12_laysBoth 3 = .ok (.invokevirtual 254, 3) := dec_2 oX12_laysBoth (of182 _) 0 254 rfl rfl
theorem dX12_laysBoth_6 : decode cX12_laysBoth 6 = .ok (.putfield 267, 3) := dec_2 oX12_laysBoth (of181 _) 1 11 rfl rfl
theorem dX12_laysBoth_9 : decode cX12_laysBoth 9 = .ok (.aload_n 0, 1) := dec_0 oX12_laysBoth (of42 _) rfl
theorem dX12_laysBoth_10 : decode cX12_laysBoth 10 = .ok (.iload_n 2, 1) := dec_0 oX12_laysBoth (of28 _) rfl
theorem dX12_laysBoth_11 : decode cX12_laysBoth 11 = .ok (.aload_n 0, 1) := dec_0 oX12_laysBoth (of42 _) rfl
theorem dX12_laysBoth_12 : decode cX12_laysBoth 12 = .ok (.getfield 267, 3) := dec_2 oX12_laysBoth (of180 _) 1 11 rfl rfl
theorem dX12_laysBoth_15 : decode cX12_laysBoth 15 = .ok (.invokevirtual 270, 3) := dec_2 oX12_laysBoth (of182 _) 1 14 rfl rfl
theorem dX12_laysBoth_18 : decode cX12_laysBoth 18 = .ok (.aload_n 0, 1) := dec_0 oX12_laysBoth (of42 _) rfl
theorem dX12_laysBoth_19 : decode cX12_laysBoth 19 = .ok (.aload_n 0, 1) := dec_0 oX12_laysBoth (of42 _) rfl
theorem dX12_laysBoth_20 : decode cX12_laysBoth 20 = .ok (.getfield 267, 3) := dec_2 oX12_laysBoth (of180 _) 1 11 rfl rfl
theorem dX12_laysBoth_23 : decode cX12_laysBoth 23 = .ok (.invokevirtual 273, 3) := dec_2 oX12_laysBoth (of182 _) 1 17 rfl rfl
theorem dX12_laysBoth_26 : decode cX12_laysBoth 26 = .ok (.aload_n 0, 1) := dec_0 oX12_laysBoth (of42 _) rfl
theorem dX12_laysBoth_27 : decode cX12_laysBoth 27 = .ok (.iload_n 1, 1) := dec_0 oX12_laysBoth (of27 _) rfl
theorem dX12_laysBoth_28 : decode cX12_laysBoth 28 = .ok (.invokevirtual 276, 3) := dec_2 oX12_laysBoth (of182 _) 1 20 rfl rfl
theorem dX12_laysBoth_31 : decode cX12_laysBoth 31 = .ok (.return_, 1) := dec_0 oX12_laysBoth (of177 _) rfl
theorem dX12_laysWindows_0 : decode cX12_laysWindows 0 = .ok (.aload_n 0, 1) := dec_0 oX12_laysWindows (of42 _) rfl
theorem dX12_laysWindows_1 : decode cX12_laysWindows 1 = .ok (.iload_n 3, 1) := dec_0 oX12_laysWindows (of29 _) rfl
theorem dX12_laysWindows_2 : decode cX12_laysWindows 2 = .ok (.putfield 267, 3) := dec_2 oX12_laysWindows (of181 _) 1 11 rfl rfl
theorem dX12_laysWindows_5 : decode cX12_laysWindows 5 = .ok (.aload_n 0, 1) := dec_0 oX12_laysWindows (of42 _) rfl
theorem dX12_laysWindows_6 : decode cX12_laysWindows 6 = .ok (.iload_n 2, 1) := dec_0 oX12_laysWindows (of28 _) rfl
theorem dX12_laysWindows_7 : decode cX12_laysWindows 7 = .ok (.iload_n 3, 1) := dec_0 oX12_laysWindows (of29 _) rfl
theorem dX12_laysWindows_8 : decode cX12_laysWindows 8 = .ok (.invokevirtual 270, 3) := dec_2 oX12_laysWindows (of182 _) 1 14 rfl rfl
theorem dX12_laysWindows_11 : decode cX12_laysWindows 11 = .ok (.aload_n 0, 1) := dec_0 oX12_laysWindows (of42 _) rfl
theorem dX12_laysWindows_12 : decode cX12_laysWindows 12 = .ok (.iload_n 3, 1) := dec_0 oX12_laysWindows (of29 _) rfl
theorem dX12_laysWindows_13 : decode cX12_laysWindows 13 = .ok (.invokevirtual 273, 3) := dec_2 oX12_laysWindows (of182 _) 1 17 rfl rfl
theorem dX12_laysWindows_16 : decode cX12_laysWindows 16 = .ok (.aload_n 0, 1) := dec_0 oX12_laysWindows (of42 _) rfl
theorem dX12_laysWindows_17 : decode cX12_laysWindows 17 = .ok (.iload_n 1, 1) := dec_0 oX12_laysWindows (of27 _) rfl
theorem dX12_laysWindows_18 : decode cX12_laysWindows 18 = .ok (.iload_n 3, 1) := dec_0 oX12_laysWindows (of29 _) rfl
theorem dX12_laysWindows_19 : decode cX12_laysWindows 19 = .ok (.invokevirtual 270, 3) := dec_2 oX12_laysWindows (of182 _) 1 14 rfl rfl
theorem dX12_laysWindows_22 : decode cX12_laysWindows 22 = .ok (.return_, 1) := dec_0 oX12_laysWindows (of177 _) rfl
theorem dX12_costOf_0 : decode cX12_costOf 0 = .ok (.iload_n 1, 1) := dec_0 oX12_costOf (of27 _) rfl
theorem dX12_costOf_1 : decode cX12_costOf 1 = .ok (.iload_n 2, 1) := dec_0 oX12_costOf (of28 _) rfl
theorem dX12_costOf_2 : decode cX12_costOf 2 = .ok (.if_icmp .ge 9, 3) := dec_s2 oX12_costOf (of162 _) 0 9 rfl (sg16p rfl) rfl
theorem dX12_costOf_5 : decode cX12_costOf 5 = .ok (.iload_n 2, 1) := dec_0 oX12_costOf (of28 _) rfl
theorem dX12_costOf_6 : decode cX12_costOf 6 = .ok (.iload_n 1, 1) := dec_0 oX12_costOf (of27 _) rfl
theorem dX12_costOf_7 : decode cX12_costOf 7 = .ok (.isub, 1) := dec_0 oX12_costOf (of100 _) rfl
theorem dX12_costOf_8 : decode cX12_costOf 8 = .ok (.goto 6, 3) := dec_s2 oX12_costOf (of167 _) 0 6 rfl (sg16p rfl) rfl
theorem dX12_costOf_11 : decode cX12_costOf 11 = .ok (.iload_n 1, 1) := dec_0 oX12_costOf (of27 _) rfl
theorem dX12_costOf_12 : decode cX12_costOf 12 = .ok (.iload_n 2, 1) := dec_0 oX12_costOf (of28 _) rfl
theorem dX12_costOf_13 : decode cX12_costOf 13 = .ok (.isub, 1) := dec_0 oX12_costOf (of100 _) rfl
theorem dX12_costOf_14 : decode cX12_costOf 14 = .ok (.istore_n 3, 1) := dec_0 oX12_costOf (of62 _) rfl
theorem dX12_costOf_15 : decode cX12_costOf 15 = .ok (.aload_n 0, 1) := dec_0 oX12_costOf (of42 _) rfl
theorem dX12_costOf_16 : decode cX12_costOf 16 = .ok (.getfield 73, 3) := dec_2 oX12_costOf (of180 _) 0 73 rfl rfl
theorem dX12_costOf_19 : decode cX12_costOf 19 = .ok (.sipush 163, 3) := dec_s2 oX12_costOf (of17 _) 0 163 rfl (sg16p rfl) rfl
theorem dX12_costOf_22 : decode cX12_costOf 22 = .ok (.iaload, 1) := dec_0 oX12_costOf (of46 _) rfl
theorem dX12_costOf_23 : decode cX12_costOf 23 = .ok (.ifCond .ne 7, 3) := dec_s2 oX12_costOf (of154 _) 0 7 rfl (sg16p rfl) rfl
theorem dX12_costOf_26 : decode cX12_costOf 26 = .ok (.iload_n 3, 1) := dec_0 oX12_costOf (of29 _) rfl
theorem dX12_costOf_27 : decode cX12_costOf 27 = .ok (.goto 6, 3) := dec_s2 oX12_costOf (of167 _) 0 6 rfl (sg16p rfl) rfl
theorem dX12_costOf_30 : decode cX12_costOf 30 = .ok (.iload_n 3, 1) := dec_0 oX12_costOf (of29 _) rfl
theorem dX12_costOf_31 : decode cX12_costOf 31 = .ok (.iload_n 3, 1) := dec_0 oX12_costOf (of29 _) rfl
theorem dX12_costOf_32 : decode cX12_costOf 32 = .ok (.imul, 1) := dec_0 oX12_costOf (of104 _) rfl
theorem dX12_costOf_33 : decode cX12_costOf 33 = .ok (.ireturn, 1) := dec_0 oX12_costOf (of172 _) rfl
theorem dX12_isBand_0 : decode cX12_isBand 0 = .ok (.iload_n 2, 1) := dec_0 oX12_isBand (of28 _) rfl
theorem dX12_isBand_1 : decode cX12_isBand 1 = .ok (.iconst 0, 1) := dec_0 oX12_isBand (of3 _) rfl
theorem dX12_isBand_2 : decode cX12_isBand 2 = .ok (.aload_n 0, 1) := dec_0 oX12_isBand (of42 _) rfl
theorem dX12_isBand_3 : decode cX12_isBand 3 = .ok (.getfield 267, 3) := dec_2 oX12_isBand (of180 _) 1 11 rfl rfl
theorem dX12_isBand_6 : decode cX12_isBand 6 = .ok (.iconst 1, 1) := dec_0 oX12_isBand (of4 _) rfl
theorem dX12_isBand_7 : decode cX12_isBand 7 = .ok (.isub, 1) := dec_0 oX12_isBand (of100 _) rfl
theorem dX12_isBand_8 : decode cX12_isBand 8 = .ok (.invokestatic 244, 3) := dec_2 oX12_isBand (of184 _) 0 244 rfl rfl
theorem dX12_isBand_11 : decode cX12_isBand 11 = .ok (.ifCond .eq 33, 3) := dec_s2 oX12_isBand (of153 _) 0 33 rfl (sg16p rfl) rfl
theorem dX12_isBand_14 : decode cX12_isBand 14 = .ok (.iload_n 1, 1) := dec_0 oX12_isBand (of27 _) rfl
theorem dX12_isBand_15 : decode cX12_isBand 15 = .ok (.iload_n 2, 1) := dec_0 oX12_isBand (of28 _) rfl
theorem dX12_isBand_16 : decode cX12_isBand 16 = .ok (.isub, 1) := dec_0 oX12_isBand (of100 _) rfl
theorem dX12_isBand_17 : decode cX12_isBand 17 = .ok (.aload_n 0, 1) := dec_0 oX12_isBand (of42 _) rfl
theorem dX12_isBand_18 : decode cX12_isBand 18 = .ok (.getfield 73, 3) := dec_2 oX12_isBand (of180 _) 0 73 rfl rfl
theorem dX12_isBand_21 : decode cX12_isBand 21 = .ok (.sipush 161, 3) := dec_s2 oX12_isBand (of17 _) 0 161 rfl (sg16p rfl) rfl
theorem dX12_isBand_24 : decode cX12_isBand 24 = .ok (.iaload, 1) := dec_0 oX12_isBand (of46 _) rfl
theorem dX12_isBand_25 : decode cX12_isBand 25 = .ok (.ineg, 1) := dec_0 oX12_isBand (of116 _) rfl
theorem dX12_isBand_26 : decode cX12_isBand 26 = .ok (.aload_n 0, 1) := dec_0 oX12_isBand (of42 _) rfl
theorem dX12_isBand_27 : decode cX12_isBand 27 = .ok (.getfield 73, 3) := dec_2 oX12_isBand (of180 _) 0 73 rfl rfl
theorem dX12_isBand_30 : decode cX12_isBand 30 = .ok (.sipush 161, 3) := dec_s2 oX12_isBand (of17 _) 0 161 rfl (sg16p rfl) rfl
theorem dX12_isBand_33 : decode cX12_isBand 33 = .ok (.iaload, 1) := dec_0 oX12_isBand (of46 _) rfl
theorem dX12_isBand_34 : decode cX12_isBand 34 = .ok (.invokestatic 244, 3) := dec_2 oX12_isBand (of184 _) 0 244 rfl rfl
theorem dX12_isBand_37 : decode cX12_isBand 37 = .ok (.ifCond .eq 7, 3) := dec_s2 oX12_isBand (of153 _) 0 7 rfl (sg16p rfl) rfl
theorem dX12_isBand_40 : decode cX12_isBand 40 = .ok (.iconst 1, 1) := dec_0 oX12_isBand (of4 _) rfl
theorem dX12_isBand_41 : decode cX12_isBand 41 = .ok (.goto 4, 3) := dec_s2 oX12_isBand (of167 _) 0 4 rfl (sg16p rfl) rfl
theorem dX12_isBand_44 : decode cX12_isBand 44 = .ok (.iconst 0, 1) := dec_0 oX12_isBand (of3 _) rfl
theorem dX12_isBand_45 : decode cX12_isBand 45 = .ok (.ireturn, 1) := dec_0 oX12_isBand (of172 _) rfl
theorem dX12_atTable_0 : decode cX12_atTable 0 = .ok (.iload_n 1, 1) := dec_0 oX12_atTable (of27 _) rfl
theorem dX12_atTable_1 : decode cX12_atTable 1 = .ok (.ifCond .lt 16, 3) := dec_s2 oX12_atTable (of155 _) 0 16 rfl (sg16p rfl) rfl
theorem dX12_atTable_4 : decode cX12_atTable 4 = .ok (.iload_n 2, 1) := dec_0 oX12_atTable (of28 _) rfl
theorem dX12_atTable_5 : decode cX12_atTable 5 = .ok (.ifCond .lt 12, 3) := dec_s2 oX12_atTable (of155 _) 0 12 rfl (sg16p rfl) rfl
theorem dX12_atTable_8 : decode cX12_atTable 8 = .ok (.aload_n 0, 1) := dec_0 oX12_atTable (of42 _) rfl
theorem dX12_atTable_9 : decode cX12_atTable 9 = .ok (.iload_n 1, 1) := dec_0 oX12_atTable (of27 _) rfl
theorem dX12_atTable_10 : decode cX12_atTable 10 = .ok (.iload_n 2, 1) := dec_0 oX12_atTable (of28 _) rfl
theorem dX12_atTable_11 : decode cX12_atTable 11 = .ok (.invokevirtual 279, 3) := dec_2 oX12_atTable (of182 _) 1 23 rfl rfl
theorem dX12_atTable_14 : decode cX12_atTable 14 = .ok (.ifCond .ne 9, 3) := dec_s2 oX12_atTable (of154 _) 0 9 rfl (sg16p rfl) rfl
theorem dX12_atTable_17 : decode cX12_atTable 17 = .ok (.ldc_w 282, 3) := dec_2 oX12_atTable (of19 _) 1 26 rfl rfl
theorem dX12_atTable_20 : decode cX12_atTable 20 = .ok (.goto 14, 3) := dec_s2 oX12_atTable (of167 _) 0 14 rfl (sg16p rfl) rfl
theorem dX12_atTable_23 : decode cX12_atTable 23 = .ok (.aload_n 0, 1) := dec_0 oX12_atTable (of42 _) rfl
theorem dX12_atTable_24 : decode cX12_atTable 24 = .ok (.getfield 82, 3) := dec_2 oX12_atTable (of180 _) 0 82 rfl rfl
theorem dX12_atTable_27 : decode cX12_atTable 27 = .ok (.bipush 16, 2) := dec_s1 oX12_atTable (of16 _) 16 rfl (sg8p rfl) rfl
theorem dX12_atTable_29 : decode cX12_atTable 29 = .ok (.iload_n 1, 1) := dec_0 oX12_atTable (of27 _) rfl
theorem dX12_atTable_30 : decode cX12_atTable 30 = .ok (.imul, 1) := dec_0 oX12_atTable (of104 _) rfl
theorem dX12_atTable_31 : decode cX12_atTable 31 = .ok (.iload_n 2, 1) := dec_0 oX12_atTable (of28 _) rfl
theorem dX12_atTable_32 : decode cX12_atTable 32 = .ok (.iadd, 1) := dec_0 oX12_atTable (of96 _) rfl
theorem dX12_atTable_33 : decode cX12_atTable 33 = .ok (.iaload, 1) := dec_0 oX12_atTable (of46 _) rfl
theorem dX12_atTable_34 : decode cX12_atTable 34 = .ok (.ireturn, 1) := dec_0 oX12_atTable (of172 _) rfl
theorem dX12_least_0 : decode cX12_least 0 = .ok (.iload_n 0, 1) := dec_0 oX12_least (of26 _) rfl
theorem dX12_least_1 : decode cX12_least 1 = .ok (.iload_n 1, 1) := dec_0 oX12_least (of27 _) rfl
theorem dX12_least_2 : decode cX12_least 2 = .ok (.if_icmp .ge 7, 3) := dec_s2 oX12_least (of162 _) 0 7 rfl (sg16p rfl) rfl
theorem dX12_least_5 : decode cX12_least 5 = .ok (.iload_n 0, 1) := dec_0 oX12_least (of26 _) rfl
theorem dX12_least_6 : decode cX12_least 6 = .ok (.goto 4, 3) := dec_s2 oX12_least (of167 _) 0 4 rfl (sg16p rfl) rfl
theorem dX12_least_9 : decode cX12_least 9 = .ok (.iload_n 1, 1) := dec_0 oX12_least (of27 _) rfl
theorem dX12_least_10 : decode cX12_least 10 = .ok (.ireturn, 1) := dec_0 oX12_least (of172 _) rfl
theorem dX12_laysRow_0 : decode cX12_laysRow 0 = .ok (.ldc_w 282, 3) := dec_2 oX12_laysRow (of19 _) 1 26 rfl rfl
theorem dX12_laysRow_3 : decode cX12_laysRow 3 = .ok (.istore_n 2, 1) := dec_0 oX12_laysRow (of61 _) rfl
theorem dX12_laysRow_4 : decode cX12_laysRow 4 = .ok (.iconst 0, 1) := dec_0 oX12_laysRow (of3 _) rfl
theorem dX12_laysRow_5 : decode cX12_laysRow 5 = .ok (.istore_n 3, 1) := dec_0 oX12_laysRow (of62 _) rfl
theorem dX12_laysRow_6 : decode cX12_laysRow 6 = .ok (.iload_n 3, 1) := dec_0 oX12_laysRow (of29 _) rfl
theorem dX12_laysRow_7 : decode cX12_laysRow 7 = .ok (.aload_n 0, 1) := dec_0 oX12_laysRow (of42 _) rfl
theorem dX12_laysRow_8 : decode cX12_laysRow 8 = .ok (.getfield 267, 3) := dec_2 oX12_laysRow (of180 _) 1 11 rfl rfl
theorem dX12_laysRow_11 : decode cX12_laysRow 11 = .ok (.if_icmp .ge 122, 3) := dec_s2 oX12_laysRow (of162 _) 0 122 rfl (sg16p rfl) rfl
theorem dX12_laysRow_14 : decode cX12_laysRow 14 = .ok (.aload_n 0, 1) := dec_0 oX12_laysRow (of42 _) rfl
theorem dX12_laysRow_15 : decode cX12_laysRow 15 = .ok (.iload_n 1, 1) := dec_0 oX12_laysRow (of27 _) rfl
theorem dX12_laysRow_16 : decode cX12_laysRow 16 = .ok (.iload_n 3, 1) := dec_0 oX12_laysRow (of29 _) rfl
theorem dX12_laysRow_17 : decode cX12_laysRow 17 = .ok (.invokevirtual 279, 3) := dec_2 oX12_laysRow (of182 _) 1 23 rfl rfl
theorem dX12_laysRow_20 : decode cX12_laysRow 20 = .ok (.ifCond .ne 6, 3) := dec_s2 oX12_laysRow (of154 _) 0 6 rfl (sg16p rfl) rfl
theorem dX12_laysRow_23 : decode cX12_laysRow 23 = .ok (.goto 104, 3) := dec_s2 oX12_laysRow (of167 _) 0 104 rfl (sg16p rfl) rfl
theorem dX12_laysRow_26 : decode cX12_laysRow 26 = .ok (.aload_n 0, 1) := dec_0 oX12_laysRow (of42 _) rfl
theorem dX12_laysRow_27 : decode cX12_laysRow 27 = .ok (.iload_n 1, 1) := dec_0 oX12_laysRow (of27 _) rfl
theorem dX12_laysRow_28 : decode cX12_laysRow 28 = .ok (.iconst 1, 1) := dec_0 oX12_laysRow (of4 _) rfl
theorem dX12_laysRow_29 : decode cX12_laysRow 29 = .ok (.isub, 1) := dec_0 oX12_laysRow (of100 _) rfl
theorem dX12_laysRow_30 : decode cX12_laysRow 30 = .ok (.iload_n 3, 1) := dec_0 oX12_laysRow (of29 _) rfl
theorem dX12_laysRow_31 : decode cX12_laysRow 31 = .ok (.iconst 1, 1) := dec_0 oX12_laysRow (of4 _) rfl
theorem dX12_laysRow_32 : decode cX12_laysRow 32 = .ok (.isub, 1) := dec_0 oX12_laysRow (of100 _) rfl
theorem dX12_laysRow_33 : decode cX12_laysRow 33 = .ok (.invokevirtual 283, 3) := dec_2 oX12_laysRow (of182 _) 1 27 rfl rfl
theorem dX12_laysRow_36 : decode cX12_laysRow 36 = .ok (.aload_n 0, 1) := dec_0 oX12_laysRow (of42 _) rfl
theorem dX12_laysRow_37 : decode cX12_laysRow 37 = .ok (.iload_n 1, 1) := dec_0 oX12_laysRow (of27 _) rfl
theorem dX12_laysRow_38 : decode cX12_laysRow 38 = .ok (.iconst 1, 1) := dec_0 oX12_laysRow (of4 _) rfl
theorem dX12_laysRow_39 : decode cX12_laysRow 39 = .ok (.isub, 1) := dec_0 oX12_laysRow (of100 _) rfl
theorem dX12_laysRow_40 : decode cX12_laysRow 40 = .ok (.iload_n 3, 1) := dec_0 oX12_laysRow (of29 _) rfl
theorem dX12_laysRow_41 : decode cX12_laysRow 41 = .ok (.invokevirtual 283, 3) := dec_2 oX12_laysRow (of182 _) 1 27 rfl rfl
theorem dX12_laysRow_44 : decode cX12_laysRow 44 = .ok (.aload_n 0, 1) := dec_0 oX12_laysRow (of42 _) rfl
theorem dX12_laysRow_45 : decode cX12_laysRow 45 = .ok (.iload_n 1, 1) := dec_0 oX12_laysRow (of27 _) rfl
theorem dX12_laysRow_46 : decode cX12_laysRow 46 = .ok (.iload_n 3, 1) := dec_0 oX12_laysRow (of29 _) rfl
theorem dX12_laysRow_47 : decode cX12_laysRow 47 = .ok (.iconst 1, 1) := dec_0 oX12_laysRow (of4 _) rfl
theorem dX12_laysRow_48 : decode cX12_laysRow 48 = .ok (.isub, 1) := dec_0 oX12_laysRow (of100 _) rfl
theorem dX12_laysRow_49 : decode cX12_laysRow 49 = .ok (.invokevirtual 283, 3) := dec_2 oX12_laysRow (of182 _) 1 27 rfl rfl
theorem dX12_laysRow_52 : decode cX12_laysRow 52 = .ok (.invokestatic 286, 3) := dec_2 oX12_laysRow (of184 _) 1 30 rfl rfl
theorem dX12_laysRow_55 : decode cX12_laysRow 55 = .ok (.invokestatic 286, 3) := dec_2 oX12_laysRow (of184 _) 1 30 rfl rfl
theorem dX12_laysRow_58 : decode cX12_laysRow 58 = .ok (.istore 4, 2) := dec_1 oX12_laysRow (of54 _) 4 rfl rfl
theorem dX12_laysRow_60 : decode cX12_laysRow 60 = .ok (.iload_n 1, 1) := dec_0 oX12_laysRow (of27 _) rfl
theorem dX12_laysRow_61 : decode cX12_laysRow 61 = .ok (.ifCond .ne 10, 3) := dec_s2 oX12_laysRow (of154 _) 0 10 rfl (sg16p rfl) rfl
theorem dX12_laysRow_64 : decode cX12_laysRow 64 = .ok (.iload_n 3, 1) := dec_0 oX12_laysRow (of29 _) rfl
theorem dX12_laysRow_65 : decode cX12_laysRow 65 = .ok (.ifCond .ne 6, 3) := dec_s2 oX12_laysRow (of154 _) 0 6 rfl (sg16p rfl) rfl
theorem dX12_laysRow_68 : decode cX12_laysRow 68 = .ok (.iconst 0, 1) := dec_0 oX12_laysRow (of3 _) rfl
theorem dX12_laysRow_69 : decode cX12_laysRow 69 = .ok (.istore 4, 2) := dec_1 oX12_laysRow (of54 _) 4 rfl rfl
theorem dX12_laysRow_71 : decode cX12_laysRow 71 = .ok (.aload_n 0, 1) := dec_0 oX12_laysRow (of42 _) rfl
theorem dX12_laysRow_72 : decode cX12_laysRow 72 = .ok (.getfield 82, 3) := dec_2 oX12_laysRow (of180 _) 0 82 rfl rfl
theorem dX12_laysRow_75 : decode cX12_laysRow 75 = .ok (.bipush 16, 2) := dec_s1 oX12_laysRow (of16 _) 16 rfl (sg8p rfl) rfl
theorem dX12_laysRow_77 : decode cX12_laysRow 77 = .ok (.iload_n 1, 1) := dec_0 oX12_laysRow (of27 _) rfl
theorem dX12_laysRow_78 : decode cX12_laysRow 78 = .ok (.imul, 1) := dec_0 oX12_laysRow (of104 _) rfl
theorem dX12_laysRow_79 : decode cX12_laysRow 79 = .ok (.iload_n 3, 1) := dec_0 oX12_laysRow (of29 _) rfl
theorem dX12_laysRow_80 : decode cX12_laysRow 80 = .ok (.iadd, 1) := dec_0 oX12_laysRow (of96 _) rfl
theorem dX12_laysRow_81 : decode cX12_laysRow 81 = .ok (.iload 4, 2) := dec_1 oX12_laysRow (of21 _) 4 rfl rfl
theorem dX12_laysRow_83 : decode cX12_laysRow 83 = .ok (.aload_n 0, 1) := dec_0 oX12_laysRow (of42 _) rfl
theorem dX12_laysRow_84 : decode cX12_laysRow 84 = .ok (.aload_n 0, 1) := dec_0 oX12_laysRow (of42 _) rfl
theorem dX12_laysRow_85 : decode cX12_laysRow 85 = .ok (.getfield 76, 3) := dec_2 oX12_laysRow (of180 _) 0 76 rfl rfl
theorem dX12_laysRow_88 : decode cX12_laysRow 88 = .ok (.iload_n 1, 1) := dec_0 oX12_laysRow (of27 _) rfl
theorem dX12_laysRow_89 : decode cX12_laysRow 89 = .ok (.iaload, 1) := dec_0 oX12_laysRow (of46 _) rfl
theorem dX12_laysRow_90 : decode cX12_laysRow 90 = .ok (.aload_n 0, 1) := dec_0 oX12_laysRow (of42 _) rfl
theorem dX12_laysRow_91 : decode cX12_laysRow 91 = .ok (.getfield 79, 3) := dec_2 oX12_laysRow (of180 _) 0 79 rfl rfl
theorem dX12_laysRow_94 : decode cX12_laysRow 94 = .ok (.iload_n 3, 1) := dec_0 oX12_laysRow (of29 _) rfl
theorem dX12_laysRow_95 : decode cX12_laysRow 95 = .ok (.iaload, 1) := dec_0 oX12_laysRow (of46 _) rfl
theorem dX12_laysRow_96 : decode cX12_laysRow 96 = .ok (.invokevirtual 289, 3) := dec_2 oX12_laysRow (of182 _) 1 33 rfl rfl
theorem dX12_laysRow_99 : decode cX12_laysRow 99 = .ok (.iadd, 1) := dec_0 oX12_laysRow (of96 _) rfl
theorem dX12_laysRow_100 : decode cX12_laysRow 100 = .ok (.iastore, 1) := dec_0 oX12_laysRow (of79 _) rfl
theorem dX12_laysRow_101 : decode cX12_laysRow 101 = .ok (.iload_n 2, 1) := dec_0 oX12_laysRow (of28 _) rfl
theorem dX12_laysRow_102 : decode cX12_laysRow 102 = .ok (.aload_n 0, 1) := dec_0 oX12_laysRow (of42 _) rfl
theorem dX12_laysRow_103 : decode cX12_laysRow 103 = .ok (.getfield 82, 3) := dec_2 oX12_laysRow (of180 _) 0 82 rfl rfl
theorem dX12_laysRow_106 : decode cX12_laysRow 106 = .ok (.bipush 16, 2) := dec_s1 oX12_laysRow (of16 _) 16 rfl (sg8p rfl) rfl
theorem dX12_laysRow_108 : decode cX12_laysRow 108 = .ok (.iload_n 1, 1) := dec_0 oX12_laysRow (of27 _) rfl
theorem dX12_laysRow_109 : decode cX12_laysRow 109 = .ok (.imul, 1) := dec_0 oX12_laysRow (of104 _) rfl
theorem dX12_laysRow_110 : decode cX12_laysRow 110 = .ok (.iload_n 3, 1) := dec_0 oX12_laysRow (of29 _) rfl
theorem dX12_laysRow_111 : decode cX12_laysRow 111 = .ok (.iadd, 1) := dec_0 oX12_laysRow (of96 _) rfl
theorem dX12_laysRow_112 : decode cX12_laysRow 112 = .ok (.iaload, 1) := dec_0 oX12_laysRow (of46 _) rfl
theorem dX12_laysRow_113 : decode cX12_laysRow 113 = .ok (.invokestatic 286, 3) := dec_2 oX12_laysRow (of184 _) 1 30 rfl rfl
theorem dX12_laysRow_116 : decode cX12_laysRow 116 = .ok (.istore_n 2, 1) := dec_0 oX12_laysRow (of61 _) rfl
theorem dX12_laysRow_117 : decode cX12_laysRow 117 = .ok (.aload_n 0, 1) := dec_0 oX12_laysRow (of42 _) rfl
theorem dX12_laysRow_118 : decode cX12_laysRow 118 = .ok (.dup, 1) := dec_0 oX12_laysRow (of89 _) rfl
theorem dX12_laysRow_119 : decode cX12_laysRow 119 = .ok (.getfield 292, 3) := dec_2 oX12_laysRow (of180 _) 1 36 rfl rfl
theorem dX12_laysRow_122 : decode cX12_laysRow 122 = .ok (.iconst 1, 1) := dec_0 oX12_laysRow (of4 _) rfl
theorem dX12_laysRow_123 : decode cX12_laysRow 123 = .ok (.iadd, 1) := dec_0 oX12_laysRow (of96 _) rfl
theorem dX12_laysRow_124 : decode cX12_laysRow 124 = .ok (.putfield 292, 3) := dec_2 oX12_laysRow (of181 _) 1 36 rfl rfl
theorem dX12_laysRow_127 : decode cX12_laysRow 127 = .ok (.iinc 3 1, 3) := dec_ii oX12_laysRow (of132 _) 3 1 rfl (sg8p rfl) rfl
theorem dX12_laysRow_130 : decode cX12_laysRow 130 = .ok (.goto (-124), 3) := dec_s2 oX12_laysRow (of167 _) 255 132 rfl (sg16n (k := 124) rfl) rfl
theorem dX12_laysRow_133 : decode cX12_laysRow 133 = .ok (.iload_n 2, 1) := dec_0 oX12_laysRow (of28 _) rfl
theorem dX12_laysRow_134 : decode cX12_laysRow 134 = .ok (.ireturn, 1) := dec_0 oX12_laysRow (of172 _) rfl
theorem dX12_laysTable_0 : decode cX12_laysTable 0 = .ok (.aload_n 0, 1) := dec_0 oX12_laysTable (of42 _) rfl
theorem dX12_laysTable_1 : decode cX12_laysTable 1 = .ok (.iconst 0, 1) := dec_0 oX12_laysTable (of3 _) rfl
theorem dX12_laysTable_2 : decode cX12_laysTable 2 = .ok (.putfield 292, 3) := dec_2 oX12_laysTable (of181 _) 1 36 rfl rfl
theorem dX12_laysTable_5 : decode cX12_laysTable 5 = .ok (.aload_n 0, 1) := dec_0 oX12_laysTable (of42 _) rfl
theorem dX12_laysTable_6 : decode cX12_laysTable 6 = .ok (.iconst (-1), 1) := dec_0 oX12_laysTable (of2 _) rfl
theorem dX12_laysTable_7 : decode cX12_laysTable 7 = .ok (.putfield 295, 3) := dec_2 oX12_laysTable (of181 _) 1 39 rfl rfl
theorem dX12_laysTable_10 : decode cX12_laysTable 10 = .ok (.iconst 0, 1) := dec_0 oX12_laysTable (of3 _) rfl
theorem dX12_laysTable_11 : decode cX12_laysTable 11 = .ok (.istore_n 2, 1) := dec_0 oX12_laysTable (of61 _) rfl
theorem dX12_laysTable_12 : decode cX12_laysTable 12 = .ok (.iload_n 2, 1) := dec_0 oX12_laysTable (of28 _) rfl
theorem dX12_laysTable_13 : decode cX12_laysTable 13 = .ok (.aload_n 0, 1) := dec_0 oX12_laysTable (of42 _) rfl
theorem dX12_laysTable_14 : decode cX12_laysTable 14 = .ok (.getfield 267, 3) := dec_2 oX12_laysTable (of180 _) 1 11 rfl rfl
theorem dX12_laysTable_17 : decode cX12_laysTable 17 = .ok (.if_icmp .ge 30, 3) := dec_s2 oX12_laysTable (of162 _) 0 30 rfl (sg16p rfl) rfl
theorem dX12_laysTable_20 : decode cX12_laysTable 20 = .ok (.aload_n 0, 1) := dec_0 oX12_laysTable (of42 _) rfl
theorem dX12_laysTable_21 : decode cX12_laysTable 21 = .ok (.iload_n 2, 1) := dec_0 oX12_laysTable (of28 _) rfl
theorem dX12_laysTable_22 : decode cX12_laysTable 22 = .ok (.invokevirtual 298, 3) := dec_2 oX12_laysTable (of182 _) 1 42 rfl rfl
theorem dX12_laysTable_25 : decode cX12_laysTable 25 = .ok (.iload_n 1, 1) := dec_0 oX12_laysTable (of27 _) rfl
theorem dX12_laysTable_26 : decode cX12_laysTable 26 = .ok (.if_icmp .ge 6, 3) := dec_s2 oX12_laysTable (of162 _) 0 6 rfl (sg16p rfl) rfl
theorem dX12_laysTable_29 : decode cX12_laysTable 29 = .ok (.goto 12, 3) := dec_s2 oX12_laysTable (of167 _) 0 12 rfl (sg16p rfl) rfl
theorem dX12_laysTable_32 : decode cX12_laysTable 32 = .ok (.aload_n 0, 1) := dec_0 oX12_laysTable (of42 _) rfl
theorem dX12_laysTable_33 : decode cX12_laysTable 33 = .ok (.iload_n 2, 1) := dec_0 oX12_laysTable (of28 _) rfl
theorem dX12_laysTable_34 : decode cX12_laysTable 34 = .ok (.putfield 295, 3) := dec_2 oX12_laysTable (of181 _) 1 39 rfl rfl
theorem dX12_laysTable_37 : decode cX12_laysTable 37 = .ok (.ldc_w 282, 3) := dec_2 oX12_laysTable (of19 _) 1 26 rfl rfl
theorem dX12_laysTable_40 : decode cX12_laysTable 40 = .ok (.ireturn, 1) := dec_0 oX12_laysTable (of172 _) rfl
theorem dX12_laysTable_41 : decode cX12_laysTable 41 = .ok (.iinc 2 1, 3) := dec_ii oX12_laysTable (of132 _) 2 1 rfl (sg8p rfl) rfl
theorem dX12_laysTable_44 : decode cX12_laysTable 44 = .ok (.goto (-32), 3) := dec_s2 oX12_laysTable (of167 _) 255 224 rfl (sg16n (k := 32) rfl) rfl
theorem dX12_laysTable_47 : decode cX12_laysTable 47 = .ok (.aload_n 0, 1) := dec_0 oX12_laysTable (of42 _) rfl
theorem dX12_laysTable_48 : decode cX12_laysTable 48 = .ok (.aload_n 0, 1) := dec_0 oX12_laysTable (of42 _) rfl
theorem dX12_laysTable_49 : decode cX12_laysTable 49 = .ok (.getfield 267, 3) := dec_2 oX12_laysTable (of180 _) 1 11 rfl rfl
theorem dX12_laysTable_52 : decode cX12_laysTable 52 = .ok (.iconst 1, 1) := dec_0 oX12_laysTable (of4 _) rfl
theorem dX12_laysTable_53 : decode cX12_laysTable 53 = .ok (.isub, 1) := dec_0 oX12_laysTable (of100 _) rfl
theorem dX12_laysTable_54 : decode cX12_laysTable 54 = .ok (.aload_n 0, 1) := dec_0 oX12_laysTable (of42 _) rfl
theorem dX12_laysTable_55 : decode cX12_laysTable 55 = .ok (.getfield 267, 3) := dec_2 oX12_laysTable (of180 _) 1 11 rfl rfl
theorem dX12_laysTable_58 : decode cX12_laysTable 58 = .ok (.iconst 1, 1) := dec_0 oX12_laysTable (of4 _) rfl
theorem dX12_laysTable_59 : decode cX12_laysTable 59 = .ok (.isub, 1) := dec_0 oX12_laysTable (of100 _) rfl
theorem dX12_laysTable_60 : decode cX12_laysTable 60 = .ok (.invokevirtual 283, 3) := dec_2 oX12_laysTable (of182 _) 1 27 rfl rfl
theorem dX12_laysTable_63 : decode cX12_laysTable 63 = .ok (.ireturn, 1) := dec_0 oX12_laysTable (of172 _) rfl
theorem dX12_distanceOf_0 : decode cX12_distanceOf 0 = .ok (.aload_n 0, 1) := dec_0 oX12_distanceOf (of42 _) rfl
theorem dX12_distanceOf_1 : decode cX12_distanceOf 1 = .ok (.iload_n 1, 1) := dec_0 oX12_distanceOf (of27 _) rfl
theorem dX12_distanceOf_2 : decode cX12_distanceOf 2 = .ok (.iload_n 2, 1) := dec_0 oX12_distanceOf (of28 _) rfl
theorem dX12_distanceOf_3 : decode cX12_distanceOf 3 = .ok (.invokevirtual 301, 3) := dec_2 oX12_distanceOf (of182 _) 1 45 rfl rfl
theorem dX12_distanceOf_6 : decode cX12_distanceOf 6 = .ok (.aload_n 0, 1) := dec_0 oX12_distanceOf (of42 _) rfl
theorem dX12_distanceOf_7 : decode cX12_distanceOf 7 = .ok (.ldc_w 282, 3) := dec_2 oX12_distanceOf (of19 _) 1 26 rfl rfl
theorem dX12_distanceOf_10 : decode cX12_distanceOf 10 = .ok (.invokevirtual 304, 3) := dec_2 oX12_distanceOf (of182 _) 1 48 rfl rfl
theorem dX12_distanceOf_13 : decode cX12_distanceOf 13 = .ok (.ireturn, 1) := dec_0 oX12_distanceOf (of172 _) rfl
theorem dX12_endsOf_0 : decode cX12_endsOf 0 = .ok (.aload_n 0, 1) := dec_0 oX12_endsOf (of42 _) rfl
theorem dX12_endsOf_1 : decode cX12_endsOf 1 = .ok (.aload_n 0, 1) := dec_0 oX12_endsOf (of42 _) rfl
theorem dX12_endsOf_2 : decode cX12_endsOf 2 = .ok (.getfield 76, 3) := dec_2 oX12_endsOf (of180 _) 0 76 rfl rfl
theorem dX12_endsOf_5 : decode cX12_endsOf 5 = .ok (.iconst 0, 1) := dec_0 oX12_endsOf (of3 _) rfl
theorem dX12_endsOf_6 : decode cX12_endsOf 6 = .ok (.iaload, 1) := dec_0 oX12_endsOf (of46 _) rfl
theorem dX12_endsOf_7 : decode cX12_endsOf 7 = .ok (.aload_n 0, 1) := dec_0 oX12_endsOf (of42 _) rfl
theorem dX12_endsOf_8 : decode cX12_endsOf 8 = .ok (.getfield 79, 3) := dec_2 oX12_endsOf (of180 _) 0 79 rfl rfl
theorem dX12_endsOf_11 : decode cX12_endsOf 11 = .ok (.iconst 0, 1) := dec_0 oX12_endsOf (of3 _) rfl
theorem dX12_endsOf_12 : decode cX12_endsOf 12 = .ok (.iaload, 1) := dec_0 oX12_endsOf (of46 _) rfl
theorem dX12_endsOf_13 : decode cX12_endsOf 13 = .ok (.invokevirtual 289, 3) := dec_2 oX12_endsOf (of182 _) 1 33 rfl rfl
theorem dX12_endsOf_16 : decode cX12_endsOf 16 = .ok (.aload_n 0, 1) := dec_0 oX12_endsOf (of42 _) rfl
theorem dX12_endsOf_17 : decode cX12_endsOf 17 = .ok (.aload_n 0, 1) := dec_0 oX12_endsOf (of42 _) rfl
theorem dX12_endsOf_18 : decode cX12_endsOf 18 = .ok (.getfield 76, 3) := dec_2 oX12_endsOf (of180 _) 0 76 rfl rfl
theorem dX12_endsOf_21 : decode cX12_endsOf 21 = .ok (.aload_n 0, 1) := dec_0 oX12_endsOf (of42 _) rfl
theorem dX12_endsOf_22 : decode cX12_endsOf 22 = .ok (.getfield 267, 3) := dec_2 oX12_endsOf (of180 _) 1 11 rfl rfl
theorem dX12_endsOf_25 : decode cX12_endsOf 25 = .ok (.iconst 1, 1) := dec_0 oX12_endsOf (of4 _) rfl
theorem dX12_endsOf_26 : decode cX12_endsOf 26 = .ok (.isub, 1) := dec_0 oX12_endsOf (of100 _) rfl
theorem dX12_endsOf_27 : decode cX12_endsOf 27 = .ok (.iaload, 1) := dec_0 oX12_endsOf (of46 _) rfl
theorem dX12_endsOf_28 : decode cX12_endsOf 28 = .ok (.aload_n 0, 1) := dec_0 oX12_endsOf (of42 _) rfl
theorem dX12_endsOf_29 : decode cX12_endsOf 29 = .ok (.getfield 79, 3) := dec_2 oX12_endsOf (of180 _) 0 79 rfl rfl
theorem dX12_endsOf_32 : decode cX12_endsOf 32 = .ok (.aload_n 0, 1) := dec_0 oX12_endsOf (of42 _) rfl
theorem dX12_endsOf_33 : decode cX12_endsOf 33 = .ok (.getfield 267, 3) := dec_2 oX12_endsOf (of180 _) 1 11 rfl rfl
theorem dX12_endsOf_36 : decode cX12_endsOf 36 = .ok (.iconst 1, 1) := dec_0 oX12_endsOf (of4 _) rfl
theorem dX12_endsOf_37 : decode cX12_endsOf 37 = .ok (.isub, 1) := dec_0 oX12_endsOf (of100 _) rfl
theorem dX12_endsOf_38 : decode cX12_endsOf 38 = .ok (.iaload, 1) := dec_0 oX12_endsOf (of46 _) rfl
theorem dX12_endsOf_39 : decode cX12_endsOf 39 = .ok (.invokevirtual 289, 3) := dec_2 oX12_endsOf (of182 _) 1 33 rfl rfl
theorem dX12_endsOf_42 : decode cX12_endsOf 42 = .ok (.iadd, 1) := dec_0 oX12_endsOf (of96 _) rfl
theorem dX12_endsOf_43 : decode cX12_endsOf 43 = .ok (.ireturn, 1) := dec_0 oX12_endsOf (of172 _) rfl
theorem dX12_overOf_0 : decode cX12_overOf 0 = .ok (.iconst 0, 1) := dec_0 oX12_overOf (of3 _) rfl
theorem dX12_overOf_1 : decode cX12_overOf 1 = .ok (.istore_n 1, 1) := dec_0 oX12_overOf (of60 _) rfl
theorem dX12_overOf_2 : decode cX12_overOf 2 = .ok (.iconst 0, 1) := dec_0 oX12_overOf (of3 _) rfl
theorem dX12_overOf_3 : decode cX12_overOf 3 = .ok (.istore_n 2, 1) := dec_0 oX12_overOf (of61 _) rfl
theorem dX12_overOf_4 : decode cX12_overOf 4 = .ok (.iload_n 2, 1) := dec_0 oX12_overOf (of28 _) rfl
theorem dX12_overOf_5 : decode cX12_overOf 5 = .ok (.aload_n 0, 1) := dec_0 oX12_overOf (of42 _) rfl
theorem dX12_overOf_6 : decode cX12_overOf 6 = .ok (.getfield 267, 3) := dec_2 oX12_overOf (of180 _) 1 11 rfl rfl
theorem dX12_overOf_9 : decode cX12_overOf 9 = .ok (.if_icmp .ge 139, 3) := dec_s2 oX12_overOf (of162 _) 0 139 rfl (sg16p rfl) rfl
theorem dX12_overOf_12 : decode cX12_overOf 12 = .ok (.ldc_w 307, 3) := dec_2 oX12_overOf (of19 _) 1 51 rfl rfl
theorem dX12_overOf_15 : decode cX12_overOf 15 = .ok (.istore_n 3, 1) := dec_0 oX12_overOf (of62 _) rfl
theorem dX12_overOf_16 : decode cX12_overOf 16 = .ok (.ldc_w 282, 3) := dec_2 oX12_overOf (of19 _) 1 26 rfl rfl
theorem dX12_overOf_19 : decode cX12_overOf 19 = .ok (.istore 4, 2) := dec_1 oX12_overOf (of54 _) 4 rfl rfl
theorem dX12_overOf_21 : decode cX12_overOf 21 = .ok (.iconst 0, 1) := dec_0 oX12_overOf (of3 _) rfl
theorem dX12_overOf_22 : decode cX12_overOf 22 = .ok (.istore 5, 2) := dec_1 oX12_overOf (of54 _) 5 rfl rfl
theorem dX12_overOf_24 : decode cX12_overOf 24 = .ok (.iload 5, 2) := dec_1 oX12_overOf (of21 _) 5 rfl rfl
theorem dX12_overOf_26 : decode cX12_overOf 26 = .ok (.aload_n 0, 1) := dec_0 oX12_overOf (of42 _) rfl
theorem dX12_overOf_27 : decode cX12_overOf 27 = .ok (.getfield 267, 3) := dec_2 oX12_overOf (of180 _) 1 11 rfl rfl
theorem dX12_overOf_30 : decode cX12_overOf 30 = .ok (.if_icmp .ge 62, 3) := dec_s2 oX12_overOf (of162 _) 0 62 rfl (sg16p rfl) rfl
theorem dX12_overOf_33 : decode cX12_overOf 33 = .ok (.aload_n 0, 1) := dec_0 oX12_overOf (of42 _) rfl
theorem dX12_overOf_34 : decode cX12_overOf 34 = .ok (.iload 5, 2) := dec_1 oX12_overOf (of21 _) 5 rfl rfl
theorem dX12_overOf_36 : decode cX12_overOf 36 = .ok (.iload_n 2, 1) := dec_0 oX12_overOf (of28 _) rfl
theorem dX12_overOf_37 : decode cX12_overOf 37 = .ok (.invokevirtual 279, 3) := dec_2 oX12_overOf (of182 _) 1 23 rfl rfl
theorem dX12_overOf_40 : decode cX12_overOf 40 = .ok (.ifCond .ne 6, 3) := dec_s2 oX12_overOf (of154 _) 0 6 rfl (sg16p rfl) rfl
theorem dX12_overOf_43 : decode cX12_overOf 43 = .ok (.goto 43, 3) := dec_s2 oX12_overOf (of167 _) 0 43 rfl (sg16p rfl) rfl
theorem dX12_overOf_46 : decode cX12_overOf 46 = .ok (.aload_n 0, 1) := dec_0 oX12_overOf (of42 _) rfl
theorem dX12_overOf_47 : decode cX12_overOf 47 = .ok (.getfield 76, 3) := dec_2 oX12_overOf (of180 _) 0 76 rfl rfl
theorem dX12_overOf_50 : decode cX12_overOf 50 = .ok (.iload 5, 2) := dec_1 oX12_overOf (of21 _) 5 rfl rfl
theorem dX12_overOf_52 : decode cX12_overOf 52 = .ok (.iaload, 1) := dec_0 oX12_overOf (of46 _) rfl
theorem dX12_overOf_53 : decode cX12_overOf 53 = .ok (.iload_n 3, 1) := dec_0 oX12_overOf (of29 _) rfl
theorem dX12_overOf_54 : decode cX12_overOf 54 = .ok (.if_icmp .le 11, 3) := dec_s2 oX12_overOf (of164 _) 0 11 rfl (sg16p rfl) rfl
theorem dX12_overOf_57 : decode cX12_overOf 57 = .ok (.aload_n 0, 1) := dec_0 oX12_overOf (of42 _) rfl
theorem dX12_overOf_58 : decode cX12_overOf 58 = .ok (.getfield 76, 3) := dec_2 oX12_overOf (of180 _) 0 76 rfl rfl
theorem dX12_overOf_61 : decode cX12_overOf 61 = .ok (.iload 5, 2) := dec_1 oX12_overOf (of21 _) 5 rfl rfl
theorem dX12_overOf_63 : decode cX12_overOf 63 = .ok (.iaload, 1) := dec_0 oX12_overOf (of46 _) rfl
theorem dX12_overOf_64 : decode cX12_overOf 64 = .ok (.istore_n 3, 1) := dec_0 oX12_overOf (of62 _) rfl
theorem dX12_overOf_65 : decode cX12_overOf 65 = .ok (.aload_n 0, 1) := dec_0 oX12_overOf (of42 _) rfl
theorem dX12_overOf_66 : decode cX12_overOf 66 = .ok (.getfield 76, 3) := dec_2 oX12_overOf (of180 _) 0 76 rfl rfl
theorem dX12_overOf_69 : decode cX12_overOf 69 = .ok (.iload 5, 2) := dec_1 oX12_overOf (of21 _) 5 rfl rfl
theorem dX12_overOf_71 : decode cX12_overOf 71 = .ok (.iaload, 1) := dec_0 oX12_overOf (of46 _) rfl
theorem dX12_overOf_72 : decode cX12_overOf 72 = .ok (.iload 4, 2) := dec_1 oX12_overOf (of21 _) 4 rfl rfl
theorem dX12_overOf_74 : decode cX12_overOf 74 = .ok (.if_icmp .ge 12, 3) := dec_s2 oX12_overOf (of162 _) 0 12 rfl (sg16p rfl) rfl
theorem dX12_overOf_77 : decode cX12_overOf 77 = .ok (.aload_n 0, 1) := dec_0 oX12_overOf (of42 _) rfl
theorem dX12_overOf_78 : decode cX12_overOf 78 = .ok (.getfield 76, 3) := dec_2 oX12_overOf (of180 _) 0 76 rfl rfl
theorem dX12_overOf_81 : decode cX12_overOf 81 = .ok (.iload 5, 2) := dec_1 oX12_overOf (of21 _) 5 rfl rfl
theorem dX12_overOf_83 : decode cX12_overOf 83 = .ok (.iaload, 1) := dec_0 oX12_overOf (of46 _) rfl
theorem dX12_overOf_84 : decode cX12_overOf 84 = .ok (.istore 4, 2) := dec_1 oX12_overOf (of54 _) 4 rfl rfl
theorem dX12_overOf_86 : decode cX12_overOf 86 = .ok (.iinc 5 1, 3) := dec_ii oX12_overOf (of132 _) 5 1 rfl (sg8p rfl) rfl
theorem dX12_overOf_89 : decode cX12_overOf 89 = .ok (.goto (-65), 3) := dec_s2 oX12_overOf (of167 _) 255 191 rfl (sg16n (k := 65) rfl) rfl
theorem dX12_overOf_92 : decode cX12_overOf 92 = .ok (.aload_n 0, 1) := dec_0 oX12_overOf (of42 _) rfl
theorem dX12_overOf_93 : decode cX12_overOf 93 = .ok (.getfield 79, 3) := dec_2 oX12_overOf (of180 _) 0 79 rfl rfl
theorem dX12_overOf_96 : decode cX12_overOf 96 = .ok (.iload_n 2, 1) := dec_0 oX12_overOf (of28 _) rfl
theorem dX12_overOf_97 : decode cX12_overOf 97 = .ok (.iaload, 1) := dec_0 oX12_overOf (of46 _) rfl
theorem dX12_overOf_98 : decode cX12_overOf 98 = .ok (.iload_n 3, 1) := dec_0 oX12_overOf (of29 _) rfl
theorem dX12_overOf_99 : decode cX12_overOf 99 = .ok (.if_icmp .le 17, 3) := dec_s2 oX12_overOf (of164 _) 0 17 rfl (sg16p rfl) rfl
theorem dX12_overOf_102 : decode cX12_overOf 102 = .ok (.iload_n 1, 1) := dec_0 oX12_overOf (of27 _) rfl
theorem dX12_overOf_103 : decode cX12_overOf 103 = .ok (.aload_n 0, 1) := dec_0 oX12_overOf (of42 _) rfl
theorem dX12_overOf_104 : decode cX12_overOf 104 = .ok (.aload_n 0, 1) := dec_0 oX12_overOf (of42 _) rfl
theorem dX12_overOf_105 : decode cX12_overOf 105 = .ok (.getfield 79, 3) := dec_2 oX12_overOf (of180 _) 0 79 rfl rfl
theorem dX12_overOf_108 : decode cX12_overOf 108 = .ok (.iload_n 2, 1) := dec_0 oX12_overOf (of28 _) rfl
theorem dX12_overOf_109 : decode cX12_overOf 109 = .ok (.iaload, 1) := dec_0 oX12_overOf (of46 _) rfl
theorem dX12_overOf_110 : decode cX12_overOf 110 = .ok (.iload_n 3, 1) := dec_0 oX12_overOf (of29 _) rfl
theorem dX12_overOf_111 : decode cX12_overOf 111 = .ok (.invokevirtual 289, 3) := dec_2 oX12_overOf (of182 _) 1 33 rfl rfl
theorem dX12_overOf_114 : decode cX12_overOf 114 = .ok (.iadd, 1) := dec_0 oX12_overOf (of96 _) rfl
theorem dX12_overOf_115 : decode cX12_overOf 115 = .ok (.istore_n 1, 1) := dec_0 oX12_overOf (of60 _) rfl
theorem dX12_overOf_116 : decode cX12_overOf 116 = .ok (.aload_n 0, 1) := dec_0 oX12_overOf (of42 _) rfl
theorem dX12_overOf_117 : decode cX12_overOf 117 = .ok (.getfield 79, 3) := dec_2 oX12_overOf (of180 _) 0 79 rfl rfl
theorem dX12_overOf_120 : decode cX12_overOf 120 = .ok (.iload_n 2, 1) := dec_0 oX12_overOf (of28 _) rfl
theorem dX12_overOf_121 : decode cX12_overOf 121 = .ok (.iaload, 1) := dec_0 oX12_overOf (of46 _) rfl
theorem dX12_overOf_122 : decode cX12_overOf 122 = .ok (.iload 4, 2) := dec_1 oX12_overOf (of21 _) 4 rfl rfl
theorem dX12_overOf_124 : decode cX12_overOf 124 = .ok (.if_icmp .ge 18, 3) := dec_s2 oX12_overOf (of162 _) 0 18 rfl (sg16p rfl) rfl
theorem dX12_overOf_127 : decode cX12_overOf 127 = .ok (.iload_n 1, 1) := dec_0 oX12_overOf (of27 _) rfl
theorem dX12_overOf_128 : decode cX12_overOf 128 = .ok (.aload_n 0, 1) := dec_0 oX12_overOf (of42 _) rfl
theorem dX12_overOf_129 : decode cX12_overOf 129 = .ok (.aload_n 0, 1) := dec_0 oX12_overOf (of42 _) rfl
theorem dX12_overOf_130 : decode cX12_overOf 130 = .ok (.getfield 79, 3) := dec_2 oX12_overOf (of180 _) 0 79 rfl rfl
theorem dX12_overOf_133 : decode cX12_overOf 133 = .ok (.iload_n 2, 1) := dec_0 oX12_overOf (of28 _) rfl
theorem dX12_overOf_134 : decode cX12_overOf 134 = .ok (.iaload, 1) := dec_0 oX12_overOf (of46 _) rfl
theorem dX12_overOf_135 : decode cX12_overOf 135 = .ok (.iload 4, 2) := dec_1 oX12_overOf (of21 _) 4 rfl rfl
theorem dX12_overOf_137 : decode cX12_overOf 137 = .ok (.invokevirtual 289, 3) := dec_2 oX12_overOf (of182 _) 1 33 rfl rfl
theorem dX12_overOf_140 : decode cX12_overOf 140 = .ok (.iadd, 1) := dec_0 oX12_overOf (of96 _) rfl
theorem dX12_overOf_141 : decode cX12_overOf 141 = .ok (.istore_n 1, 1) := dec_0 oX12_overOf (of60 _) rfl
theorem dX12_overOf_142 : decode cX12_overOf 142 = .ok (.iinc 2 1, 3) := dec_ii oX12_overOf (of132 _) 2 1 rfl (sg8p rfl) rfl
theorem dX12_overOf_145 : decode cX12_overOf 145 = .ok (.goto (-141), 3) := dec_s2 oX12_overOf (of167 _) 255 115 rfl (sg16n (k := 141) rfl) rfl
theorem dX12_overOf_148 : decode cX12_overOf 148 = .ok (.iload_n 1, 1) := dec_0 oX12_overOf (of27 _) rfl
theorem dX12_overOf_149 : decode cX12_overOf 149 = .ok (.ireturn, 1) := dec_0 oX12_overOf (of172 _) rfl
theorem dX12_backOf_0 : decode cX12_backOf 0 = .ok (.aload_n 0, 1) := dec_0 oX12_backOf (of42 _) rfl
theorem dX12_backOf_1 : decode cX12_backOf 1 = .ok (.aload_n 0, 1) := dec_0 oX12_backOf (of42 _) rfl
theorem dX12_backOf_2 : decode cX12_backOf 2 = .ok (.getfield 267, 3) := dec_2 oX12_backOf (of180 _) 1 11 rfl rfl
theorem dX12_backOf_5 : decode cX12_backOf 5 = .ok (.invokevirtual 273, 3) := dec_2 oX12_backOf (of182 _) 1 17 rfl rfl
theorem dX12_backOf_8 : decode cX12_backOf 8 = .ok (.aload_n 0, 1) := dec_0 oX12_backOf (of42 _) rfl
theorem dX12_backOf_9 : decode cX12_backOf 9 = .ok (.invokevirtual 308, 3) := dec_2 oX12_backOf (of182 _) 1 52 rfl rfl
theorem dX12_backOf_12 : decode cX12_backOf 12 = .ok (.istore_n 1, 1) := dec_0 oX12_backOf (of60 _) rfl
theorem dX12_backOf_13 : decode cX12_backOf 13 = .ok (.aload_n 0, 1) := dec_0 oX12_backOf (of42 _) rfl
theorem dX12_backOf_14 : decode cX12_backOf 14 = .ok (.aload_n 0, 1) := dec_0 oX12_backOf (of42 _) rfl
theorem dX12_backOf_15 : decode cX12_backOf 15 = .ok (.getfield 267, 3) := dec_2 oX12_backOf (of180 _) 1 11 rfl rfl
theorem dX12_backOf_18 : decode cX12_backOf 18 = .ok (.invokevirtual 273, 3) := dec_2 oX12_backOf (of182 _) 1 17 rfl rfl
theorem dX12_backOf_21 : decode cX12_backOf 21 = .ok (.iload_n 1, 1) := dec_0 oX12_backOf (of27 _) rfl
theorem dX12_backOf_22 : decode cX12_backOf 22 = .ok (.ireturn, 1) := dec_0 oX12_backOf (of172 _) rfl
theorem dX12_passes_0 : decode cX12_passes 0 = .ok (.aload_n 0, 1) := dec_0 oX12_passes (of42 _) rfl
theorem dX12_passes_1 : decode cX12_passes 1 = .ok (.iload_n 1, 1) := dec_0 oX12_passes (of27 _) rfl
theorem dX12_passes_2 : decode cX12_passes 2 = .ok (.iload_n 2, 1) := dec_0 oX12_passes (of28 _) rfl
theorem dX12_passes_3 : decode cX12_passes 3 = .ok (.invokevirtual 301, 3) := dec_2 oX12_passes (of182 _) 1 45 rfl rfl
theorem dX12_passes_6 : decode cX12_passes 6 = .ok (.aload_n 0, 1) := dec_0 oX12_passes (of42 _) rfl
theorem dX12_passes_7 : decode cX12_passes 7 = .ok (.iconst 0, 1) := dec_0 oX12_passes (of3 _) rfl
theorem dX12_passes_8 : decode cX12_passes 8 = .ok (.putfield 292, 3) := dec_2 oX12_passes (of181 _) 1 36 rfl rfl
theorem dX12_passes_11 : decode cX12_passes 11 = .ok (.aload_n 0, 1) := dec_0 oX12_passes (of42 _) rfl
theorem dX12_passes_12 : decode cX12_passes 12 = .ok (.iconst (-1), 1) := dec_0 oX12_passes (of2 _) rfl
theorem dX12_passes_13 : decode cX12_passes 13 = .ok (.putfield 295, 3) := dec_2 oX12_passes (of181 _) 1 39 rfl rfl
theorem dX12_passes_16 : decode cX12_passes 16 = .ok (.aload_n 0, 1) := dec_0 oX12_passes (of42 _) rfl
theorem dX12_passes_17 : decode cX12_passes 17 = .ok (.ldc_w 282, 3) := dec_2 oX12_passes (of19 _) 1 26 rfl rfl
theorem dX12_passes_20 : decode cX12_passes 20 = .ok (.putfield 311, 3) := dec_2 oX12_passes (of181 _) 1 55 rfl rfl
theorem dX12_passes_23 : decode cX12_passes 23 = .ok (.aload_n 0, 1) := dec_0 oX12_passes (of42 _) rfl
theorem dX12_passes_24 : decode cX12_passes 24 = .ok (.invokevirtual 314, 3) := dec_2 oX12_passes (of182 _) 1 58 rfl rfl
theorem dX12_passes_27 : decode cX12_passes 27 = .ok (.iload_n 3, 1) := dec_0 oX12_passes (of29 _) rfl
theorem dX12_passes_28 : decode cX12_passes 28 = .ok (.if_icmp .lt 5, 3) := dec_s2 oX12_passes (of161 _) 0 5 rfl (sg16p rfl) rfl
theorem dX12_passes_31 : decode cX12_passes 31 = .ok (.iconst 1, 1) := dec_0 oX12_passes (of4 _) rfl
theorem dX12_passes_32 : decode cX12_passes 32 = .ok (.ireturn, 1) := dec_0 oX12_passes (of172 _) rfl
theorem dX12_passes_33 : decode cX12_passes 33 = .ok (.aload_n 0, 1) := dec_0 oX12_passes (of42 _) rfl
theorem dX12_passes_34 : decode cX12_passes 34 = .ok (.invokevirtual 308, 3) := dec_2 oX12_passes (of182 _) 1 52 rfl rfl
theorem dX12_passes_37 : decode cX12_passes 37 = .ok (.iload_n 3, 1) := dec_0 oX12_passes (of29 _) rfl
theorem dX12_passes_38 : decode cX12_passes 38 = .ok (.if_icmp .lt 5, 3) := dec_s2 oX12_passes (of161 _) 0 5 rfl (sg16p rfl) rfl
theorem dX12_passes_41 : decode cX12_passes 41 = .ok (.iconst 2, 1) := dec_0 oX12_passes (of5 _) rfl
theorem dX12_passes_42 : decode cX12_passes 42 = .ok (.ireturn, 1) := dec_0 oX12_passes (of172 _) rfl
theorem dX12_passes_43 : decode cX12_passes 43 = .ok (.aload_n 0, 1) := dec_0 oX12_passes (of42 _) rfl
theorem dX12_passes_44 : decode cX12_passes 44 = .ok (.invokevirtual 317, 3) := dec_2 oX12_passes (of182 _) 1 61 rfl rfl
theorem dX12_passes_47 : decode cX12_passes 47 = .ok (.iload_n 3, 1) := dec_0 oX12_passes (of29 _) rfl
theorem dX12_passes_48 : decode cX12_passes 48 = .ok (.if_icmp .lt 5, 3) := dec_s2 oX12_passes (of161 _) 0 5 rfl (sg16p rfl) rfl
theorem dX12_passes_51 : decode cX12_passes 51 = .ok (.iconst 3, 1) := dec_0 oX12_passes (of6 _) rfl
theorem dX12_passes_52 : decode cX12_passes 52 = .ok (.ireturn, 1) := dec_0 oX12_passes (of172 _) rfl
theorem dX12_passes_53 : decode cX12_passes 53 = .ok (.aload_n 0, 1) := dec_0 oX12_passes (of42 _) rfl
theorem dX12_passes_54 : decode cX12_passes 54 = .ok (.aload_n 0, 1) := dec_0 oX12_passes (of42 _) rfl
theorem dX12_passes_55 : decode cX12_passes 55 = .ok (.iload_n 3, 1) := dec_0 oX12_passes (of29 _) rfl
theorem dX12_passes_56 : decode cX12_passes 56 = .ok (.invokevirtual 304, 3) := dec_2 oX12_passes (of182 _) 1 48 rfl rfl
theorem dX12_passes_59 : decode cX12_passes 59 = .ok (.putfield 311, 3) := dec_2 oX12_passes (of181 _) 1 55 rfl rfl
theorem dX12_passes_62 : decode cX12_passes 62 = .ok (.aload_n 0, 1) := dec_0 oX12_passes (of42 _) rfl
theorem dX12_passes_63 : decode cX12_passes 63 = .ok (.getfield 295, 3) := dec_2 oX12_passes (of180 _) 1 39 rfl rfl
theorem dX12_passes_66 : decode cX12_passes 66 = .ok (.ifCond .lt 7, 3) := dec_s2 oX12_passes (of155 _) 0 7 rfl (sg16p rfl) rfl
theorem dX12_passes_69 : decode cX12_passes 69 = .ok (.iconst 4, 1) := dec_0 oX12_passes (of7 _) rfl
theorem dX12_passes_70 : decode cX12_passes 70 = .ok (.goto 16, 3) := dec_s2 oX12_passes (of167 _) 0 16 rfl (sg16p rfl) rfl
theorem dX12_passes_73 : decode cX12_passes 73 = .ok (.aload_n 0, 1) := dec_0 oX12_passes (of42 _) rfl
theorem dX12_passes_74 : decode cX12_passes 74 = .ok (.getfield 311, 3) := dec_2 oX12_passes (of180 _) 1 55 rfl rfl
theorem dX12_passes_77 : decode cX12_passes 77 = .ok (.iload_n 3, 1) := dec_0 oX12_passes (of29 _) rfl
theorem dX12_passes_78 : decode cX12_passes 78 = .ok (.if_icmp .lt 7, 3) := dec_s2 oX12_passes (of161 _) 0 7 rfl (sg16p rfl) rfl
theorem dX12_passes_81 : decode cX12_passes 81 = .ok (.iconst 5, 1) := dec_0 oX12_passes (of8 _) rfl
theorem dX12_passes_82 : decode cX12_passes 82 = .ok (.goto 4, 3) := dec_s2 oX12_passes (of167 _) 0 4 rfl (sg16p rfl) rfl
theorem dX12_passes_85 : decode cX12_passes 85 = .ok (.iconst 0, 1) := dec_0 oX12_passes (of3 _) rfl
theorem dX12_passes_86 : decode cX12_passes 86 = .ok (.ireturn, 1) := dec_0 oX12_passes (of172 _) rfl
theorem dX12_at_8 : decode cX12_at 8 = .ok (.aload_n 0, 1) := dec_0 oX12_at (of42 _) rfl
theorem dX12_at_9 : decode cX12_at 9 = .ok (.getfield 70, 3) := dec_2 oX12_at (of180 _) 0 70 rfl rfl
theorem dX12_at_12 : decode cX12_at 12 = .ok (.iconst 1, 1) := dec_0 oX12_at (of4 _) rfl
theorem dX12_at_13 : decode cX12_at 13 = .ok (.iload_n 1, 1) := dec_0 oX12_at (of27 _) rfl
theorem dX12_at_14 : decode cX12_at 14 = .ok (.iadd, 1) := dec_0 oX12_at (of96 _) rfl
theorem dX12_at_15 : decode cX12_at 15 = .ok (.iaload, 1) := dec_0 oX12_at (of46 _) rfl
theorem dX12_at_16 : decode cX12_at 16 = .ok (.goto 6, 3) := dec_s2 oX12_at (of167 _) 0 6 rfl (sg16p rfl) rfl
theorem dX12_query_8 : decode cX12_query 8 = .ok (.iload_n 2, 1) := dec_0 oX12_query (of28 _) rfl
theorem dX12_query_9 : decode cX12_query 9 = .ok (.iconst 0, 1) := dec_0 oX12_query (of3 _) rfl
theorem dX12_query_10 : decode cX12_query 10 = .ok (.aload_n 0, 1) := dec_0 oX12_query (of42 _) rfl
theorem dX12_query_11 : decode cX12_query 11 = .ok (.iload_n 1, 1) := dec_0 oX12_query (of27 _) rfl
theorem dX12_query_12 : decode cX12_query 12 = .ok (.invokevirtual 254, 3) := dec_2 oX12_query (of182 _) 0 254 rfl rfl
theorem dX12_query_15 : decode cX12_query 15 = .ok (.iconst 1, 1) := dec_0 oX12_query (of4 _) rfl
theorem dX12_query_16 : decode cX12_query 16 = .ok (.isub, 1) := dec_0 oX12_query (of100 _) rfl
theorem dX12_query_17 : decode cX12_query 17 = .ok (.invokestatic 244, 3) := dec_2 oX12_query (of184 _) 0 244 rfl rfl
theorem dX12_query_20 : decode cX12_query 20 = .ok (.ifCond .eq 24, 3) := dec_s2 oX12_query (of153 _) 0 24 rfl (sg16p rfl) rfl
theorem dX12_query_23 : decode cX12_query 23 = .ok (.aload_n 0, 1) := dec_0 oX12_query (of42 _) rfl
theorem dX12_query_24 : decode cX12_query 24 = .ok (.getfield 55, 3) := dec_2 oX12_query (of180 _) 0 55 rfl rfl
theorem dX12_query_27 : decode cX12_query 27 = .ok (.bipush 16, 2) := dec_s1 oX12_query (of16 _) 16 rfl (sg8p rfl) rfl
theorem dX12_query_29 : decode cX12_query 29 = .ok (.iconst 5, 1) := dec_0 oX12_query (of8 _) rfl
theorem dX12_query_30 : decode cX12_query 30 = .ok (.aload_n 0, 1) := dec_0 oX12_query (of42 _) rfl
theorem dX12_query_31 : decode cX12_query 31 = .ok (.getfield 197, 3) := dec_2 oX12_query (of180 _) 0 197 rfl rfl
theorem dX12_query_34 : decode cX12_query 34 = .ok (.imul, 1) := dec_0 oX12_query (of104 _) rfl
theorem dX12_query_35 : decode cX12_query 35 = .ok (.iload_n 1, 1) := dec_0 oX12_query (of27 _) rfl
theorem dX12_query_36 : decode cX12_query 36 = .ok (.iadd, 1) := dec_0 oX12_query (of96 _) rfl
theorem dX12_query_37 : decode cX12_query 37 = .ok (.imul, 1) := dec_0 oX12_query (of104 _) rfl
theorem dX12_query_38 : decode cX12_query 38 = .ok (.iload_n 2, 1) := dec_0 oX12_query (of28 _) rfl
theorem dX12_query_39 : decode cX12_query 39 = .ok (.iadd, 1) := dec_0 oX12_query (of96 _) rfl
theorem dX12_query_40 : decode cX12_query 40 = .ok (.iaload, 1) := dec_0 oX12_query (of46 _) rfl
theorem dX12_query_41 : decode cX12_query 41 = .ok (.goto 6, 3) := dec_s2 oX12_query (of167 _) 0 6 rfl (sg16p rfl) rfl
theorem dX12_records_9 : decode cX12_records 9 = .ok (.iconst 0, 1) := dec_0 oX12_records (of3 _) rfl
theorem dX12_records_10 : decode cX12_records 10 = .ok (.istore_n 1, 1) := dec_0 oX12_records (of60 _) rfl
theorem dX12_records_11 : decode cX12_records 11 = .ok (.iload_n 1, 1) := dec_0 oX12_records (of27 _) rfl
theorem dX12_records_12 : decode cX12_records 12 = .ok (.sipush 6435, 3) := dec_s2 oX12_records (of17 _) 25 35 rfl (sg16p rfl) rfl
theorem dX12_records_15 : decode cX12_records 15 = .ok (.if_icmp .ge 25, 3) := dec_s2 oX12_records (of162 _) 0 25 rfl (sg16p rfl) rfl
theorem dX12_records_18 : decode cX12_records 18 = .ok (.aload_n 0, 1) := dec_0 oX12_records (of42 _) rfl
theorem dX12_records_19 : decode cX12_records 19 = .ok (.getfield 85, 3) := dec_2 oX12_records (of180 _) 0 85 rfl rfl
theorem dX12_records_22 : decode cX12_records 22 = .ok (.iload_n 1, 1) := dec_0 oX12_records (of27 _) rfl
theorem dX12_records_23 : decode cX12_records 23 = .ok (.aload_n 0, 1) := dec_0 oX12_records (of42 _) rfl
theorem dX12_records_24 : decode cX12_records 24 = .ok (.getfield 85, 3) := dec_2 oX12_records (of180 _) 0 85 rfl rfl
theorem dX12_records_27 : decode cX12_records 27 = .ok (.iload_n 1, 1) := dec_0 oX12_records (of27 _) rfl
theorem dX12_records_28 : decode cX12_records 28 = .ok (.sipush 165, 3) := dec_s2 oX12_records (of17 _) 0 165 rfl (sg16p rfl) rfl
theorem dX12_records_31 : decode cX12_records 31 = .ok (.iadd, 1) := dec_0 oX12_records (of96 _) rfl
theorem dX12_records_32 : decode cX12_records 32 = .ok (.iaload, 1) := dec_0 oX12_records (of46 _) rfl
theorem dX12_records_33 : decode cX12_records 33 = .ok (.iastore, 1) := dec_0 oX12_records (of79 _) rfl
theorem dX12_records_34 : decode cX12_records 34 = .ok (.iinc 1 1, 3) := dec_ii oX12_records (of132 _) 1 1 rfl (sg8p rfl) rfl
theorem dX12_records_37 : decode cX12_records 37 = .ok (.goto (-26), 3) := dec_s2 oX12_records (of167 _) 255 230 rfl (sg16n (k := 26) rfl) rfl
theorem dX12_records_40 : decode cX12_records 40 = .ok (.aload_n 0, 1) := dec_0 oX12_records (of42 _) rfl
theorem dX12_records_41 : decode cX12_records 41 = .ok (.dup, 1) := dec_0 oX12_records (of89 _) rfl
theorem dX12_records_42 : decode cX12_records 42 = .ok (.getfield 209, 3) := dec_2 oX12_records (of180 _) 0 209 rfl rfl
theorem dX12_records_45 : decode cX12_records 45 = .ok (.iconst 1, 1) := dec_0 oX12_records (of4 _) rfl
theorem dX12_records_46 : decode cX12_records 46 = .ok (.isub, 1) := dec_0 oX12_records (of100 _) rfl
theorem dX12_records_47 : decode cX12_records 47 = .ok (.putfield 209, 3) := dec_2 oX12_records (of181 _) 0 209 rfl rfl
theorem dX12_comes_12 : decode cX12_comes 12 = .ok (.iconst (-1), 1) := dec_0 oX12_comes (of2 _) rfl
theorem dX12_comes_13 : decode cX12_comes 13 = .ok (.ireturn, 1) := dec_0 oX12_comes (of172 _) rfl
theorem dX12_mend_8 : decode cX12_mend 8 = .ok (.aload_n 0, 1) := dec_0 oX12_mend (of42 _) rfl
theorem dX12_mend_9 : decode cX12_mend 9 = .ok (.iload_n 1, 1) := dec_0 oX12_mend (of27 _) rfl
theorem dX12_mend_10 : decode cX12_mend 10 = .ok (.invokevirtual 320, 3) := dec_2 oX12_mend (of182 _) 1 64 rfl rfl
theorem dX12_mend_13 : decode cX12_mend 13 = .ok (.ifCond .ne 23, 3) := dec_s2 oX12_mend (of154 _) 0 23 rfl (sg16p rfl) rfl
theorem dX12_mend_16 : decode cX12_mend 16 = .ok (.aload_n 0, 1) := dec_0 oX12_mend (of42 _) rfl
theorem dX12_mend_17 : decode cX12_mend 17 = .ok (.iload_n 1, 1) := dec_0 oX12_mend (of27 _) rfl
theorem dX12_mend_18 : decode cX12_mend 18 = .ok (.iconst 1, 1) := dec_0 oX12_mend (of4 _) rfl
theorem dX12_mend_19 : decode cX12_mend 19 = .ok (.isub, 1) := dec_0 oX12_mend (of100 _) rfl
theorem dX12_mend_20 : decode cX12_mend 20 = .ok (.invokevirtual 320, 3) := dec_2 oX12_mend (of182 _) 1 64 rfl rfl
theorem dX12_mend_23 : decode cX12_mend 23 = .ok (.ifCond .eq 13, 3) := dec_s2 oX12_mend (of153 _) 0 13 rfl (sg16p rfl) rfl
theorem dX12_mend_26 : decode cX12_mend 26 = .ok (.aload_n 0, 1) := dec_0 oX12_mend (of42 _) rfl
theorem dX12_mend_27 : decode cX12_mend 27 = .ok (.iload_n 1, 1) := dec_0 oX12_mend (of27 _) rfl
theorem dX12_mend_28 : decode cX12_mend 28 = .ok (.iconst 1, 1) := dec_0 oX12_mend (of4 _) rfl
theorem dX12_mend_29 : decode cX12_mend 29 = .ok (.iadd, 1) := dec_0 oX12_mend (of96 _) rfl
theorem dX12_mend_30 : decode cX12_mend 30 = .ok (.invokevirtual 320, 3) := dec_2 oX12_mend (of182 _) 1 64 rfl rfl
theorem dX12_mend_33 : decode cX12_mend 33 = .ok (.ifCond .ne 7, 3) := dec_s2 oX12_mend (of154 _) 0 7 rfl (sg16p rfl) rfl
theorem dX12_mend_40 : decode cX12_mend 40 = .ok (.aload_n 0, 1) := dec_0 oX12_mend (of42 _) rfl
theorem dX12_mend_41 : decode cX12_mend 41 = .ok (.invokevirtual 323, 3) := dec_2 oX12_mend (of182 _) 1 67 rfl rfl
theorem dX12_mend_44 : decode cX12_mend 44 = .ok (.aload_n 0, 1) := dec_0 oX12_mend (of42 _) rfl
theorem dX12_mend_45 : decode cX12_mend 45 = .ok (.getfield 73, 3) := dec_2 oX12_mend (of180 _) 0 73 rfl rfl
theorem dX12_mend_48 : decode cX12_mend 48 = .ok (.iconst 1, 1) := dec_0 oX12_mend (of4 _) rfl
theorem dX12_mend_49 : decode cX12_mend 49 = .ok (.iload_n 1, 1) := dec_0 oX12_mend (of27 _) rfl
theorem dX12_mend_50 : decode cX12_mend 50 = .ok (.iadd, 1) := dec_0 oX12_mend (of96 _) rfl
theorem dX12_mend_51 : decode cX12_mend 51 = .ok (.aload_n 0, 1) := dec_0 oX12_mend (of42 _) rfl
theorem dX12_mend_52 : decode cX12_mend 52 = .ok (.getfield 73, 3) := dec_2 oX12_mend (of180 _) 0 73 rfl rfl
theorem dX12_mend_55 : decode cX12_mend 55 = .ok (.iload_n 1, 1) := dec_0 oX12_mend (of27 _) rfl
theorem dX12_mend_56 : decode cX12_mend 56 = .ok (.iaload, 1) := dec_0 oX12_mend (of46 _) rfl
theorem dX12_mend_57 : decode cX12_mend 57 = .ok (.aload_n 0, 1) := dec_0 oX12_mend (of42 _) rfl
theorem dX12_mend_58 : decode cX12_mend 58 = .ok (.getfield 73, 3) := dec_2 oX12_mend (of180 _) 0 73 rfl rfl
theorem dX12_mend_61 : decode cX12_mend 61 = .ok (.iconst 2, 1) := dec_0 oX12_mend (of5 _) rfl
theorem dX12_mend_62 : decode cX12_mend 62 = .ok (.iload_n 1, 1) := dec_0 oX12_mend (of27 _) rfl
theorem dX12_mend_63 : decode cX12_mend 63 = .ok (.iadd, 1) := dec_0 oX12_mend (of96 _) rfl
theorem dX12_mend_64 : decode cX12_mend 64 = .ok (.iaload, 1) := dec_0 oX12_mend (of46 _) rfl
theorem dX12_mend_65 : decode cX12_mend 65 = .ok (.iadd, 1) := dec_0 oX12_mend (of96 _) rfl
theorem dX12_mend_66 : decode cX12_mend 66 = .ok (.iconst 2, 1) := dec_0 oX12_mend (of5 _) rfl
theorem dX12_mend_67 : decode cX12_mend 67 = .ok (.invokestatic 261, 3) := dec_2 oX12_mend (of184 _) 1 5 rfl rfl
theorem dX12_mend_70 : decode cX12_mend 70 = .ok (.iastore, 1) := dec_0 oX12_mend (of79 _) rfl
theorem dX12_mend_71 : decode cX12_mend 71 = .ok (.aload_n 0, 1) := dec_0 oX12_mend (of42 _) rfl
theorem dX12_mend_72 : decode cX12_mend 72 = .ok (.invokevirtual 326, 3) := dec_2 oX12_mend (of182 _) 1 70 rfl rfl
theorem dX12_mend_75 : decode cX12_mend 75 = .ok (.aload_n 0, 1) := dec_0 oX12_mend (of42 _) rfl
theorem dX12_mend_76 : decode cX12_mend 76 = .ok (.getfield 70, 3) := dec_2 oX12_mend (of180 _) 0 70 rfl rfl
theorem dX12_mend_79 : decode cX12_mend 79 = .ok (.iconst 1, 1) := dec_0 oX12_mend (of4 _) rfl
theorem dX12_mend_80 : decode cX12_mend 80 = .ok (.iload_n 1, 1) := dec_0 oX12_mend (of27 _) rfl
theorem dX12_mend_81 : decode cX12_mend 81 = .ok (.iadd, 1) := dec_0 oX12_mend (of96 _) rfl
theorem dX12_mend_82 : decode cX12_mend 82 = .ok (.iaload, 1) := dec_0 oX12_mend (of46 _) rfl
theorem dX12_mend_83 : decode cX12_mend 83 = .ok (.ireturn, 1) := dec_0 oX12_mend (of172 _) rfl
theorem dX12_drop_16 : decode cX12_drop 16 = .ok (.aload_n 0, 1) := dec_0 oX12_drop (of42 _) rfl
theorem dX12_drop_17 : decode cX12_drop 17 = .ok (.invokevirtual 323, 3) := dec_2 oX12_drop (of182 _) 1 67 rfl rfl
theorem dX12_drop_20 : decode cX12_drop 20 = .ok (.iconst 0, 1) := dec_0 oX12_drop (of3 _) rfl
theorem dX12_drop_21 : decode cX12_drop 21 = .ok (.istore_n 2, 1) := dec_0 oX12_drop (of61 _) rfl
theorem dX12_drop_22 : decode cX12_drop 22 = .ok (.iload_n 2, 1) := dec_0 oX12_drop (of28 _) rfl
theorem dX12_drop_23 : decode cX12_drop 23 = .ok (.sipush 160, 3) := dec_s2 oX12_drop (of17 _) 0 160 rfl (sg16p rfl) rfl
theorem dX12_drop_26 : decode cX12_drop 26 = .ok (.if_icmp .ge 43, 3) := dec_s2 oX12_drop (of162 _) 0 43 rfl (sg16p rfl) rfl
theorem dX12_drop_29 : decode cX12_drop 29 = .ok (.aload_n 0, 1) := dec_0 oX12_drop (of42 _) rfl
theorem dX12_drop_30 : decode cX12_drop 30 = .ok (.getfield 73, 3) := dec_2 oX12_drop (of180 _) 0 73 rfl rfl
theorem dX12_drop_33 : decode cX12_drop 33 = .ok (.iconst 1, 1) := dec_0 oX12_drop (of4 _) rfl
theorem dX12_drop_34 : decode cX12_drop 34 = .ok (.iload_n 2, 1) := dec_0 oX12_drop (of28 _) rfl
theorem dX12_drop_35 : decode cX12_drop 35 = .ok (.iadd, 1) := dec_0 oX12_drop (of96 _) rfl
theorem dX12_drop_36 : decode cX12_drop 36 = .ok (.iload_n 2, 1) := dec_0 oX12_drop (of28 _) rfl
theorem dX12_drop_37 : decode cX12_drop 37 = .ok (.iload_n 1, 1) := dec_0 oX12_drop (of27 _) rfl
theorem dX12_drop_38 : decode cX12_drop 38 = .ok (.iadd, 1) := dec_0 oX12_drop (of96 _) rfl
theorem dX12_drop_39 : decode cX12_drop 39 = .ok (.aload_n 0, 1) := dec_0 oX12_drop (of42 _) rfl
theorem dX12_drop_40 : decode cX12_drop 40 = .ok (.getfield 70, 3) := dec_2 oX12_drop (of180 _) 0 70 rfl rfl
theorem dX12_drop_43 : decode cX12_drop 43 = .ok (.iconst 0, 1) := dec_0 oX12_drop (of3 _) rfl
theorem dX12_drop_44 : decode cX12_drop 44 = .ok (.iaload, 1) := dec_0 oX12_drop (of46 _) rfl
theorem dX12_drop_45 : decode cX12_drop 45 = .ok (.if_icmp .ge 16, 3) := dec_s2 oX12_drop (of162 _) 0 16 rfl (sg16p rfl) rfl
theorem dX12_drop_48 : decode cX12_drop 48 = .ok (.aload_n 0, 1) := dec_0 oX12_drop (of42 _) rfl
theorem dX12_drop_49 : decode cX12_drop 49 = .ok (.getfield 70, 3) := dec_2 oX12_drop (of180 _) 0 70 rfl rfl
theorem dX12_drop_52 : decode cX12_drop 52 = .ok (.iconst 1, 1) := dec_0 oX12_drop (of4 _) rfl
theorem dX12_drop_53 : decode cX12_drop 53 = .ok (.iload_n 2, 1) := dec_0 oX12_drop (of28 _) rfl
theorem dX12_drop_54 : decode cX12_drop 54 = .ok (.iadd, 1) := dec_0 oX12_drop (of96 _) rfl
theorem dX12_drop_55 : decode cX12_drop 55 = .ok (.iload_n 1, 1) := dec_0 oX12_drop (of27 _) rfl
theorem dX12_drop_56 : decode cX12_drop 56 = .ok (.iadd, 1) := dec_0 oX12_drop (of96 _) rfl
theorem dX12_drop_57 : decode cX12_drop 57 = .ok (.iaload, 1) := dec_0 oX12_drop (of46 _) rfl
theorem dX12_drop_58 : decode cX12_drop 58 = .ok (.goto 4, 3) := dec_s2 oX12_drop (of167 _) 0 4 rfl (sg16p rfl) rfl
theorem dX12_drop_61 : decode cX12_drop 61 = .ok (.iconst 0, 1) := dec_0 oX12_drop (of3 _) rfl
theorem dX12_drop_62 : decode cX12_drop 62 = .ok (.iastore, 1) := dec_0 oX12_drop (of79 _) rfl
theorem dX12_drop_63 : decode cX12_drop 63 = .ok (.iinc 2 1, 3) := dec_ii oX12_drop (of132 _) 2 1 rfl (sg8p rfl) rfl
theorem dX12_drop_66 : decode cX12_drop 66 = .ok (.goto (-44), 3) := dec_s2 oX12_drop (of167 _) 255 212 rfl (sg16n (k := 44) rfl) rfl
theorem dX12_drop_69 : decode cX12_drop 69 = .ok (.aload_n 0, 1) := dec_0 oX12_drop (of42 _) rfl
theorem dX12_drop_70 : decode cX12_drop 70 = .ok (.getfield 73, 3) := dec_2 oX12_drop (of180 _) 0 73 rfl rfl
theorem dX12_drop_73 : decode cX12_drop 73 = .ok (.iconst 0, 1) := dec_0 oX12_drop (of3 _) rfl
theorem dX12_drop_74 : decode cX12_drop 74 = .ok (.dup2, 1) := dec_0 oX12_drop (of92 _) rfl
theorem dX12_drop_75 : decode cX12_drop 75 = .ok (.iaload, 1) := dec_0 oX12_drop (of46 _) rfl
theorem dX12_drop_76 : decode cX12_drop 76 = .ok (.iload_n 1, 1) := dec_0 oX12_drop (of27 _) rfl
theorem dX12_drop_77 : decode cX12_drop 77 = .ok (.isub, 1) := dec_0 oX12_drop (of100 _) rfl
theorem dX12_drop_78 : decode cX12_drop 78 = .ok (.iastore, 1) := dec_0 oX12_drop (of79 _) rfl
theorem dX12_drop_79 : decode cX12_drop 79 = .ok (.aload_n 0, 1) := dec_0 oX12_drop (of42 _) rfl
theorem dX12_drop_80 : decode cX12_drop 80 = .ok (.invokevirtual 326, 3) := dec_2 oX12_drop (of182 _) 1 70 rfl rfl
theorem dX12_drop_83 : decode cX12_drop 83 = .ok (.iconst 1, 1) := dec_0 oX12_drop (of4 _) rfl
theorem dX12_drop_84 : decode cX12_drop 84 = .ok (.ireturn, 1) := dec_0 oX12_drop (of172 _) rfl
theorem dX12_undo_9 : decode cX12_undo 9 = .ok (.aload_n 0, 1) := dec_0 oX12_undo (of42 _) rfl
theorem dX12_undo_10 : decode cX12_undo 10 = .ok (.dup, 1) := dec_0 oX12_undo (of89 _) rfl
theorem dX12_undo_11 : decode cX12_undo 11 = .ok (.getfield 209, 3) := dec_2 oX12_undo (of180 _) 0 209 rfl rfl
theorem dX12_undo_14 : decode cX12_undo 14 = .ok (.iconst 1, 1) := dec_0 oX12_undo (of4 _) rfl
theorem dX12_undo_15 : decode cX12_undo 15 = .ok (.isub, 1) := dec_0 oX12_undo (of100 _) rfl
theorem dX12_undo_16 : decode cX12_undo 16 = .ok (.putfield 209, 3) := dec_2 oX12_undo (of181 _) 0 209 rfl rfl
theorem dX12_undo_19 : decode cX12_undo 19 = .ok (.iconst 0, 1) := dec_0 oX12_undo (of3 _) rfl
theorem dX12_undo_20 : decode cX12_undo 20 = .ok (.istore_n 1, 1) := dec_0 oX12_undo (of60 _) rfl
theorem dX12_undo_21 : decode cX12_undo 21 = .ok (.iload_n 1, 1) := dec_0 oX12_undo (of27 _) rfl
theorem dX12_undo_22 : decode cX12_undo 22 = .ok (.sipush 165, 3) := dec_s2 oX12_undo (of17 _) 0 165 rfl (sg16p rfl) rfl
theorem dX12_undo_25 : decode cX12_undo 25 = .ok (.if_icmp .ge 30, 3) := dec_s2 oX12_undo (of162 _) 0 30 rfl (sg16p rfl) rfl
theorem dX12_undo_28 : decode cX12_undo 28 = .ok (.aload_n 0, 1) := dec_0 oX12_undo (of42 _) rfl
theorem dX12_undo_29 : decode cX12_undo 29 = .ok (.getfield 70, 3) := dec_2 oX12_undo (of180 _) 0 70 rfl rfl
theorem dX12_undo_32 : decode cX12_undo 32 = .ok (.iload_n 1, 1) := dec_0 oX12_undo (of27 _) rfl
theorem dX12_undo_33 : decode cX12_undo 33 = .ok (.aload_n 0, 1) := dec_0 oX12_undo (of42 _) rfl
theorem dX12_undo_34 : decode cX12_undo 34 = .ok (.getfield 85, 3) := dec_2 oX12_undo (of180 _) 0 85 rfl rfl
theorem dX12_undo_37 : decode cX12_undo 37 = .ok (.sipush 165, 3) := dec_s2 oX12_undo (of17 _) 0 165 rfl (sg16p rfl) rfl
theorem dX12_undo_40 : decode cX12_undo 40 = .ok (.aload_n 0, 1) := dec_0 oX12_undo (of42 _) rfl
theorem dX12_undo_41 : decode cX12_undo 41 = .ok (.getfield 209, 3) := dec_2 oX12_undo (of180 _) 0 209 rfl rfl
theorem dX12_undo_44 : decode cX12_undo 44 = .ok (.imul, 1) := dec_0 oX12_undo (of104 _) rfl
theorem dX12_undo_45 : decode cX12_undo 45 = .ok (.iload_n 1, 1) := dec_0 oX12_undo (of27 _) rfl
theorem dX12_undo_46 : decode cX12_undo 46 = .ok (.iadd, 1) := dec_0 oX12_undo (of96 _) rfl
theorem dX12_undo_47 : decode cX12_undo 47 = .ok (.iaload, 1) := dec_0 oX12_undo (of46 _) rfl
theorem dX12_undo_48 : decode cX12_undo 48 = .ok (.iastore, 1) := dec_0 oX12_undo (of79 _) rfl
theorem dX12_undo_49 : decode cX12_undo 49 = .ok (.iinc 1 1, 3) := dec_ii oX12_undo (of132 _) 1 1 rfl (sg8p rfl) rfl
