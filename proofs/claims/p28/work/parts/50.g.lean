section
theorem dJ0_length_8abf5_0 : decode cJ0_length_8abf5 0 = .ok (.aload_n 0, 1) := by decide +kernel
theorem dJ0_length_8abf5_1 : decode cJ0_length_8abf5 1 = .ok (.getfield 9, 3) := by decide +kernel
theorem dJ0_length_8abf5_4 : decode cJ0_length_8abf5 4 = .ok (.arraylength, 1) := by decide +kernel
theorem dJ0_length_8abf5_5 : decode cJ0_length_8abf5 5 = .ok (.aload_n 0, 1) := by decide +kernel
theorem dJ0_length_8abf5_6 : decode cJ0_length_8abf5 6 = .ok (.invokevirtual 335, 3) := by decide +kernel
theorem dJ0_length_8abf5_9 : decode cJ0_length_8abf5 9 = .ok (.ishr, 1) := by decide +kernel
theorem dJ0_length_8abf5_10 : decode cJ0_length_8abf5 10 = .ok (.ireturn, 1) := by decide +kernel
theorem dJ0_charAt_5068e_0 : decode cJ0_charAt_5068e 0 = .ok (.aload_n 0, 1) := by decide +kernel
theorem dJ0_charAt_5068e_1 : decode cJ0_charAt_5068e 1 = .ok (.invokevirtual 492, 3) := by decide +kernel
theorem dJ0_charAt_5068e_4 : decode cJ0_charAt_5068e 4 = .ok (.ifCond .eq 12, 3) := by decide +kernel
theorem dJ0_charAt_5068e_7 : decode cJ0_charAt_5068e 7 = .ok (.aload_n 0, 1) := by decide +kernel
theorem dJ0_charAt_5068e_8 : decode cJ0_charAt_5068e 8 = .ok (.getfield 9, 3) := by decide +kernel
theorem dJ0_charAt_5068e_11 : decode cJ0_charAt_5068e 11 = .ok (.iload_n 1, 1) := by decide +kernel
theorem dJ0_charAt_5068e_12 : decode cJ0_charAt_5068e 12 = .ok (.invokestatic 495, 3) := by decide +kernel
theorem dJ0_charAt_5068e_15 : decode cJ0_charAt_5068e 15 = .ok (.ireturn, 1) := by decide +kernel
theorem dJ0_charAt_5068e_16 : decode cJ0_charAt_5068e 16 = .ok (.aload_n 0, 1) := by decide +kernel
theorem dJ0_charAt_5068e_17 : decode cJ0_charAt_5068e 17 = .ok (.getfield 9, 3) := by decide +kernel
theorem dJ0_charAt_5068e_20 : decode cJ0_charAt_5068e 20 = .ok (.iload_n 1, 1) := by decide +kernel
theorem dJ0_charAt_5068e_21 : decode cJ0_charAt_5068e 21 = .ok (.invokestatic 498, 3) := by decide +kernel
theorem dJ0_charAt_5068e_24 : decode cJ0_charAt_5068e 24 = .ok (.ireturn, 1) := by decide +kernel
theorem dJ0_coder_7d493_0 : decode cJ0_coder_7d493 0 = .ok (.getstatic 38, 3) := by decide +kernel
theorem dJ0_coder_7d493_3 : decode cJ0_coder_7d493 3 = .ok (.ifCond .eq 10, 3) := by decide +kernel
theorem dJ0_coder_7d493_6 : decode cJ0_coder_7d493 6 = .ok (.aload_n 0, 1) := by decide +kernel
theorem dJ0_coder_7d493_7 : decode cJ0_coder_7d493 7 = .ok (.getfield 15, 3) := by decide +kernel
theorem dJ0_coder_7d493_10 : decode cJ0_coder_7d493 10 = .ok (.goto 4, 3) := by decide +kernel
theorem dJ0_coder_7d493_13 : decode cJ0_coder_7d493 13 = .ok (.iconst 1, 1) := by decide +kernel
theorem dJ0_coder_7d493_14 : decode cJ0_coder_7d493 14 = .ok (.ireturn, 1) := by decide +kernel
theorem dJ0_isLatin1_aae02_0 : decode cJ0_isLatin1_aae02 0 = .ok (.getstatic 38, 3) := by decide +kernel
theorem dJ0_isLatin1_aae02_3 : decode cJ0_isLatin1_aae02 3 = .ok (.ifCond .eq 14, 3) := by decide +kernel
theorem dJ0_isLatin1_aae02_6 : decode cJ0_isLatin1_aae02 6 = .ok (.aload_n 0, 1) := by decide +kernel
theorem dJ0_isLatin1_aae02_7 : decode cJ0_isLatin1_aae02 7 = .ok (.getfield 15, 3) := by decide +kernel
theorem dJ0_isLatin1_aae02_10 : decode cJ0_isLatin1_aae02 10 = .ok (.ifCond .ne 7, 3) := by decide +kernel
theorem dJ0_isLatin1_aae02_13 : decode cJ0_isLatin1_aae02 13 = .ok (.iconst 1, 1) := by decide +kernel
theorem dJ0_isLatin1_aae02_14 : decode cJ0_isLatin1_aae02 14 = .ok (.goto 4, 3) := by decide +kernel
theorem dJ0_isLatin1_aae02_17 : decode cJ0_isLatin1_aae02 17 = .ok (.iconst 0, 1) := by decide +kernel
theorem dJ0_isLatin1_aae02_18 : decode cJ0_isLatin1_aae02 18 = .ok (.ireturn, 1) := by decide +kernel
theorem dJ0_checkIndex_df160_0 : decode cJ0_checkIndex_df160 0 = .ok (.iload_n 0, 1) := by decide +kernel
theorem dJ0_checkIndex_df160_1 : decode cJ0_checkIndex_df160 1 = .ok (.iload_n 1, 1) := by decide +kernel
theorem dJ0_checkIndex_df160_2 : decode cJ0_checkIndex_df160 2 = .ok (.getstatic 1053, 3) := by decide +kernel
theorem dJ0_checkIndex_df160_5 : decode cJ0_checkIndex_df160 5 = .ok (.invokestatic 1059, 3) := by decide +kernel
theorem dJ0_checkIndex_df160_8 : decode cJ0_checkIndex_df160 8 = .ok (.pop, 1) := by decide +kernel
theorem dJ0_checkIndex_df160_9 : decode cJ0_checkIndex_df160 9 = .ok (.return_, 1) := by decide +kernel
theorem dJ1_charAt_3b067_0 : decode cJ1_charAt_3b067 0 = .ok (.iload_n 1, 1) := by decide +kernel
theorem dJ1_charAt_3b067_1 : decode cJ1_charAt_3b067 1 = .ok (.aload_n 0, 1) := by decide +kernel
theorem dJ1_charAt_3b067_2 : decode cJ1_charAt_3b067 2 = .ok (.arraylength, 1) := by decide +kernel
theorem dJ1_charAt_3b067_3 : decode cJ1_charAt_3b067 3 = .ok (.invokestatic 9, 3) := by decide +kernel
theorem dJ1_charAt_3b067_6 : decode cJ1_charAt_3b067 6 = .ok (.aload_n 0, 1) := by decide +kernel
theorem dJ1_charAt_3b067_7 : decode cJ1_charAt_3b067 7 = .ok (.iload_n 1, 1) := by decide +kernel
theorem dJ1_charAt_3b067_8 : decode cJ1_charAt_3b067 8 = .ok (.baload, 1) := by decide +kernel
theorem dJ1_charAt_3b067_9 : decode cJ1_charAt_3b067 9 = .ok (.sipush 255, 3) := by decide +kernel
theorem dJ1_charAt_3b067_12 : decode cJ1_charAt_3b067 12 = .ok (.iand, 1) := by decide +kernel
theorem dJ1_charAt_3b067_13 : decode cJ1_charAt_3b067 13 = .ok (.i2c, 1) := by decide +kernel
theorem dJ1_charAt_3b067_14 : decode cJ1_charAt_3b067 14 = .ok (.ireturn, 1) := by decide +kernel
theorem dJ3_checkIndex_8e157_0 : decode cJ3_checkIndex_8e157 0 = .ok (.iload_n 0, 1) := by decide +kernel
theorem dJ3_checkIndex_8e157_1 : decode cJ3_checkIndex_8e157 1 = .ok (.ifCond .lt 8, 3) := by decide +kernel
theorem dJ3_checkIndex_8e157_4 : decode cJ3_checkIndex_8e157 4 = .ok (.iload_n 0, 1) := by decide +kernel
theorem dJ3_checkIndex_8e157_5 : decode cJ3_checkIndex_8e157 5 = .ok (.iload_n 1, 1) := by decide +kernel
theorem dJ3_checkIndex_8e157_6 : decode cJ3_checkIndex_8e157 6 = .ok (.if_icmp .lt 10, 3) := by decide +kernel
theorem dJ3_checkIndex_8e157_9 : decode cJ3_checkIndex_8e157 9 = .ok (.aload_n 2, 1) := by decide +kernel
theorem dJ3_checkIndex_8e157_10 : decode cJ3_checkIndex_8e157 10 = .ok (.iload_n 0, 1) := by decide +kernel
theorem dJ3_checkIndex_8e157_11 : decode cJ3_checkIndex_8e157 11 = .ok (.iload_n 1, 1) := by decide +kernel
theorem dJ3_checkIndex_8e157_12 : decode cJ3_checkIndex_8e157 12 = .ok (.invokestatic 95, 3) := by decide +kernel
theorem dJ3_checkIndex_8e157_15 : decode cJ3_checkIndex_8e157 15 = .ok (.athrow, 1) := by decide +kernel
theorem dJ3_checkIndex_8e157_16 : decode cJ3_checkIndex_8e157 16 = .ok (.iload_n 0, 1) := by decide +kernel
theorem dJ3_checkIndex_8e157_17 : decode cJ3_checkIndex_8e157 17 = .ok (.ireturn, 1) := by decide +kernel
/-! the words of Reader -/
section GST
variable {κ : Cx} {l0 : Launch} {D0 : va_G} {zt : Nat × Nat × Nat × (Nat → Nat) × (Nat → Nat)} {cc : ByteArray} {nL : Nat} {own : String} {Ts : List Cond} {tys : Tys} {rm : Room} {n1 n2 : Nat} {ws : va_W} {pc : Nat} {lv : List (Nat × Value)} {st : List Value}
theorem g_ldcS (hk : GC κ l0 D0 zt cc nL RX5 Ts tys rm) (i : Nat) (hi : i < 13) {index : Nat} (hx : (kSt.getD i (0, "")).1 = index) (hd : decode cc pc = .ok (.ldc index, 2)) (kk : GW κ nL n1 n2 ws (pc + 2) lv (.ref (zt.2.2.2.1 i) :: st)) : GW κ nL n1 n2 ws pc lv st := by
  obtain ⟨p, l, e, R, s, m, args, below, meth, c, D, A, Q⟩ := κ
  obtain ⟨hx', hb, hml, hown, hts, hK, hA, rfl, hz⟩ := hk
  subst hx
  exact fun H locs ls hP hD hS hl => va_ldcS hx' hb hown (hz.1.2.2.2.2.2.2.2.2.2.2.2.2.2.2.2.2 i hi) hd (kk H locs ls hP hD hS hl)
theorem g_strV (hk : GC κ l0 D0 zt cc nL own Ts tys rm) (i : Nat) (hi : i < 13) {index : Nat} (h1 : Cond.fieldLink own index "java/lang/String" "value" "[B" ∈ Ts) (hd : decode cc pc = .ok (.getfield index, 3)) (kk : GW κ nL n1 n2 ws (pc + 3) lv (.ref (zt.2.2.2.2 i) :: st)) : GW κ nL n1 n2 ws pc lv (.ref (zt.2.2.2.1 i) :: st) := by
  obtain ⟨p, l, e, R, s, m, args, below, meth, c, D, A, Q⟩ := κ
  obtain ⟨hx, hb, hml, hown, hts, hK, hA, rfl, hz⟩ := hk
  exact fun H locs ls hP hD hS hl => vk_getf hx hb (hz.1.1.2.2.1.1 i hi).2.2.1 hS hown (hts _ h1) (fun _ h => h) hd (kk H locs ls hP hD hS hl)
theorem g_strC (hk : GC κ l0 D0 zt cc nL own Ts tys rm) (i : Nat) (hi : i < 13) {index : Nat} (h1 : Cond.fieldLink own index "java/lang/String" "coder" "B" ∈ Ts) (hd : decode cc pc = .ok (.getfield index, 3)) (kk : GW κ nL n1 n2 ws (pc + 3) lv (.int 0 :: st)) : GW κ nL n1 n2 ws pc lv (.ref (zt.2.2.2.1 i) :: st) := by
  obtain ⟨p, l, e, R, s, m, args, below, meth, c, D, A, Q⟩ := κ
  obtain ⟨hx, hb, hml, hown, hts, hK, hA, rfl, hz⟩ := hk
  exact fun H locs ls hP hD hS hl => vk_getf hx hb (hz.1.1.2.2.1.1 i hi).2.1 hS hown (hts _ h1) (fun _ h => h) hd (kk H locs ls hP hD hS hl)
theorem g_strN (hk : GC κ l0 D0 zt cc nL own Ts tys rm) (i : Nat) (hi : i < 13) (hd : decode cc pc = .ok (.arraylength, 1)) (kk : GW κ nL n1 n2 ws (pc + 1) lv (.int (nI (lenS.getD i 0)) :: st)) : GW κ nL n1 n2 ws pc lv (.ref (zt.2.2.2.2 i) :: st) := by
  obtain ⟨p, l, e, R, s, m, args, below, meth, c, D, A, Q⟩ := κ
  obtain ⟨hx, hb, hml, hown, hts, hK, hA, rfl, hz⟩ := hk
  exact fun H locs ls hP hD hS hl => va_tlen hx hb (hz.1.1.2.2.1.1 i hi).2.2.2 hS rfl hd (kk H locs ls hP hD hS hl)
theorem g_getsC (hk : GC κ l0 D0 zt cc nL own Ts tys rm) {index : Nat} (h1 : Cond.fieldLink own index "java/lang/String" "COMPACT_STRINGS" "Z" ∈ Ts) (hd : decode cc pc = .ok (.getstatic index, 3)) (kk : GW κ nL n1 n2 ws (pc + 3) lv (.int 1 :: st)) : GW κ nL n1 n2 ws pc lv st := by
  obtain ⟨p, l, e, R, s, m, args, below, meth, c, D, A, Q⟩ := κ
  obtain ⟨hx, hb, hml, hown, hts, hK, hA, rfl, hz⟩ := hk
  exact fun H locs ls hP hD hS hl => va_gets hx hb hz.1.1.2.2.2.1 hS hown (hts _ h1) (fun _ h => h) hd (kk H locs ls hP hD hS hl)
theorem g_getsF (hk : GC κ l0 D0 zt cc nL own Ts tys rm) {index : Nat} (h1 : Cond.fieldLink own index "jdk/internal/util/Preconditions" "SIOOBE_FORMATTER" "Ljava/util/function/BiFunction;" ∈ Ts) (hd : decode cc pc = .ok (.getstatic index, 3)) (k0 : GW κ nL n1 n2 ws (pc + 3) lv (.null :: st)) (kk : ∀ t : Nat, GW κ nL n1 n2 ws (pc + 3) lv (.ref t :: st)) : GW κ nL n1 n2 ws pc lv st := by
  obtain ⟨p, l, e, R, s, m, args, below, meth, c, D, A, Q⟩ := κ
  obtain ⟨hx, hb, hml, hown, hts, hK, hA, rfl, hz⟩ := hk
  intro H locs ls hP hD hS hl
  rcases hz.1.1.2.2.2.2 with h | ⟨t, h⟩
  · exact va_gets hx hb h hS hown (hts _ h1) (fun _ h => h) hd (k0 H locs ls hP hD hS hl)
  · exact va_gets hx hb h hS hown (hts _ h1) (fun _ h => h) hd (kk t H locs ls hP hD hS hl)
theorem g_strB (hk : GC κ l0 D0 zt cc nL own Ts tys rm) (i : Nat) (hi : i < 13) {k : Int32} (hin : vp_in k (lenS.getD i 0)) (hd : decode cc pc = .ok (.baload, 1)) (kk : ∀ y : Int32, GW κ nL n1 n2 ws (pc + 1) lv (.int y :: st)) : GW κ nL n1 n2 ws pc lv (.int k :: .ref (zt.2.2.2.2 i) :: st) := by
  obtain ⟨p, l, e, R, s, m, args, below, meth, c, D, A, Q⟩ := κ
  obtain ⟨hx, hb, hml, hown, hts, hK, hA, rfl, hz⟩ := hk
  exact fun H locs ls hP hD hS hl => va_tb hx hb (hz.1.1.2.2.1.1 i hi).2.2.2 hS hin rfl hd (kk _ H locs ls hP hD hS hl)
theorem g_i2c (hk : GC κ l0 D0 zt cc nL own Ts tys rm) {x v : Int32} (hd : decode cc pc = .ok (.i2c, 1)) (hv : (x.toUInt32 % 65536).toInt32 = v) (k : GW κ nL n1 n2 ws (pc + 1) lv (.int v :: st)) : GW κ nL n1 n2 ws pc lv (.int x :: st) := by
  obtain ⟨p, l, e, R, s, m, args, below, meth, c, D, A, Q⟩ := κ
  exact fun H locs ls hP hD hS hl => lv_i2c hk.1 hk.2.1 hd hv (k H locs ls hP hD hS hl)
/-- a method of String, called on a word of Reader -/
theorem g_callVS {tysC : Tys} {rmy : Room} {w wr : va_W} {y : MethodName} {wsy wsy' : List Cond} {As rest : List Value} {P : Option Value → Tys → va_W → Prop} {mc ms n idx maxL : Nat} {bytes : ByteArray} {ret : Option FieldType} (i : Nat) (hi : i < 13) (hk : GC κ l0 D0 zt cc nL own Ts tys rm) (hM : GM l0 D0 zt tysC y wsy rmy (.ref (zt.2.2.2.1 i) :: As) w P mc ms) (hs : SP ws w wr) (hty : ∀ q ∈ tysC, q ∈ tys)
    (hG : GoodIn Ts (wsV own idx RJ0 y wsy)) (hw : wsy = Cond.code y bytes maxL ret :: wsy') (hrc : rmy.cells = mc) (hrs : rmy.slots = ms) (hdd : y.cls = RJ0 ∧ y.cls ≠ "java/lang/invoke/MethodHandle" ∧ y.cls ≠ "java/lang/invoke/VarHandle" ∧ (parseMethodDescriptor y.desc).map (fun d => d.parameters.length) = some n) (hRm : rmy.frames + 1 ≤ rm.frames ∧ 8 + (maxL + 11) + rmy.locals ≤ rm.locals)
    (hn : As.length = n) (hst : st = As.reverse ++ .ref (zt.2.2.2.1 i) :: rest) (hcat : (rest.map fun v => v.category).sum ≤ 8) (hf : n1 + mc ≤ rm.cells ∧ n2 + ms ≤ rm.slots) (hd : decode cc pc = .ok (.invokevirtual idx, 3))
    (kk : ∀ (v : Option Value) (tys' : Tys) (w' : va_W), P v tys' w' → GC κ l0 D0 zt cc nL own Ts (tys ++ tys') rm → GW κ nL (n1 + mc) (n2 + ms) (wr ++ w') (pc + 3) lv (v.toList ++ rest)) : GW κ nL n1 n2 ws pc lv st := by
  obtain ⟨p, l, e, R, s, m, args, below, meth, c, D, A, Q⟩ := κ
  obtain ⟨hx, hb, hml, hown, hts, hK, hA, rfl, hz, rfl, rfl⟩ := hk
  subst hst
  intro H locs ls hP hD hS hl
  have hF := hs.Fp hD hS hA
  have hKc := tysub hK hty
  exact g_behind (tys := tys) (va_runV (As := As) (rest := rest) ⟨hx, hb, hml, hown, hts⟩ (hM H.size) (cwV n hts hG hw hrc hrs hdd hRm) ⟨GP.blind, vk_recv hz.1.2.2.1 hi hS, g_pre (hs.Pp hP) hKc (hs.Dp hD) hz hS hF⟩ rfl hn hl.1 rfl (lv_room hcat) hd hf) hs hP hD hS hF hK
    (fun v tys' w' hp hK' H1 locs1 hP' hD' hS' => kk v tys' w' hp ⟨hx, hb, hml, hown, hts, hK', hA, rfl, hz, rfl, rfl⟩ H1 locs1 ls hP' hD' hS' hl)
end GST
theorem lenS_le (i : Nat) (hi : i < 13) : 0 ≤ (nI (lenS.getD i 0)).toInt ∧ (nI (lenS.getD i 0)).toInt ≤ 6 ∧ lenS.getD i 0 ≤ 6 ∧ (nI (lenS.getD i 0)).toInt = (lenS.getD i 0 : Int) := by
  have h : ∀ i, i < 13 → lenS.getD i 0 ≤ 6 := by decide
  have h1 := h i hi
  have h2 : (nI (lenS.getD i 0)).toInt = (lenS.getD i 0 : Int) := nI_toInt (by omega)
  omega
theorem str_in {i : Nat} (hi : i < 13) {k : Int32} (h0 : 0 ≤ k.toInt) (h1 : k.toInt < (nI (lenS.getD i 0)).toInt) : vp_in k (lenS.getD i 0) := by
  have h2 := lenS_le i hi
  exact vp_in_iff.mpr ⟨by omega, by omega⟩
theorem met_F {l : Launch} {y : MethodName} {ws ws' : List Cond} {rm : Room} {Pc : Array Value → State → Prop} {Qc : Array Value → State → Outcome → State → Prop} {mc ms : Nat} {free : Addr → Prop} {cc : ByteArray} {maxL : Nat} {ret : Option FieldType}
    (hy : plainFor y = true) (hw : ws = Cond.code y cc maxL ret :: ws')
    (body : ∀ p e s m args below meth c s₁, BodyLoose p l y (headSpec ws rm) cc maxL ret e s m args below meth c s₁ → c.maxLocals = maxL → Pc args s →
      W p l e (headSpec ws rm).room s m args below meth c s.heap [] 0 0 (MQ below Qc args s mc ms free) (entryFrame m args maxL)) : Met l y ws rm Pc Qc mc ms free := by
  refine MetFree.of_bodySF (code := cc) (maxLocals := maxL) (ret := ret) hy ?_ ?_
  · intro args s m h hn
    obtain ⟨meth, c, h1, h2, h3, h4, h5, h6, -, -⟩ := Cond.code_spec hn (atoms_spec (ws := ws) h _ (by rw [hw]; exact List.mem_cons_self))
    exact ⟨meth, c, h1, h2, h3, h4, h5, h6⟩
  · intro p e s m args below meth c s₁ B hml hP _
    have hh0 : s₁.heap = s.heap := by rw [B.state]; rfl
    obtain ⟨t, a1, o, b1, b2, b3⟩ := body p e s m args below meth c s₁ B hml hP s₁ hh0 (Stand.of_body B)
    exact ⟨t, o, a1, b1, b2, ⟨b3.1, b3.2⟩⟩
theorem GM.ofF {l : Launch} {D : va_G} {zt : Nat × Nat × Nat × (Nat → Nat) × (Nat → Nat)} {tys : Tys} {y : MethodName} {wsy wsy' : List Cond} {rm : Room} {av : List Value} {w : va_W} {P : Option Value → Tys → va_W → Prop} {mc ms : Nat} {cc : ByteArray} {maxL : Nat} {ret : Option FieldType} {own : String} {lv : List (Nat × Value)}
    (hy : plainFor y = true) (hw : wsy = Cond.code y cc maxL ret :: wsy') (ho : y.cls = own) (hav : (lg_sl av).length ≤ maxL) (hlv : lv_args 0 av = lv)
    (body : ∀ (κ : Cx) (sz : Nat), GC κ l D zt cc maxL own wsy tys rm → GR κ ret P mc ms w sz → (y.name = "<init>" → GN κ) → GW κ maxL 0 0 w 0 lv []) : GM l D zt tys y wsy rm av w P mc ms := by
  intro sz
  refine met_F (cc := cc) (maxL := maxL) (ret := ret) hy hw ?_
  intro p e s m args below meth c s₁ B hml hv
  obtain ⟨rfl, hsz, hP, hK, hD0, hZ⟩ := hv
  have hts := atoms_spec (ws := wsy) B.pre
  have hown : s.vm.findClass own = some m.cls := by rw [← ho]; exact findClass_of_methodNamed B.named
  subst hsz
  have hD := hD0.self (sz := s.heap.size)
  have hl := lv_entry av (n := maxL) hav
  rw [hlv] at hl
  rw [lg_entry_eq]
  exact body (p, l, e, (headSpec wsy rm).room, s, m, _, below, meth, c, D, va_A w s.heap.size, MQ below (GQ D P w s.heap.size) _ s mc ms (va_A w s.heap.size)) s.heap.size
    ⟨B.exec, B.bytes, hml, hown, hts, hK, fun q h => Or.inr h, rfl, hZ, rfl, rfl⟩ ⟨rfl, rfl, B.returns, B.notSynchronized⟩ (fun h => (name_of_methodNamed B.named B.method).1.trans h) s.heap [] _ hP hD va_S.rf hl
theorem i32_mask {x y z : Int32} (k : Nat) (e : z = x &&& y) (hy : y.toBitVec.toNat = 2 ^ k - 1) (hk : k ≤ 8) : 0 ≤ z.toInt ∧ z.toInt ≤ 2 ^ k - 1 := by
  obtain ⟨j, hj, ej⟩ := pk_andE x k hy
  have h2 : 2 ^ k ≤ 2 ^ 8 := Nat.pow_le_pow_right (by decide) hk
  have h3 : (nI j).toInt = (j : Int) := nI_toInt (by omega)
  rw [e, ej, h3]
  have h4 : ((2 ^ k : Nat) : Int) = (2 : Int) ^ k := by simp
  omega
theorem i32_add {x y z : Int32} {a b : Int} (e : z = x + y) (hx : x.toInt = a) (hy : y.toInt = b) (h1 : -2147483648 ≤ a + b) (h2 : a + b < 2147483648) : z.toInt = a + b := by
  rw [e, Int32.toInt_add, hx, hy]
  exact Int.bmod_eq_of_le (by omega) (by omega)
theorem i32_mul {x y z : Int32} {a b : Int} (e : z = x * y) (hx : x.toInt = a) (hy : y.toInt = b) (h1 : -2147483648 ≤ a * b) (h2 : a * b < 2147483648) : z.toInt = a * b := by
  rw [e, Int32.toInt_mul, hx, hy]
  exact Int.bmod_eq_of_le (by omega) (by omega)
theorem i32_ne0 {y : Int32} (h : y.toInt ≠ 0) : ¬ y = 0 := fun e => h (by rw [e]; rfl)
theorem i32_sub0 {x y z : Int32} (e : z = x - y) : z.toInt ≠ 0 ∨ x.toInt = y.toInt := by
  by_cases h : z.toInt = 0
  · right
    have h0 : z = 0 := Int32.toInt_inj.mp h
    rw [h0] at e
    have h3 : (x - y).toInt = 0 := by rw [← e]; rfl
    rw [Int32.toInt_sub] at h3
    have a1 := Int32.le_toInt x
    have a2 := Int32.toInt_lt x
    have b1 := Int32.le_toInt y
    have b2 := Int32.toInt_lt y
    have h4 := Int.bmod_def (x.toInt - y.toInt) (2 ^ 32)
    rw [h3] at h4
    split at h4 <;> omega
  · left; exact h
theorem i32_max {x y z : Int32} (e : z = if x < y then y else x) : (z.toInt = x.toInt ∧ y.toInt ≤ x.toInt) ∨ (z.toInt = y.toInt ∧ x.toInt ≤ y.toInt) := by
  by_cases h : x < y
  · rw [if_pos h] at e
    have := Int32.lt_iff_toInt_lt.mp h
    subst e; right; omega
  · rw [if_neg h] at e
    have h2 : ¬ x.toInt < y.toInt := fun z9 => h (Int32.lt_iff_toInt_lt.mpr z9)
    subst e; left; omega
theorem i32_min {x y z : Int32} (e : z = if y < x then y else x) : (z.toInt = x.toInt ∧ x.toInt ≤ y.toInt) ∨ (z.toInt = y.toInt ∧ y.toInt ≤ x.toInt) := by
  by_cases h : y < x
  · rw [if_pos h] at e
    have := Int32.lt_iff_toInt_lt.mp h
    subst e; right; omega
  · rw [if_neg h] at e
    have h2 : ¬ y.toInt < x.toInt := fun z9 => h (Int32.lt_iff_toInt_lt.mpr z9)
    subst e; left; omega
/-- outside of the places S nothing changed -/
def Md {α : Type} (S : List Nat) (I J : Nat → α) : Prop := ∀ k, S.contains k = false → J k = I k
theorem Md.rf {α : Type} {S : List Nat} {I : Nat → α} : Md S I I := fun _ _ => rfl
theorem Md.up {S : List Nat} {I J : Nat → Int32} {a : Nat} {v : Int32} (h : Md S I J) (ha : S.contains a = true) : Md S I (upd J a v) := by
  intro k hk
  by_cases e : k = a
  · rw [e] at hk; rw [hk] at ha; cases ha
  · show (if k = a then v else J k) = I k
    rw [if_neg e]; exact h k hk
theorem Md.up3 {S : List Nat} {I J : Nat → Nat → Int32} {a j : Nat} {v : Int32} (h : Md S I J) (ha : S.contains a = true) : Md S I (up3 J a j v) := by
  intro k hk
  by_cases e : k = a
  · rw [e] at hk; rw [hk] at ha; cases ha
  · show (if k = a then upd (J a) j v else J k) = I k
    rw [if_neg e]; exact h k hk
theorem Md.up2 {S : List Nat} {I J : Nat → Nat → Int32} {a : Nat} {f : Nat → Int32} (h : Md S I J) (ha : S.contains a = true) : Md S I (up2 J a f) := by
  intro k hk
  by_cases e : k = a
  · rw [e] at hk; rw [hk] at ha; cases ha
  · show (if k = a then f else J k) = I k
    rw [if_neg e]; exact h k hk
theorem Md.tr {α : Type} {S S2 : List Nat} {I J K : Nat → α} (h : Md S I J) (h2 : Md S2 J K) (hs : S2.all (fun k => S.contains k) = true) : Md S I K := by
  intro k hk
  have h3 : S2.contains k = false := by
    by_cases e : S2.contains k = true
    · have h4 := List.all_eq_true.mp hs k (List.contains_iff_mem.mp e)
      rw [hk] at h4; cases h4
    · exact Bool.eq_false_iff.mpr e
  rw [h2 k h3]; exact h k hk
theorem ai_st {A : Nat → Nat → Int32} {a i : Nat} {v : Int32} {lo hi : Int} (h : ∀ j, lo ≤ (A a j).toInt ∧ (A a j).toInt ≤ hi) (h1 : lo ≤ v.toInt ∧ v.toInt ≤ hi) : ∀ j, lo ≤ (up3 A a i v a j).toInt ∧ (up3 A a i v a j).toInt ≤ hi := by
  intro j
  have e : up3 A a i v a j = if j = i then v else A a j := by
    show (if a = a then upd (A a) i v else A a) j = _
    rw [if_pos rfl]; rfl
  rw [e]
  by_cases h2 : j = i
  · rw [if_pos h2]; exact h1
  · rw [if_neg h2]; exact h j
theorem up3_ne {A : Nat → Nat → Int32} {a i p : Nat} {v : Int32} (h : p ≠ i) : up3 A a i v a p = A a p := by
  show (if a = a then upd (A a) i v else A a) p = _
  rw [if_pos rfl]
  show (if p = i then v else A a p) = _
  rw [if_neg h]
theorem cl_int {y : Int32} (h : 0 ≤ y.toInt) : (y.toNatClampNeg : Int) = y.toInt := by
  show ((y.toInt.toNat : Nat) : Int) = y.toInt
  omega
section GY
variable {κ : Cx} {l0 : Launch} {D0 : va_G} {zt : Nat × Nat × Nat × (Nat → Nat) × (Nat → Nat)} {cc : ByteArray} {nL : Nat} {own : String} {Ts : List Cond} {tys : Tys} {rm : Room} {n1 n2 : Nat} {ws : va_W} {pc : Nat} {lv : List (Nat × Value)} {st : List Value}
theorem g_topl {x : Int64} (k : ∀ y : Int64, y = x → GW κ nL n1 n2 ws pc lv (.long y :: st)) : GW κ nL n1 n2 ws pc lv (.long x :: st) := k x rfl
theorem g_ixor (hk : GC κ l0 D0 zt cc nL own Ts tys rm) {x y : Int32} (hd : decode cc pc = .ok (.ixor, 1)) (k : GW κ nL n1 n2 ws (pc + 1) lv (.int (x ^^^ y) :: st)) : GW κ nL n1 n2 ws pc lv (.int y :: .int x :: st) := by
  obtain ⟨p, l, e, R, s, m, args, below, meth, c, D, A, Q⟩ := κ
  exact fun H locs ls hP hD hS hl => lv_ixor hk.1 hk.2.1 hd (k H locs ls hP hD hS hl)
theorem g_mabs (hk : GC κ l0 D0 zt cc nL own Ts tys rm) {index : Nat} (h1 : Cond.methodLink own index Lib.Math.abs.name ∈ Ts) (h2 : Cond.static Lib.Math.abs.name ∈ Ts) (h3 : Cond.initialized "java/lang/Math" ∈ Ts) (h4 : Cond.code Lib.Math.abs.name Lib.Math.abs.code 1 (some .int) ∈ Ts) (hf : 1 ≤ rm.frames) (hlo : (st.map fun v => v.category).sum + 13 ≤ rm.locals) (hc : n1 ≤ rm.cells) (hs : n2 ≤ rm.slots) {x : Int32} (hd : decode cc pc = .ok (.invokestatic index, 3)) (kk : GW κ nL n1 n2 ws (pc + 3) lv (.int (if 0 ≤ x then x else 0 - x) :: st)) : GW κ nL n1 n2 ws pc lv (.int x :: st) := by
  obtain ⟨p, l, e, R, s, m, args, below, meth, c, D, A, Q⟩ := κ
  obtain ⟨hx, hb, hml, hown, hts, hK, hA, rfl, hz⟩ := hk
  exact fun H locs ls hP hD hS hl => va_mabs hx hb (hml.trans hl.1.symm) hown (hts _ h1) (hts _ h2) (hts _ h3) (hts _ h4) hf hlo hc hs hd (kk H locs ls hP hD hS hl)
end GY
def IvX (I : Nat → Int32) (A : Nat → Nat → Int32) : Prop := (0 ≤ (I 0).toInt ∧ (I 0).toInt ≤ 2000) ∧ (0 ≤ (I 18).toInt ∧ (I 18).toInt ≤ 160) ∧ (1 ≤ (I 30).toInt ∧ (I 30).toInt ≤ 16) ∧ (0 ≤ (I 31).toInt ∧ (I 31).toInt ≤ 2147483647) ∧ (∀ j, 0 ≤ (A 4 j).toInt ∧ (A 4 j).toInt ≤ 16) ∧ (∀ j, 0 ≤ (A 9 j).toInt ∧ (A 9 j).toInt ≤ 16) ∧ True
theorem IvX_f0 {I : Nat → Int32} {A : Nat → Nat → Int32} (h : IvX I A) : (0 ≤ (I 0).toInt ∧ (I 0).toInt ≤ 2000) := h.1
theorem IvX_f18 {I : Nat → Int32} {A : Nat → Nat → Int32} (h : IvX I A) : (0 ≤ (I 18).toInt ∧ (I 18).toInt ≤ 160) := h.2.1
theorem IvX_f30 {I : Nat → Int32} {A : Nat → Nat → Int32} (h : IvX I A) : (1 ≤ (I 30).toInt ∧ (I 30).toInt ≤ 16) := h.2.2.1
theorem IvX_f31 {I : Nat → Int32} {A : Nat → Nat → Int32} (h : IvX I A) : (0 ≤ (I 31).toInt ∧ (I 31).toInt ≤ 2147483647) := h.2.2.2.1
theorem IvX_a4 {I : Nat → Int32} {A : Nat → Nat → Int32} (h : IvX I A) : (∀ j, 0 ≤ (A 4 j).toInt ∧ (A 4 j).toInt ≤ 16) := h.2.2.2.2.1
theorem IvX_a9 {I : Nat → Int32} {A : Nat → Nat → Int32} (h : IvX I A) : (∀ j, 0 ≤ (A 9 j).toInt ∧ (A 9 j).toInt ≤ 16) := h.2.2.2.2.2.1
end
section
def FE {α : Type} (a b : α) : Prop := a = b
def FU : Nat := 10000000000
theorem FU_eq : (FU : Int) = 10000000000 := rfl
def f_lt {α ρ : Type} (v : α) (k : α → ρ) : ρ := k v
def f_bdX {ρ : Type} (r : Int32 × (Nat → Int32) × (Nat → Nat → Int32)) (k : Int32 → (Nat → Int32) → (Nat → Nat → Int32) → ρ) : ρ := k r.1 r.2.1 r.2.2
def f_bdM {ρ : Type} (r : Int32 × (Nat → Int32) × (Nat → Nat → Int32) × (Nat → Nat → Int64)) (k : Int32 → (Nat → Int32) → (Nat → Nat → Int32) → (Nat → Nat → Int64) → ρ) : ρ := k r.1 r.2.1 r.2.2.1 r.2.2.2
theorem FE.rf {α : Type} {a : α} : FE a a := rfl
theorem FE.lt {α ρ : Type} {f : ρ} {v y : α} {k : α → ρ} (h : FE f (f_lt v k)) (e : y = v) : FE f (k y) := by subst e; exact h
theorem FE.pos {ρ : Type} {f a b : ρ} {c : Prop} {i : Decidable c} (h : FE f (@ite ρ c i a b)) (hc : c) : FE f a := Eq.trans (b := @ite ρ c i a b) h (if_pos hc)
theorem FE.neg {ρ : Type} {f a b : ρ} {c : Prop} {i : Decidable c} (h : FE f (@ite ρ c i a b)) (hc : ¬ c) : FE f b := Eq.trans (b := @ite ρ c i a b) h (if_neg hc)
theorem FE.bdX {ρ : Type} {f : ρ} {r : Int32 × (Nat → Int32) × (Nat → Nat → Int32)} {k : Int32 → (Nat → Int32) → (Nat → Nat → Int32) → ρ} {y : Int32} {I : Nat → Int32} {A : Nat → Nat → Int32} (h : FE f (f_bdX r k)) (e : FE r (y, I, A)) : FE f (k y I A) := by
  have e2 : r = (y, I, A) := e
  subst e2; exact h
theorem FE.bdM {ρ : Type} {f : ρ} {r : Int32 × (Nat → Int32) × (Nat → Nat → Int32) × (Nat → Nat → Int64)} {k : Int32 → (Nat → Int32) → (Nat → Nat → Int32) → (Nat → Nat → Int64) → ρ} {y : Int32} {I : Nat → Int32} {A : Nat → Nat → Int32} {L : Nat → Nat → Int64} (h : FE f (f_bdM r k)) (e : FE r (y, I, A, L)) : FE f (k y I A L) := by
  have e2 : r = (y, I, A, L) := e
  subst e2; exact h
theorem fe_s {α : Type} {a b : α} (h : FE a b) : b = a := Eq.symm h
theorem fe_ne {a b c : Int32} (h : FE a b) (hb : ¬ b = c) : ¬ a = c := fun e => hb (Eq.trans (Eq.symm (show a = b from h)) e)
theorem fe_1 {a : Int32 × Nat} {b : Int32} {n : Nat} (h : FE a (b, n)) : b = a.1 := by have e : a = (b, n) := h; rw [e]
theorem fe_2 {a : Int32 × Nat} {b : Int32} {n : Nat} (h : FE a (b, n)) : a.2 = n := by have e : a = (b, n) := h; rw [e]
theorem fe_ne2 {a : Int32 × Nat} {b : Int32} {n m : Nat} (h : FE a (b, n)) (hb : ¬ n = m) : ¬ a.2 = m := fun e => hb ((fe_2 h).symm.trans e)
def dfX : Int32 × (Nat → Int32) × (Nat → Nat → Int32) := (0, fun _ => 0, fun _ _ => 0)
def dfM : Int32 × (Nat → Int32) × (Nat → Nat → Int32) × (Nat → Nat → Int64) := (0, fun _ => 0, fun _ _ => 0, fun _ _ => 0)
section GS2
variable {κ : Cx} {l0 : Launch} {D0 : va_G} {zt : Nat × Nat × Nat × (Nat → Nat) × (Nat → Nat)} {cc : ByteArray} {nL : Nat} {own : String} {Ts : List Cond} {tys : Tys} {rm : Room} {n1 n2 : Nat} {ws : va_W} {pc : Nat} {lv : List (Nat × Value)} {st : List Value}
theorem g_strB2 (hk : GC κ l0 D0 zt cc nL own Ts tys rm) (i : Nat) (hi : i < 13) {k : Int32} (hin : vp_in k (lenS.getD i 0)) (hd : decode cc pc = .ok (.baload, 1)) (kk : GW κ nL n1 n2 ws (pc + 1) lv (.int ((bytS.getD i []).getD k.toNatClampNeg 0) :: st)) : GW κ nL n1 n2 ws pc lv (.int k :: .ref (zt.2.2.2.2 i) :: st) := by
  obtain ⟨p, l, e, R, s, m, args, below, meth, c, D, A, Q⟩ := κ
  obtain ⟨hx, hb, hml, hown, hts, hK, hA, rfl, hz⟩ := hk
  exact fun H locs ls hP hD hS hl => va_tb hx hb (hz.1.1.2.2.1.1 i hi).2.2.2 hS hin rfl hd (kk H locs ls hP hD hS hl)
end GS2
def itr_IAL {ρ : Type} (d : ρ) (b : ((Nat → Int32) → (Nat → Nat → Int32) → (Nat → Nat → Int64) → ρ) → (Nat → Int32) → (Nat → Nat → Int32) → (Nat → Nat → Int64) → ρ) : Nat → (Nat → Int32) → (Nat → Nat → Int32) → (Nat → Nat → Int64) → ρ
  | 0 => fun _ _ _ => d
  | n + 1 => b (itr_IAL d b n)
theorem FE.itr_IAL {ρ : Type} {d f : ρ} {b : ((Nat → Int32) → (Nat → Nat → Int32) → (Nat → Nat → Int64) → ρ) → (Nat → Int32) → (Nat → Nat → Int32) → (Nat → Nat → Int64) → ρ} {n : Nat} {a0 : (Nat → Int32)} {a1 : (Nat → Nat → Int32)} {a2 : (Nat → Nat → Int64)} (h : FE f (itr_IAL d b (n + 1) a0 a1 a2)) : FE f (b (itr_IAL d b n) a0 a1 a2) := h
def itr_i {ρ : Type} (d : ρ) (b : (Int32 → ρ) → Int32 → ρ) : Nat → Int32 → ρ
  | 0 => fun _ => d
  | n + 1 => b (itr_i d b n)
theorem FE.itr_i {ρ : Type} {d f : ρ} {b : (Int32 → ρ) → Int32 → ρ} {n : Nat} {a0 : Int32} (h : FE f (itr_i d b (n + 1) a0)) : FE f (b (itr_i d b n) a0) := h
def itr_iIA {ρ : Type} (d : ρ) (b : (Int32 → (Nat → Int32) → (Nat → Nat → Int32) → ρ) → Int32 → (Nat → Int32) → (Nat → Nat → Int32) → ρ) : Nat → Int32 → (Nat → Int32) → (Nat → Nat → Int32) → ρ
  | 0 => fun _ _ _ => d
  | n + 1 => b (itr_iIA d b n)
theorem FE.itr_iIA {ρ : Type} {d f : ρ} {b : (Int32 → (Nat → Int32) → (Nat → Nat → Int32) → ρ) → Int32 → (Nat → Int32) → (Nat → Nat → Int32) → ρ} {n : Nat} {a0 : Int32} {a1 : (Nat → Int32)} {a2 : (Nat → Nat → Int32)} (h : FE f (itr_iIA d b (n + 1) a0 a1 a2)) : FE f (b (itr_iIA d b n) a0 a1 a2) := h
def itr_iIAL {ρ : Type} (d : ρ) (b : (Int32 → (Nat → Int32) → (Nat → Nat → Int32) → (Nat → Nat → Int64) → ρ) → Int32 → (Nat → Int32) → (Nat → Nat → Int32) → (Nat → Nat → Int64) → ρ) : Nat → Int32 → (Nat → Int32) → (Nat → Nat → Int32) → (Nat → Nat → Int64) → ρ
  | 0 => fun _ _ _ _ => d
  | n + 1 => b (itr_iIAL d b n)
theorem FE.itr_iIAL {ρ : Type} {d f : ρ} {b : (Int32 → (Nat → Int32) → (Nat → Nat → Int32) → (Nat → Nat → Int64) → ρ) → Int32 → (Nat → Int32) → (Nat → Nat → Int32) → (Nat → Nat → Int64) → ρ} {n : Nat} {a0 : Int32} {a1 : (Nat → Int32)} {a2 : (Nat → Nat → Int32)} {a3 : (Nat → Nat → Int64)} (h : FE f (itr_iIAL d b (n + 1) a0 a1 a2 a3)) : FE f (b (itr_iIAL d b n) a0 a1 a2 a3) := h
def itr_ii {ρ : Type} (d : ρ) (b : (Int32 → Int32 → ρ) → Int32 → Int32 → ρ) : Nat → Int32 → Int32 → ρ
  | 0 => fun _ _ => d
  | n + 1 => b (itr_ii d b n)
theorem FE.itr_ii {ρ : Type} {d f : ρ} {b : (Int32 → Int32 → ρ) → Int32 → Int32 → ρ} {n : Nat} {a0 : Int32} {a1 : Int32} (h : FE f (itr_ii d b (n + 1) a0 a1)) : FE f (b (itr_ii d b n) a0 a1) := h
def itr_iiIA {ρ : Type} (d : ρ) (b : (Int32 → Int32 → (Nat → Int32) → (Nat → Nat → Int32) → ρ) → Int32 → Int32 → (Nat → Int32) → (Nat → Nat → Int32) → ρ) : Nat → Int32 → Int32 → (Nat → Int32) → (Nat → Nat → Int32) → ρ
  | 0 => fun _ _ _ _ => d
  | n + 1 => b (itr_iiIA d b n)
theorem FE.itr_iiIA {ρ : Type} {d f : ρ} {b : (Int32 → Int32 → (Nat → Int32) → (Nat → Nat → Int32) → ρ) → Int32 → Int32 → (Nat → Int32) → (Nat → Nat → Int32) → ρ} {n : Nat} {a0 : Int32} {a1 : Int32} {a2 : (Nat → Int32)} {a3 : (Nat → Nat → Int32)} (h : FE f (itr_iiIA d b (n + 1) a0 a1 a2 a3)) : FE f (b (itr_iiIA d b n) a0 a1 a2 a3) := h
def itr_iiIAL {ρ : Type} (d : ρ) (b : (Int32 → Int32 → (Nat → Int32) → (Nat → Nat → Int32) → (Nat → Nat → Int64) → ρ) → Int32 → Int32 → (Nat → Int32) → (Nat → Nat → Int32) → (Nat → Nat → Int64) → ρ) : Nat → Int32 → Int32 → (Nat → Int32) → (Nat → Nat → Int32) → (Nat → Nat → Int64) → ρ
  | 0 => fun _ _ _ _ _ => d
  | n + 1 => b (itr_iiIAL d b n)
theorem FE.itr_iiIAL {ρ : Type} {d f : ρ} {b : (Int32 → Int32 → (Nat → Int32) → (Nat → Nat → Int32) → (Nat → Nat → Int64) → ρ) → Int32 → Int32 → (Nat → Int32) → (Nat → Nat → Int32) → (Nat → Nat → Int64) → ρ} {n : Nat} {a0 : Int32} {a1 : Int32} {a2 : (Nat → Int32)} {a3 : (Nat → Nat → Int32)} {a4 : (Nat → Nat → Int64)} (h : FE f (itr_iiIAL d b (n + 1) a0 a1 a2 a3 a4)) : FE f (b (itr_iiIAL d b n) a0 a1 a2 a3 a4) := h
def itr_iii {ρ : Type} (d : ρ) (b : (Int32 → Int32 → Int32 → ρ) → Int32 → Int32 → Int32 → ρ) : Nat → Int32 → Int32 → Int32 → ρ
  | 0 => fun _ _ _ => d
  | n + 1 => b (itr_iii d b n)
theorem FE.itr_iii {ρ : Type} {d f : ρ} {b : (Int32 → Int32 → Int32 → ρ) → Int32 → Int32 → Int32 → ρ} {n : Nat} {a0 : Int32} {a1 : Int32} {a2 : Int32} (h : FE f (itr_iii d b (n + 1) a0 a1 a2)) : FE f (b (itr_iii d b n) a0 a1 a2) := h
def itr_iiiIA {ρ : Type} (d : ρ) (b : (Int32 → Int32 → Int32 → (Nat → Int32) → (Nat → Nat → Int32) → ρ) → Int32 → Int32 → Int32 → (Nat → Int32) → (Nat → Nat → Int32) → ρ) : Nat → Int32 → Int32 → Int32 → (Nat → Int32) → (Nat → Nat → Int32) → ρ
  | 0 => fun _ _ _ _ _ => d
  | n + 1 => b (itr_iiiIA d b n)
theorem FE.itr_iiiIA {ρ : Type} {d f : ρ} {b : (Int32 → Int32 → Int32 → (Nat → Int32) → (Nat → Nat → Int32) → ρ) → Int32 → Int32 → Int32 → (Nat → Int32) → (Nat → Nat → Int32) → ρ} {n : Nat} {a0 : Int32} {a1 : Int32} {a2 : Int32} {a3 : (Nat → Int32)} {a4 : (Nat → Nat → Int32)} (h : FE f (itr_iiiIA d b (n + 1) a0 a1 a2 a3 a4)) : FE f (b (itr_iiiIA d b n) a0 a1 a2 a3 a4) := h
def itr_iiiIAL {ρ : Type} (d : ρ) (b : (Int32 → Int32 → Int32 → (Nat → Int32) → (Nat → Nat → Int32) → (Nat → Nat → Int64) → ρ) → Int32 → Int32 → Int32 → (Nat → Int32) → (Nat → Nat → Int32) → (Nat → Nat → Int64) → ρ) : Nat → Int32 → Int32 → Int32 → (Nat → Int32) → (Nat → Nat → Int32) → (Nat → Nat → Int64) → ρ
  | 0 => fun _ _ _ _ _ _ => d
  | n + 1 => b (itr_iiiIAL d b n)
theorem FE.itr_iiiIAL {ρ : Type} {d f : ρ} {b : (Int32 → Int32 → Int32 → (Nat → Int32) → (Nat → Nat → Int32) → (Nat → Nat → Int64) → ρ) → Int32 → Int32 → Int32 → (Nat → Int32) → (Nat → Nat → Int32) → (Nat → Nat → Int64) → ρ} {n : Nat} {a0 : Int32} {a1 : Int32} {a2 : Int32} {a3 : (Nat → Int32)} {a4 : (Nat → Nat → Int32)} {a5 : (Nat → Nat → Int64)} (h : FE f (itr_iiiIAL d b (n + 1) a0 a1 a2 a3 a4 a5)) : FE f (b (itr_iiiIAL d b n) a0 a1 a2 a3 a4 a5) := h
def itr_iiii {ρ : Type} (d : ρ) (b : (Int32 → Int32 → Int32 → Int32 → ρ) → Int32 → Int32 → Int32 → Int32 → ρ) : Nat → Int32 → Int32 → Int32 → Int32 → ρ
  | 0 => fun _ _ _ _ => d
  | n + 1 => b (itr_iiii d b n)
theorem FE.itr_iiii {ρ : Type} {d f : ρ} {b : (Int32 → Int32 → Int32 → Int32 → ρ) → Int32 → Int32 → Int32 → Int32 → ρ} {n : Nat} {a0 : Int32} {a1 : Int32} {a2 : Int32} {a3 : Int32} (h : FE f (itr_iiii d b (n + 1) a0 a1 a2 a3)) : FE f (b (itr_iiii d b n) a0 a1 a2 a3) := h
def itr_iiiiIAL {ρ : Type} (d : ρ) (b : (Int32 → Int32 → Int32 → Int32 → (Nat → Int32) → (Nat → Nat → Int32) → (Nat → Nat → Int64) → ρ) → Int32 → Int32 → Int32 → Int32 → (Nat → Int32) → (Nat → Nat → Int32) → (Nat → Nat → Int64) → ρ) : Nat → Int32 → Int32 → Int32 → Int32 → (Nat → Int32) → (Nat → Nat → Int32) → (Nat → Nat → Int64) → ρ
  | 0 => fun _ _ _ _ _ _ _ => d
  | n + 1 => b (itr_iiiiIAL d b n)
theorem FE.itr_iiiiIAL {ρ : Type} {d f : ρ} {b : (Int32 → Int32 → Int32 → Int32 → (Nat → Int32) → (Nat → Nat → Int32) → (Nat → Nat → Int64) → ρ) → Int32 → Int32 → Int32 → Int32 → (Nat → Int32) → (Nat → Nat → Int32) → (Nat → Nat → Int64) → ρ} {n : Nat} {a0 : Int32} {a1 : Int32} {a2 : Int32} {a3 : Int32} {a4 : (Nat → Int32)} {a5 : (Nat → Nat → Int32)} {a6 : (Nat → Nat → Int64)} (h : FE f (itr_iiiiIAL d b (n + 1) a0 a1 a2 a3 a4 a5 a6)) : FE f (b (itr_iiiiIAL d b n) a0 a1 a2 a3 a4 a5 a6) := h
def itr_li {ρ : Type} (d : ρ) (b : (Int64 → Int32 → ρ) → Int64 → Int32 → ρ) : Nat → Int64 → Int32 → ρ
  | 0 => fun _ _ => d
  | n + 1 => b (itr_li d b n)
theorem FE.itr_li {ρ : Type} {d f : ρ} {b : (Int64 → Int32 → ρ) → Int64 → Int32 → ρ} {n : Nat} {a0 : Int64} {a1 : Int32} (h : FE f (itr_li d b (n + 1) a0 a1)) : FE f (b (itr_li d b n) a0 a1) := h
end
