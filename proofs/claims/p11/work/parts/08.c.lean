/-! CALLS over the G layer: the callee's world is a part of the caller's -/
def SP (ws w wr : va_W) : Prop := ∃ fr fc : Nat → Nat, (∀ i p, wr[i]? = some p → ws[fr i]? = some p) ∧ (∀ i p, w[i]? = some p → ws[fc i]? = some p) ∧ (∀ i j, fr i = fr j → i = j) ∧ (∀ i j, fc i = fc j → i = j) ∧ ∀ i j p q, wr[i]? = some p → w[j]? = some q → fr i ≠ fc j
theorem SP.same (w : va_W) : SP w w [] := ⟨fun i => i, fun i => i, fun i p h => by simp at h, fun _ _ h => h, fun _ _ h => h, fun _ _ h => h, fun i j p q h => by simp at h⟩
theorem SP.suf (wl w : va_W) : SP (wl ++ w) w wl := by
  refine ⟨fun i => i, fun i => wl.length + i, fun i p h => ?_, fun i p h => ?_, fun _ _ h => h, fun i j h => ?_, fun i j p q h h2 => ?_⟩
  · show (wl ++ w)[i]? = some p
    rw [List.getElem?_append_left (List.getElem?_eq_some_iff.mp h).1]; exact h
  · show (wl ++ w)[wl.length + i]? = some p
    rw [List.getElem?_append_right (by omega), Nat.add_sub_cancel_left]; exact h
  · exact Nat.add_left_cancel h
  · have := (List.getElem?_eq_some_iff.mp h).1
    show i ≠ wl.length + j
    omega
theorem SP.pre (w wr : va_W) : SP (w ++ wr) w wr := by
  refine ⟨fun i => w.length + i, fun i => i, fun i p h => ?_, fun i p h => ?_, fun i j h => ?_, fun _ _ h => h, fun i j p q h h2 => ?_⟩
  · show (w ++ wr)[w.length + i]? = some p
    rw [List.getElem?_append_right (by omega), Nat.add_sub_cancel_left]; exact h
  · show (w ++ wr)[i]? = some p
    rw [List.getElem?_append_left (List.getElem?_eq_some_iff.mp h).1]; exact h
  · exact Nat.add_left_cancel h
  · have := (List.getElem?_eq_some_iff.mp h2).1
    show w.length + i ≠ j
    omega
theorem SP.join {A0 : Nat → Prop} {D : va_G} {ws w wr w' : va_W} {H H1 : Heap} (hs : SP ws w wr) (hP : va_P D vwCl ws H) (hD : va_D A0 ws) (hk : ∀ q : Nat, q < H.size → ¬ va_A w H.size q → H1[q]? = H[q]?) (hF : ∀ q, va_A w H.size q → A0 q) (hP1 : va_P D vwCl w' H1) (hD1 : va_D (va_A w H.size) w') : va_P D vwCl (wr ++ w') H1 ∧ va_D A0 (wr ++ w') := by
  obtain ⟨fr, fc, hr, hc, hi, hj, hdis⟩ := hs
  have apart : ∀ (i : Nat) (p : Nat × va_E), wr[i]? = some p → p.1 < H.size ∧ ¬ va_A w H.size p.1 := by
    intro i p h
    have h1 := hr i p h
    have hl := (hP _ p h1).lt
    refine ⟨hl, fun z => ?_⟩
    rcases z with ⟨k, e, z⟩ | z
    · exact hdis i k p (p.1, e) h z (hD.1 _ _ p (p.1, e) h1 (hc k _ z) rfl)
    · omega
  refine ⟨va_P.app (fun k q hq => ?_) hP1, va_D.app ⟨fun i j x y hx hy hxy => hi _ _ (hD.1 _ _ x y (hr _ _ hx) (hr _ _ hy) hxy), fun k q hq => hD.2 _ q (hr _ _ hq)⟩ (hD1.weaken (fun k q _ h => hF q.1 h)) (fun i j x y hx hy hxy => (apart i x hx).2 (by rw [hxy]; exact hD1.2 j y hy))⟩
  obtain ⟨g1, g2⟩ := apart k q hq
  exact (hP _ q (hr _ _ hq)).kept (hk q.1 g1 g2)
section GB
variable {p : Program} {l : Launch} {e : Env} {R : Room} {s : State} {m : MethodId} {args : Array Value} {below : List Frame} {meth : Method} {c : Code} {D : va_G} {A : Nat → Prop} {Q : State → Prop}
theorem g_behind {H : Heap} {locs : List Loc} {n1 n2 mc ms pc : Nat} {ls : Array Slot} {st rest : List Value} {P : Option Value → Tys → va_W → Prop} {ws w wr : va_W} {a : Array Value} {tys : Tys}
    (run : va_Run p l e R s m args below meth c H locs n1 n2 mc ms (F0 m pc ls st) rest (GQ D P w H.size a) (va_A w H.size)) (hs : SP ws w wr) (hP : va_P D vwCl ws H) (hD : va_D A ws) (hS : va_S A s.heap H locs) (hF : ∀ q, va_A w H.size q → A q) (hK : va_K D vwCl tys s)
    (kk : ∀ (v : Option Value) (tys' : Tys) (w' : va_W), P v tys' w' → va_K D vwCl (tys ++ tys') s → ∀ (H1 : Heap) (locs1 : List Loc), va_P D vwCl (wr ++ w') H1 → va_D A (wr ++ w') → va_S A s.heap H1 locs1 → W p l e R s m args below meth c H1 locs1 (n1 + mc) (n2 + ms) Q (F0 m (pc + 3) ls (v.toList ++ rest))) :
    W p l e R s m args below meth c H locs n1 n2 Q (F0 m pc ls st) := by
  intro T hT X
  obtain ⟨v, st₀, t, T', L, h0, X', hL, e1, e2, ⟨⟨v', tys', w', hv, hp, hPw, hKw, hDw⟩, hz, hkq⟩, stp⟩ := run T hT X
  cases hv
  rw [h0] at hz hkq
  have hvm : s.vm.Alike t.vm := by rw [← e2]; exact X'.warmed.alike
  obtain ⟨hP', hD'⟩ := hs.join (H1 := T'.heap) hP hD (fun q h1 h2 => by rw [e1]; exact hkq q h1 h2) hF (by rw [e1]; exact hPw) hDw
  obtain ⟨t2, a1, b1⟩ := kk v tys' w' hp (hK.app (va_K.moved hvm.symm hKw)) T'.heap (locs ++ L) hP' hD'
    ⟨Nat.le_trans hS.1 (by rw [e1]; exact hz), fun q h1 h2 => by rw [e1, hkq q (Nat.lt_of_lt_of_le h1 hS.1) (fun z => h2 (hF q z))]; exact hS.2.1 q h1 h2, fun q hq => by
      rcases List.mem_append.mp hq with h | h
      · exact hS.2.2 q h
      · exact hF _ (hL q h)⟩ T' rfl X'
  exact ⟨t2, stp t2 a1, b1⟩
theorem SP.Fp {H : Heap} {locs : List Loc} {ws w wr : va_W} (hs : SP ws w wr) (hD : va_D A ws) (hS : va_S A s.heap H locs) (hA : ∀ q, s.heap.size ≤ q → A q) : ∀ q, va_A w H.size q → A q := by
  obtain ⟨fr, fc, hr, hc, hi, hj, hdis⟩ := hs
  intro q h
  rcases h with ⟨k, e, h⟩ | h
  · exact hD.2 _ _ (hc k _ h)
  · exact hA q (Nat.le_trans hS.1 h)
theorem SP.Pp {H : Heap} {ws w wr : va_W} (hs : SP ws w wr) (hP : va_P D vwCl ws H) : va_P D vwCl w H := by
  obtain ⟨fr, fc, hr, hc, hi, hj, hdis⟩ := hs
  exact fun k q h => hP _ q (hc k q h)
theorem SP.Dp {ws w wr : va_W} (hs : SP ws w wr) (hD : va_D A ws) : va_D A w := by
  obtain ⟨fr, fc, hr, hc, hi, hj, hdis⟩ := hs
  exact ⟨fun i j x y hx hy hxy => hj _ _ (hD.1 _ _ x y (hc _ _ hx) (hc _ _ hy) hxy), fun k q hq => hD.2 _ q (hc _ _ hq)⟩
theorem g_pre {H : Heap} {locs : List Loc} {zt : Nat × Nat × Nat × (Nat → Nat) × (Nat → Nat)} {tysC : Tys} {av : List Value} {w : va_W} (hPc : va_P D vwCl w H) (hKc : va_K D vwCl tysC s) (hDc : va_D A w) (hz : ZS zt.1 zt.2.1 zt.2.2 A s s.heap) (hS : va_S A s.heap H locs) (hF : ∀ q, va_A w H.size q → A q) : ∀ U : State, U.heap = H → s.WarmedH U.vm → GP D zt tysC av w H.size av.toArray U := by
  intro U hU hW
  refine ⟨rfl, by rw [hU], by rw [hU]; exact hPc, va_K.moved hW.alike hKc, hDc.weaken (fun _ _ _ _ => trivial), ?_⟩
  rw [hU]
  exact hz.go hW.alike (NS.warm hW) (fun a h1 h2 => hS.2.1 a h1 h2) hF
end GB
theorem tysub {D : va_G} {s : State} {t1 t2 : Tys} (h : va_K D vwCl t1 s) (hs : ∀ q ∈ t2, q ∈ t1) : va_K D vwCl t2 s := ⟨h.1, fun k q hk => by
  obtain ⟨i, hi⟩ := List.getElem?_of_mem (hs q (List.mem_of_getElem? hk))
  exact h.2 i q hi⟩
theorem GC.tys {κ : Cx} {l0 : Launch} {D0 : va_G} {zt : Nat × Nat × Nat × (Nat → Nat) × (Nat → Nat)} {cc : ByteArray} {nL : Nat} {own : String} {Ts : List Cond} {t1 t2 : Tys} {rm : Room} (hk : GC κ l0 D0 zt cc nL own Ts t1 rm) (hs : ∀ q ∈ t2, q ∈ t1) : GC κ l0 D0 zt cc nL own Ts t2 rm := by
  obtain ⟨p, l, e, R, s, m, args, below, meth, c, D, A, Q⟩ := κ
  obtain ⟨hx, hb, hml, hown, hts, hK, hA, hz⟩ := hk
  exact ⟨hx, hb, hml, hown, hts, tysub hK hs, hA, hz⟩
section GK
variable {κ : Cx} {l0 : Launch} {D0 : va_G} {zt : Nat × Nat × Nat × (Nat → Nat) × (Nat → Nat)} {cc : ByteArray} {nL : Nat} {own : String} {Ts : List Cond} {tys tysC : Tys} {rm rmy : Room} {n1 n2 : Nat} {ws w wr : va_W} {pc : Nat} {lv : List (Nat × Value)} {st : List Value}
  {y : MethodName} {wsy wsy' : List Cond} {As rest : List Value} {b : Nat} {P : Option Value → Tys → va_W → Prop} {mc ms n idx maxL : Nat} {bytes : ByteArray} {ret : Option FieldType} {C : String} {T : u_T} {N ci : Nat} {fs : List Value}
theorem g_callV (hk : GC κ l0 D0 zt cc nL own Ts tys rm) (hM : GM l0 D0 zt tysC y wsy rmy (.ref b :: As) w P mc ms) (hs : SP ws w wr) (hty : ∀ q ∈ tysC, q ∈ tys)
    (hG : GoodIn Ts (wsV own idx C y wsy)) (hw : wsy = Cond.code y bytes maxL ret :: wsy') (hrc : rmy.cells = mc) (hrs : rmy.slots = ms) (hdd : y.cls = C ∧ y.cls ≠ "java/lang/invoke/MethodHandle" ∧ y.cls ≠ "java/lang/invoke/VarHandle" ∧ (parseMethodDescriptor y.desc).map (fun d => d.parameters.length) = some n) (hRm : rmy.frames + 1 ≤ rm.frames ∧ 8 + (maxL + 11) + rmy.locals ≤ rm.locals)
    (q0 : Nat) (he : w[q0]? = some (b, .inr (ci, fs))) (hc : vwCl[ci]? = some (C, T, N)) (hn : As.length = n) (hst : st = As.reverse ++ .ref b :: rest) (hcat : (rest.map fun v => v.category).sum ≤ 8) (hf : n1 + mc ≤ rm.cells ∧ n2 + ms ≤ rm.slots) (hd : decode cc pc = .ok (.invokevirtual idx, 3))
    (kk : ∀ (v : Option Value) (tys' : Tys) (w' : va_W), P v tys' w' → GC κ l0 D0 zt cc nL own Ts (tys ++ tys') rm → GW κ nL (n1 + mc) (n2 + ms) (wr ++ w') (pc + 3) lv (v.toList ++ rest)) : GW κ nL n1 n2 ws pc lv st := by
  obtain ⟨p, l, e, R, s, m, args, below, meth, c, D, A, Q⟩ := κ
  obtain ⟨hx, hb, hml, hown, hts, hK, hA, rfl, hz, rfl, rfl⟩ := hk
  subst hst
  intro H locs ls hP hD hS hl
  have hF := hs.Fp hD hS hA
  have hKc := tysub hK hty
  exact g_behind (tys := tys) (va_runV (As := As) (rest := rest) ⟨hx, hb, hml, hown, hts⟩ (hM H.size) (cwV n hts hG hw hrc hrs hdd hRm) ⟨GP.blind, va_recv hKc (hs.Pp hP) hc he, g_pre (hs.Pp hP) hKc (hs.Dp hD) hz hS hF⟩ rfl hn hl.1 rfl (lv_room hcat) hd hf) hs hP hD hS hF hK
    (fun v tys' w' hp hK' H1 locs1 hP' hD' hS' => kk v tys' w' hp ⟨hx, hb, hml, hown, hts, hK', hA, rfl, hz, rfl, rfl⟩ H1 locs1 ls hP' hD' hS' hl)
theorem g_callS (hk : GC κ l0 D0 zt cc nL own Ts tys rm) (hM : GM l0 D0 zt tysC y wsy rmy As w P mc ms) (hs : SP ws w wr) (hty : ∀ q ∈ tysC, q ∈ tys)
    (hG : GoodIn Ts (va_wsS own idx y wsy)) (hw : wsy = Cond.code y bytes maxL ret :: wsy') (hrc : rmy.cells = mc) (hrs : rmy.slots = ms) (hdd : y.cls ≠ "java/lang/invoke/MethodHandle" ∧ y.cls ≠ "java/lang/invoke/VarHandle" ∧ (parseMethodDescriptor y.desc).map (fun d => d.parameters.length) = some n) (hRm : rmy.frames + 1 ≤ rm.frames ∧ 8 + (maxL + 11) + rmy.locals ≤ rm.locals)
    (hn : As.length = n) (hst : st = As.reverse ++ rest) (hcat : (rest.map fun v => v.category).sum ≤ 8) (hf : n1 + mc ≤ rm.cells ∧ n2 + ms ≤ rm.slots) (hd : decode cc pc = .ok (.invokestatic idx, 3))
    (kk : ∀ (v : Option Value) (tys' : Tys) (w' : va_W), P v tys' w' → GC κ l0 D0 zt cc nL own Ts (tys ++ tys') rm → GW κ nL (n1 + mc) (n2 + ms) (wr ++ w') (pc + 3) lv (v.toList ++ rest)) : GW κ nL n1 n2 ws pc lv st := by
  obtain ⟨p, l, e, R, s, m, args, below, meth, c, D, A, Q⟩ := κ
  obtain ⟨hx, hb, hml, hown, hts, hK, hA, rfl, hz, rfl, rfl⟩ := hk
  subst hst
  intro H locs ls hP hD hS hl
  have hF := hs.Fp hD hS hA
  have hKc := tysub hK hty
  exact g_behind (tys := tys) (va_runS (As := As) (rest := rest) ⟨hx, hb, hml, hown, hts⟩ (hM H.size) (va_cwS n hts hG hw hrc hrs hdd hRm) ⟨GP.blind, g_pre (hs.Pp hP) hKc (hs.Dp hD) hz hS hF⟩ rfl hn hl.1 rfl (lv_room hcat) hd hf) hs hP hD hS hF hK
    (fun v tys' w' hp hK' H1 locs1 hP' hD' hS' => kk v tys' w' hp ⟨hx, hb, hml, hown, hts, hK', hA, rfl, hz, rfl, rfl⟩ H1 locs1 ls hP' hD' hS' hl)
theorem g_callI (hk : GC κ l0 D0 zt cc nL own Ts tys rm) (hM : GM l0 D0 zt tysC y wsy rmy (.ref b :: As) w P mc ms) (hs : SP ws w wr) (hty : ∀ q ∈ tysC, q ∈ tys)
    (hG : GoodIn Ts wsy) (hw : wsy = Cond.code y bytes maxL none :: wsy') (hrc : rmy.cells = mc) (hrs : rmy.slots = ms) (h1 : Cond.initialized y.cls ∈ Ts) (h2 : Cond.methodLink own idx y ∈ Ts) (h3 : Cond.instanceMethod y ∈ Ts) (hy1 : y.name = "<init>") (hdd : y.cls ≠ "java/lang/invoke/MethodHandle" ∧ y.cls ≠ "java/lang/invoke/VarHandle" ∧ (parseMethodDescriptor y.desc).map (fun d => d.parameters.length) = some n) (hRm : rmy.frames + 1 ≤ rm.frames ∧ 8 + (maxL + 11) + rmy.locals ≤ rm.locals)
    (hn : As.length = n) (hst : st = As.reverse ++ .ref b :: rest) (hcat : (rest.map fun v => v.category).sum ≤ 8) (hf : n1 + mc ≤ rm.cells ∧ n2 + ms ≤ rm.slots) (hd : decode cc pc = .ok (.invokespecial idx, 3))
    (kk : ∀ (v : Option Value) (tys' : Tys) (w' : va_W), P v tys' w' → GC κ l0 D0 zt cc nL own Ts (tys ++ tys') rm → GW κ nL (n1 + mc) (n2 + ms) (wr ++ w') (pc + 3) lv (v.toList ++ rest)) : GW κ nL n1 n2 ws pc lv st := by
  obtain ⟨p, l, e, R, s, m, args, below, meth, c, D, A, Q⟩ := κ
  obtain ⟨hx, hb, hml, hown, hts, hK, hA, rfl, hz, rfl, rfl⟩ := hk
  subst hst
  intro H locs ls hP hD hS hl
  have hF := hs.Fp hD hS hA
  have hKc := tysub hK hty
  exact g_behind (tys := tys) (va_runI (As := As) (rest := rest) ⟨hx, hb, hml, hown, hts⟩ (hM H.size) (cwI n hts hG hw hrc hrs (hts _ h1) (hts _ h2) (hts _ h3) hy1 hdd hRm) ⟨GP.blind, g_pre (hs.Pp hP) hKc (hs.Dp hD) hz hS hF⟩ rfl hn hl.1 rfl (lv_room hcat) hd hf) hs hP hD hS hF hK
    (fun v tys' w' hp hK' H1 locs1 hP' hD' hS' => kk v tys' w' hp ⟨hx, hb, hml, hown, hts, hK', hA, rfl, hz, rfl, rfl⟩ H1 locs1 ls hP' hD' hS' hl)
/-- a nest mate's private constructor: its link is one of NS -/
theorem g_callN (hk : GC κ l0 D0 zt cc nL own Ts tys rm) (hM : GM l0 D0 zt tysC y wsy rmy (.ref b :: As) w P mc ms) (hs : SP ws w wr) (hty : ∀ q ∈ tysC, q ∈ tys)
    (hG : GoodIn Ts wsy) (hw : wsy = Cond.code y bytes maxL none :: wsy') (hrc : rmy.cells = mc) (hrs : rmy.slots = ms) (h1 : Cond.initialized y.cls ∈ Ts) (h2 : ∀ U, NS zt.2.2.2.1 U → va_Nw (.methodLinkNest own idx y "WarpDesk") U) (h3 : Cond.instanceMethod y ∈ Ts) (hy1 : y.name = "<init>") (hdd : y.cls ≠ "java/lang/invoke/MethodHandle" ∧ y.cls ≠ "java/lang/invoke/VarHandle" ∧ (parseMethodDescriptor y.desc).map (fun d => d.parameters.length) = some n) (hRm : rmy.frames + 1 ≤ rm.frames ∧ 8 + (maxL + 11) + rmy.locals ≤ rm.locals)
    (hn : As.length = n) (hst : st = As.reverse ++ .ref b :: rest) (hcat : (rest.map fun v => v.category).sum ≤ 8) (hf : n1 + mc ≤ rm.cells ∧ n2 + ms ≤ rm.slots) (hd : decode cc pc = .ok (.invokespecial idx, 3))
    (kk : ∀ (v : Option Value) (tys' : Tys) (w' : va_W), P v tys' w' → GC κ l0 D0 zt cc nL own Ts (tys ++ tys') rm → GW κ nL (n1 + mc) (n2 + ms) (wr ++ w') (pc + 3) lv (v.toList ++ rest)) : GW κ nL n1 n2 ws pc lv st := by
  obtain ⟨p, l, e, R, s, m, args, below, meth, c, D, A, Q⟩ := κ
  obtain ⟨hx, hb, hml, hown, hts, hK, hA, rfl, hz, rfl, rfl⟩ := hk
  subst hst
  intro H locs ls hP hD hS hl
  have hF := hs.Fp hD hS hA
  have hKc := tysub hK hty
  exact g_behind (tys := tys) (va_runIN (As := As) (rest := rest) ⟨hx, hb, hml, hown, hts⟩ (hM H.size) ⟨va_cnB n hts hG hw hrc hrs (h2 s hz.2.2.2.2) (hts _ h1) hdd hRm, hy1, hts _ h3⟩ ⟨GP.blind, g_pre (hs.Pp hP) hKc (hs.Dp hD) hz hS hF⟩ rfl hn hl.1 rfl (lv_room hcat) hd hf) hs hP hD hS hF hK
    (fun v tys' w' hp hK' H1 locs1 hP' hD' hS' => kk v tys' w' hp ⟨hx, hb, hml, hown, hts, hK', hA, rfl, hz, rfl, rfl⟩ H1 locs1 ls hP' hD' hS' hl)
end GK
