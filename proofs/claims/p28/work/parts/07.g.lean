section
/-! THE G LAYER: a method's walk over a pure state (world, pc, locals, stack); the machine's context is one variable κ -/
abbrev Cx : Type := Program × Launch × Env × Room × State × MethodId × Array Value × List Frame × Method × Code × va_G × (Nat → Prop) × (State → Prop)
abbrev Tys : Type := List (ClassId × FieldType)
/-- the statics: three tables of Settings -/
def zLow : Nat → Value := fun k => match k with | 0 => .int 0 | 1 => .int 0 | 2 => .int 0 | _ => .int 1
def zHigh : Nat → Value := fun k => match k with | 0 => .int 15 | 1 => .int 3 | 2 => .int 1 | _ => .int 99
def zUn : Nat → Value := fun k => match k with | 0 => .int 2 | 1 => .int 0 | 2 => .int 0 | _ => .int 8
/-- the words of Reader: where they stand in its pool, their texts, lengths and bytes -/
def kSt : List (Nat × String) := [(106, "gap"), (153, "series"), (155, "query"), (157, "band"), (159, "level"), (161, "cost"), (163, "apart"), (165, "none"), (167, "mean"), (169, "first"), (171, "range"), (173, "plain"), (175, "square")]
def lenS : List Nat := [3, 6, 5, 4, 5, 4, 5, 4, 4, 5, 5, 5, 6]
def bytS : List (List Int32) := [[103, 97, 112], [115, 101, 114, 105, 101, 115], [113, 117, 101, 114, 121], [98, 97, 110, 100], [108, 101, 118, 101, 108], [99, 111, 115, 116], [97, 112, 97, 114, 116], [110, 111, 110, 101], [109, 101, 97, 110], [102, 105, 114, 115, 116], [114, 97, 110, 103, 101], [112, 108, 97, 105, 110], [115, 113, 117, 97, 114, 101]]
def SR (k : Nat → Nat) (U : State) : Prop := ∀ i : Nat, i < 13 → vk_R RX5 (kSt.getD i (0, "")).1 (kSt.getD i (0, "")).2 (k i) U
theorem SR.warm {k : Nat → Nat} {s U : State} (hW : s.WarmedH U.vm) (h : SR k s) : SR k U := fun i hi => vk_R.warm hW (h i hi)
theorem SR.same {k : Nat → Nat} {s U : State} (e : s.vm = U.vm) (h : SR k s) : SR k U := fun i hi => vk_R.same e.symm (h i hi)
def SC (k : (Nat → Nat) × (Nat → Nat)) (A : Nat → Prop) (U : State) (H : Heap) : Prop := vk_S 13 lenS bytS k.1 k.2 A U H ∧ va_Z "java/lang/String" "COMPACT_STRINGS" "Z" (.int 1) A U H ∧ va_Zq "jdk/internal/util/Preconditions" "SIOOBE_FORMATTER" "Ljava/util/function/BiFunction;" A U H
theorem SC.go {k : (Nat → Nat) × (Nat → Nat)} {A B : Nat → Prop} {u U : State} {H H1 : Heap} (h : SC k A u H) (hvm : u.vm.Alike U.vm) (hq : ∀ a : Nat, a < H.size → ¬ A a → H1[a]? = H[a]?) (hAB : ∀ q, B q → A q) : SC k B U H1 :=
  ⟨((h.1.kept hq).narrow hAB).moved hvm, ((h.2.1.kept hq).narrow hAB).moved hvm, ((h.2.2.kept hq).narrow hAB).moved hvm⟩
/-- nest mates' links, the array of Stands, and the clone of an int array: words that are no words of a method -/
def NS (k : Nat → Nat) (U : State) : Prop := va_AO "WarpDesk$Stand" U ∧ va_Nw (.castable "[I" "java/lang/Cloneable") U ∧ va_Nw (.methodLinkNest RX11 9 yX10_init "WarpDesk") U ∧ va_Nw (.methodLinkNest RX5 11 yX8_init "WarpDesk") U ∧ va_Nw (.methodLinkNest RX8 17 yX7_init "WarpDesk") U ∧ va_Nw (.methodLinkNest RX5 20 yX4_init "WarpDesk") U ∧ va_Nw (.methodLinkNest RX11 27 yX6_init "WarpDesk") U ∧ va_Nw (.methodLinkNest RX11 34 yX4_init "WarpDesk") U ∧ va_Nw (.methodLinkNest RX11 41 yX7_init "WarpDesk") U ∧ va_Nw (.methodLinkNest RX11 48 yX3_init "WarpDesk") U ∧ va_Nw (.methodLinkNest RX11 55 yX8_init "WarpDesk") U ∧ va_Nw (.methodLinkNest RX0 11 yX2_init "WarpDesk") U ∧ SR k U
theorem NS.warm {k : Nat → Nat} {s U : State} (hW : s.WarmedH U.vm) (h : NS k s) : NS k U := by
  obtain ⟨a, b, c1, c2, c3, c4, c5, c6, c7, c8, c9, c10, c11⟩ := h
  exact ⟨a.moved hW.alike, b.warmC hW, c1.warmM hW, c2.warmM hW, c3.warmM hW, c4.warmM hW, c5.warmM hW, c6.warmM hW, c7.warmM hW, c8.warmM hW, c9.warmM hW, c10.warmM hW, c11.warm hW⟩
theorem NS.same {k : Nat → Nat} {s U : State} (e : s.vm = U.vm) (h : NS k s) : NS k U := by
  obtain ⟨a, b, c1, c2, c3, c4, c5, c6, c7, c8, c9, c10, c11⟩ := h
  exact ⟨a.moved (by rw [e]; exact Vm.Alike.refl U.vm), b.same rfl e, c1.same rfl e, c2.same rfl e, c3.same rfl e, c4.same rfl e, c5.same rfl e, c6.same rfl e, c7.same rfl e, c8.same rfl e, c9.same rfl e, c10.same rfl e, c11.same e⟩
/-- the cell of UNTOLD, to be cloned -/
def unI : Nat → Int32 := fun k => match k with | 0 => 2 | 1 => 0 | 2 => 0 | _ => 8
def ZU (t2 : Nat) (A : Nat → Prop) (U : State) (H : Heap) : Prop := ∃ cell : Cell, H[t2]? = some cell ∧ U.vm.findClass "[I" = some cell.cls ∧ ArrOfT U cell.cls .int ∧ (∀ k, cell.vm ≠ .statics k) ∧ cell.vm ≠ .unknown ∧ cell.slots = (arrV cell.cls 4 (fun j => .int (unI j))).slots ∧ ¬ A t2
theorem ZU.go {t2 : Nat} {A B : Nat → Prop} {u U : State} {H H1 : Heap} (h : ZU t2 A u H) (hvm : u.vm.Alike U.vm) (hq : ∀ a : Nat, a < H.size → ¬ A a → H1[a]? = H[a]?) (hAB : ∀ q, B q → A q) : ZU t2 B U H1 := by
  obtain ⟨cell, h1, h2, h3, h4, h5, h6, h7⟩ := h
  exact ⟨cell, by rw [hq t2 (Array.getElem?_eq_some_iff.mp h1).1 h7]; exact h1, by rw [hvm.findClass]; exact h2, arrOfT_moved hvm h3, h4, h5, h6, fun z => h7 (hAB t2 z)⟩
def ZS (t0 t1 : Nat) (t2 : Nat × (Nat → Nat) × (Nat → Nat)) (A : Nat → Prop) (U : State) (H : Heap) : Prop :=
  (va_Z "WarpDesk$Settings" "LOWEST" "[I" (.ref t0) A U H ∧ va_T .int t0 4 zLow A U H ∧ SC t2.2 A U H) ∧ (va_Z "WarpDesk$Settings" "HIGHEST" "[I" (.ref t1) A U H ∧ va_T .int t1 4 zHigh A U H) ∧ (va_Z "WarpDesk$Settings" "UNTOLD" "[I" (.ref t2.1) A U H ∧ va_T .int t2.1 4 zUn A U H) ∧ ZU t2.1 A U H ∧ NS t2.2.1 U
theorem ZS.go {t0 t1 : Nat} {t2 : Nat × (Nat → Nat) × (Nat → Nat)} {A B : Nat → Prop} {u U : State} {H H1 : Heap} (h : ZS t0 t1 t2 A u H) (hvm : u.vm.Alike U.vm) (hN : NS t2.2.1 u → NS t2.2.1 U) (hq : ∀ a : Nat, a < H.size → ¬ A a → H1[a]? = H[a]?) (hAB : ∀ q, B q → A q) : ZS t0 t1 t2 B U H1 :=
  ⟨⟨((h.1.1.kept hq).narrow hAB).moved hvm, ((h.1.2.1.kept hq).narrow hAB).moved hvm, h.1.2.2.go hvm hq hAB⟩, ⟨((h.2.1.1.kept hq).narrow hAB).moved hvm, ((h.2.1.2.kept hq).narrow hAB).moved hvm⟩, ⟨((h.2.2.1.1.kept hq).narrow hAB).moved hvm, ((h.2.2.1.2.kept hq).narrow hAB).moved hvm⟩, h.2.2.2.1.go hvm hq hAB, hN h.2.2.2.2⟩
def GW (κ : Cx) (nL n1 n2 : Nat) (ws : va_W) (pc : Nat) (lv : List (Nat × Value)) (st : List Value) : Prop :=
  match κ with
  | (p, l, e, R, s, m, args, below, meth, c, D, A, Q) => ∀ (H : Heap) (locs : List Loc) (ls : Array Slot), va_P D vwCl ws H → va_D A ws → va_S A s.heap H locs → lv_has ls nL lv → W p l e R s m args below meth c H locs n1 n2 Q (F0 m pc ls st)
def GC (κ : Cx) (l0 : Launch) (D0 : va_G) (zt : Nat × Nat × Nat × (Nat → Nat) × (Nat → Nat)) (cc : ByteArray) (nL : Nat) (own : String) (Ts : List Cond) (tys : Tys) (rm : Room) : Prop :=
  match κ with
  | (p, l, e, R, s, m, args, below, meth, c, D, A, Q) => p.tables.exec = Jvm.exec ∧ c.code = cc ∧ c.maxLocals = nL ∧ s.vm.findClass own = some m.cls ∧ (∀ w ∈ Ts, w.before args s = true) ∧ va_K D vwCl tys s ∧ (∀ q, s.heap.size ≤ q → A q) ∧ R = rm ∧ ZS zt.1 zt.2.1 zt.2.2 A s s.heap ∧ l = l0 ∧ D = D0
/-- a method's contract over its whole world -/
def GQ (D : va_G) (P : Option Value → Tys → va_W → Prop) (w : va_W) (sz : Nat) : Array Value → State → Outcome → State → Prop := fun _ st oc t => (∃ (v : Option Value) (tys' : Tys) (w' : va_W), oc = .returned v ∧ P v tys' w' ∧ va_P D vwCl w' t.heap ∧ va_K D vwCl tys' t ∧ va_D (va_A w sz) w') ∧ va_F (va_A w sz) st t
def GP (D : va_G) (zt : Nat × Nat × Nat × (Nat → Nat) × (Nat → Nat)) (tys : Tys) (av : List Value) (w : va_W) (sz : Nat) : Array Value → State → Prop := va_Pc av (fun U => U.heap.size = sz ∧ va_P D vwCl w U.heap ∧ va_K D vwCl tys U ∧ va_D (fun _ => True) w ∧ ZS zt.1 zt.2.1 zt.2.2 (va_A w sz) U U.heap)
def GM (l : Launch) (D : va_G) (zt : Nat × Nat × Nat × (Nat → Nat) × (Nat → Nat)) (tys : Tys) (y : MethodName) (wsy : List Cond) (rm : Room) (av : List Value) (w : va_W) (P : Option Value → Tys → va_W → Prop) (mc ms : Nat) : Prop :=
  ∀ sz : Nat, Met l y wsy rm (GP D zt tys av w sz) (GQ D P w sz) mc ms (va_A w sz)
def GR (κ : Cx) (ret : Option FieldType) (P : Option Value → Tys → va_W → Prop) (mc ms : Nat) (w : va_W) (sz : Nat) : Prop :=
  match κ with
  | (p, l, e, R, s, m, args, below, meth, c, D, A, Q) => Q = MQ below (GQ D P w sz) args s mc ms (va_A w sz) ∧ A = va_A w sz ∧ meth.sig.returnType = ret ∧ meth.locks = false
def GN (κ : Cx) : Prop := match κ with | (p, l, e, R, s, m, args, below, meth, c, D, A, Q) => meth.name = "<init>"
theorem GP.blind {D : va_G} {zt : Nat × Nat × Nat × (Nat → Nat) × (Nat → Nat)} {tys : Tys} {av : List Value} {w : va_W} {sz : Nat} : FrameBlind (GP D zt tys av w sz) := by
  intro a U g mk q
  obtain ⟨q0, q1, qP, qK, qD, qZ⟩ := q
  exact ⟨q0, q1, qP, va_K.moved (u := U) (U := U.calling g mk a) (Vm.Alike.refl U.vm) qK, qD, ZS.go (u := U) (U := U.calling g mk a) qZ (Vm.Alike.refl U.vm) (NS.same (s := U) (U := U.calling g mk a) rfl) (fun _ _ _ => rfl) (fun _ h => h)⟩
theorem GM.of {l : Launch} {D : va_G} {zt : Nat × Nat × Nat × (Nat → Nat) × (Nat → Nat)} {tys : Tys} {y : MethodName} {wsy wsy' : List Cond} {rm : Room} {av : List Value} {w : va_W} {P : Option Value → Tys → va_W → Prop} {mc ms : Nat} {cc : ByteArray} {maxL : Nat} {ret : Option FieldType} {own : String} {lv : List (Nat × Value)}
    (hy : plainName y.cls = true) (hw : wsy = Cond.code y cc maxL ret :: wsy') (ho : y.cls = own) (hav : (lg_sl av).length ≤ maxL) (hlv : lv_args 0 av = lv)
    (body : ∀ (κ : Cx) (sz : Nat), GC κ l D zt cc maxL own wsy tys rm → GR κ ret P mc ms w sz → (y.name = "<init>" → GN κ) → GW κ maxL 0 0 w 0 lv []) : GM l D zt tys y wsy rm av w P mc ms := by
  intro sz
  refine Met.ofW (cc := cc) (maxL := maxL) (ret := ret) hy hw ?_
  intro p e s m args below meth c s₁ B hml hv
  obtain ⟨rfl, hsz, hP, hK, hD0, hZ⟩ := hv
  have hts := atoms_spec (ws := wsy) B.pre
  have hown : s.vm.findClass own = some m.cls := by rw [← ho]; exact findClass_of_methodNamed B.named
  subst hsz
  have hD := hD0.self (sz := s.heap.size)
  have hl := lv_entry av (n := maxL) hav
  rw [hlv] at hl
  rw [lg_entry_eq]
  exact body (p, l, e, (headSpec wsy rm).room, s, m, _, below, meth, c, D, va_A w s.heap.size, MQ below (GQ D P w s.heap.size) _ s mc ms (va_A w s.heap.size)) s.heap.size
    ⟨B.exec, B.bytes, hml, hown, hts, hK, fun q h => Or.inr h, rfl, hZ, rfl, rfl⟩ ⟨rfl, rfl, B.returns, B.notSynchronized⟩ (fun h => (name_of_methodNamed B.named B.method).1.trans h) s.heap [] _ hP hD va_S.rf hl
section GI
variable {κ : Cx} {l0 : Launch} {D0 : va_G} {zt : Nat × Nat × Nat × (Nat → Nat) × (Nat → Nat)} {cc : ByteArray} {nL : Nat} {own : String} {Ts : List Cond} {tys : Tys} {rm : Room} {n1 n2 : Nat} {ws : va_W} {pc : Nat} {lv lv' : List (Nat × Value)} {st : List Value}
def lvg : List (Nat × Value) → Nat → Option Value
  | [], _ => none
  | q :: l, i => if q.1 = i then some q.2 else lvg l i
theorem lvg_has {ls : Array Slot} {i : Nat} {v : Value} : ∀ {lv : List (Nat × Value)}, lv_has ls nL lv → lvg lv i = some v → ls[i]? = some (.val v)
  | [], _, h => by cases h
  | q :: l, hl, h => by
    unfold lvg at h
    by_cases e : q.1 = i
    · rw [if_pos e] at h
      cases h
      rw [← e]
      exact hl.2.2 q List.mem_cons_self
    · rw [if_neg e] at h
      exact lvg_has (lv := l) ⟨hl.1, hl.2.1, fun x hx => hl.2.2 x (List.mem_cons_of_mem _ hx)⟩ h
theorem g_iconst (hk : GC κ l0 D0 zt cc nL own Ts tys rm) {n : Int} {v : Int32} (hd : decode cc pc = .ok (.iconst n, 1)) (hv : Int32.ofInt n = v) (k : GW κ nL n1 n2 ws (pc + 1) lv (.int v :: st)) : GW κ nL n1 n2 ws pc lv st := by
  obtain ⟨p, l, e, R, s, m, args, below, meth, c, D, A, Q⟩ := κ
  exact fun H locs ls hP hD hS hl => lv_iconst hk.1 hk.2.1 hd hv (k H locs ls hP hD hS hl)
theorem g_bipush (hk : GC κ l0 D0 zt cc nL own Ts tys rm) {n : Int} {v : Int32} (hd : decode cc pc = .ok (.bipush n, 2)) (hv : (Int8.ofInt n).toInt32 = v) (k : GW κ nL n1 n2 ws (pc + 2) lv (.int v :: st)) : GW κ nL n1 n2 ws pc lv st := by
  obtain ⟨p, l, e, R, s, m, args, below, meth, c, D, A, Q⟩ := κ
  exact fun H locs ls hP hD hS hl => lv_bipush hk.1 hk.2.1 hd hv (k H locs ls hP hD hS hl)
theorem g_sipush (hk : GC κ l0 D0 zt cc nL own Ts tys rm) {n : Int} {v : Int32} (hd : decode cc pc = .ok (.sipush n, 3)) (hv : (Int16.ofInt n).toInt32 = v) (k : GW κ nL n1 n2 ws (pc + 3) lv (.int v :: st)) : GW κ nL n1 n2 ws pc lv st := by
  obtain ⟨p, l, e, R, s, m, args, below, meth, c, D, A, Q⟩ := κ
  exact fun H locs ls hP hD hS hl => lv_sipush hk.1 hk.2.1 hd hv (k H locs ls hP hD hS hl)
theorem g_lconst (hk : GC κ l0 D0 zt cc nL own Ts tys rm) {n : Fin 2} {v : Int64} (hd : decode cc pc = .ok (.lconst n, 1)) (hv : Int64.ofNat (n : Nat) = v) (k : GW κ nL n1 n2 ws (pc + 1) lv (.long v :: st)) : GW κ nL n1 n2 ws pc lv st := by
  obtain ⟨p, l, e, R, s, m, args, below, meth, c, D, A, Q⟩ := κ
  exact fun H locs ls hP hD hS hl => lv_lconst hk.1 hk.2.1 hd hv (k H locs ls hP hD hS hl)
theorem g_ldc (hk : GC κ l0 D0 zt cc nL own Ts tys rm) {index : Nat} {v : Int32} (hw : Cond.constant own index v ∈ Ts) (hd : decode cc pc = .ok (.ldc index, 2)) (k : GW κ nL n1 n2 ws (pc + 2) lv (.int v :: st)) : GW κ nL n1 n2 ws pc lv st := by
  obtain ⟨p, l, e, R, s, m, args, below, meth, c, D, A, Q⟩ := κ
  exact fun H locs ls hP hD hS hl => lv_ldc hk.1 hk.2.1 hk.2.2.2.1 (hk.2.2.2.2.1 _ hw) hd (k H locs ls hP hD hS hl)
theorem g_ldcw (hk : GC κ l0 D0 zt cc nL own Ts tys rm) {index : Nat} {v : Int32} (hw : Cond.constant own index v ∈ Ts) (hd : decode cc pc = .ok (.ldc_w index, 3)) (k : GW κ nL n1 n2 ws (pc + 3) lv (.int v :: st)) : GW κ nL n1 n2 ws pc lv st := by
  obtain ⟨p, l, e, R, s, m, args, below, meth, c, D, A, Q⟩ := κ
  exact fun H locs ls hP hD hS hl => lv_ldcw hk.1 hk.2.1 hk.2.2.2.1 (hk.2.2.2.2.1 _ hw) hd (k H locs ls hP hD hS hl)
theorem g_ldc2 (hk : GC κ l0 D0 zt cc nL own Ts tys rm) {index : Nat} {v : Int64} (hw : Cond.constantLong own index v ∈ Ts) (hd : decode cc pc = .ok (.ldc2_w index, 3)) (k : GW κ nL n1 n2 ws (pc + 3) lv (.long v :: st)) : GW κ nL n1 n2 ws pc lv st := by
  obtain ⟨p, l, e, R, s, m, args, below, meth, c, D, A, Q⟩ := κ
  exact fun H locs ls hP hD hS hl => lv_ldc2 hk.1 hk.2.1 hk.2.2.2.1 (hk.2.2.2.2.1 _ hw) hd (k H locs ls hP hD hS hl)
theorem g_iload_n (hk : GC κ l0 D0 zt cc nL own Ts tys rm) {i : Fin 4} {x : Int32} (hd : decode cc pc = .ok (.iload_n i, 1)) (hg : lvg lv (i : Nat) = some (.int x)) (k : GW κ nL n1 n2 ws (pc + 1) lv (.int x :: st)) : GW κ nL n1 n2 ws pc lv st := by
  obtain ⟨p, l, e, R, s, m, args, below, meth, c, D, A, Q⟩ := κ
  exact fun H locs ls hP hD hS hl => lv_iload_n hk.1 hk.2.1 hd rfl (lvg_has hl hg) (k H locs ls hP hD hS hl)
theorem g_iload (hk : GC κ l0 D0 zt cc nL own Ts tys rm) {i : Nat} {x : Int32} (hd : decode cc pc = .ok (.iload i, 2)) (hg : lvg lv i = some (.int x)) (k : GW κ nL n1 n2 ws (pc + 2) lv (.int x :: st)) : GW κ nL n1 n2 ws pc lv st := by
  obtain ⟨p, l, e, R, s, m, args, below, meth, c, D, A, Q⟩ := κ
  exact fun H locs ls hP hD hS hl => lv_iload hk.1 hk.2.1 hd (lvg_has hl hg) (k H locs ls hP hD hS hl)
theorem g_lload_n (hk : GC κ l0 D0 zt cc nL own Ts tys rm) {i : Fin 4} {x : Int64} (hd : decode cc pc = .ok (.lload_n i, 1)) (hg : lvg lv (i : Nat) = some (.long x)) (k : GW κ nL n1 n2 ws (pc + 1) lv (.long x :: st)) : GW κ nL n1 n2 ws pc lv st := by
  obtain ⟨p, l, e, R, s, m, args, below, meth, c, D, A, Q⟩ := κ
  exact fun H locs ls hP hD hS hl => lv_lload_n hk.1 hk.2.1 hd rfl (lvg_has hl hg) (k H locs ls hP hD hS hl)
theorem g_lload (hk : GC κ l0 D0 zt cc nL own Ts tys rm) {i : Nat} {x : Int64} (hd : decode cc pc = .ok (.lload i, 2)) (hg : lvg lv i = some (.long x)) (k : GW κ nL n1 n2 ws (pc + 2) lv (.long x :: st)) : GW κ nL n1 n2 ws pc lv st := by
  obtain ⟨p, l, e, R, s, m, args, below, meth, c, D, A, Q⟩ := κ
  exact fun H locs ls hP hD hS hl => lv_lload hk.1 hk.2.1 hd (lvg_has hl hg) (k H locs ls hP hD hS hl)
theorem g_aload_n (hk : GC κ l0 D0 zt cc nL own Ts tys rm) {i : Fin 4} {x : Nat} (hd : decode cc pc = .ok (.aload_n i, 1)) (hg : lvg lv (i : Nat) = some (.ref x)) (k : GW κ nL n1 n2 ws (pc + 1) lv (.ref x :: st)) : GW κ nL n1 n2 ws pc lv st := by
  obtain ⟨p, l, e, R, s, m, args, below, meth, c, D, A, Q⟩ := κ
  exact fun H locs ls hP hD hS hl => lv_aload_n hk.1 hk.2.1 hd rfl (lvg_has hl hg) (k H locs ls hP hD hS hl)
theorem g_aload (hk : GC κ l0 D0 zt cc nL own Ts tys rm) {i : Nat} {x : Nat} (hd : decode cc pc = .ok (.aload i, 2)) (hg : lvg lv i = some (.ref x)) (k : GW κ nL n1 n2 ws (pc + 2) lv (.ref x :: st)) : GW κ nL n1 n2 ws pc lv st := by
  obtain ⟨p, l, e, R, s, m, args, below, meth, c, D, A, Q⟩ := κ
  exact fun H locs ls hP hD hS hl => lv_aload hk.1 hk.2.1 hd (lvg_has hl hg) (k H locs ls hP hD hS hl)
def lvs (lv : List (Nat × Value)) (i : Nat) (v : Value) : List (Nat × Value) := (i, v) :: lv.filter (fun q => !(q.1 == i) && !(q.1 + 1 == i && q.2.category == 2))
def lvs2 (lv : List (Nat × Value)) (i : Nat) (v : Value) : List (Nat × Value) := (i, v) :: lv.filter (fun q => !(q.1 == i) && (!(q.1 == i + 1) && !(q.1 + 1 == i && q.2.category == 2)))
theorem g_istore_n (hk : GC κ l0 D0 zt cc nL own Ts tys rm) {i : Fin 4} {x : Int32} (hd : decode cc pc = .ok (.istore_n i, 1)) (hn : (i : Nat) < nL) (hl' : lvs lv i (.int x) = lv') (k : GW κ nL n1 n2 ws (pc + 1) lv' st) : GW κ nL n1 n2 ws pc lv (.int x :: st) := by
  obtain ⟨p, l, e, R, s, m, args, below, meth, c, D, A, Q⟩ := κ
  exact fun H locs ls hP hD hS hl => lv_istore_n hk.1 hk.2.1 hd rfl hl hn hl' (fun ls' h' => k H locs ls' hP hD hS h')
theorem g_istore (hk : GC κ l0 D0 zt cc nL own Ts tys rm) {i : Nat} {x : Int32} (hd : decode cc pc = .ok (.istore i, 2)) (hn : i < nL) (hl' : lvs lv i (.int x) = lv') (k : GW κ nL n1 n2 ws (pc + 2) lv' st) : GW κ nL n1 n2 ws pc lv (.int x :: st) := by
  obtain ⟨p, l, e, R, s, m, args, below, meth, c, D, A, Q⟩ := κ
  exact fun H locs ls hP hD hS hl => lv_istore hk.1 hk.2.1 hd hl hn hl' (fun ls' h' => k H locs ls' hP hD hS h')
theorem g_astore_n (hk : GC κ l0 D0 zt cc nL own Ts tys rm) {i : Fin 4} {x : Nat} (hd : decode cc pc = .ok (.astore_n i, 1)) (hn : (i : Nat) < nL) (hl' : lvs lv i (.ref x) = lv') (k : GW κ nL n1 n2 ws (pc + 1) lv' st) : GW κ nL n1 n2 ws pc lv (.ref x :: st) := by
  obtain ⟨p, l, e, R, s, m, args, below, meth, c, D, A, Q⟩ := κ
  exact fun H locs ls hP hD hS hl => lv_astore_n hk.1 hk.2.1 hd rfl hl hn hl' (fun ls' h' => k H locs ls' hP hD hS h')
theorem g_astore (hk : GC κ l0 D0 zt cc nL own Ts tys rm) {i : Nat} {x : Nat} (hd : decode cc pc = .ok (.astore i, 2)) (hn : i < nL) (hl' : lvs lv i (.ref x) = lv') (k : GW κ nL n1 n2 ws (pc + 2) lv' st) : GW κ nL n1 n2 ws pc lv (.ref x :: st) := by
  obtain ⟨p, l, e, R, s, m, args, below, meth, c, D, A, Q⟩ := κ
  exact fun H locs ls hP hD hS hl => lv_astore hk.1 hk.2.1 hd hl hn hl' (fun ls' h' => k H locs ls' hP hD hS h')
theorem g_lstore_n (hk : GC κ l0 D0 zt cc nL own Ts tys rm) {i : Fin 4} {x : Int64} (hd : decode cc pc = .ok (.lstore_n i, 1)) (hn : (i : Nat) + 1 < nL) (hl' : lvs2 lv i (.long x) = lv') (k : GW κ nL n1 n2 ws (pc + 1) lv' st) : GW κ nL n1 n2 ws pc lv (.long x :: st) := by
  obtain ⟨p, l, e, R, s, m, args, below, meth, c, D, A, Q⟩ := κ
  exact fun H locs ls hP hD hS hl => lv_lstore_n hk.1 hk.2.1 hd rfl hl hn hl' (fun ls' h' => k H locs ls' hP hD hS h')
theorem g_lstore (hk : GC κ l0 D0 zt cc nL own Ts tys rm) {i : Nat} {x : Int64} (hd : decode cc pc = .ok (.lstore i, 2)) (hn : i + 1 < nL) (hl' : lvs2 lv i (.long x) = lv') (k : GW κ nL n1 n2 ws (pc + 2) lv' st) : GW κ nL n1 n2 ws pc lv (.long x :: st) := by
  obtain ⟨p, l, e, R, s, m, args, below, meth, c, D, A, Q⟩ := κ
  exact fun H locs ls hP hD hS hl => lv_lstore hk.1 hk.2.1 hd hl hn hl' (fun ls' h' => k H locs ls' hP hD hS h')
/-- the locals in another order, or fewer of them -/
theorem g_lv (h : ∀ q ∈ lv', q ∈ lv) (k : GW κ nL n1 n2 ws pc lv' st) : GW κ nL n1 n2 ws pc lv st := by
  obtain ⟨p, l, e, R, s, m, args, below, meth, c, D, A, Q⟩ := κ
  exact fun H locs ls hP hD hS hl => k H locs ls hP hD hS ⟨hl.1, hl.2.1, fun q hq => hl.2.2 q (h q hq)⟩
theorem g_iinc (hk : GC κ l0 D0 zt cc nL own Ts tys rm) {i : Nat} {n : Int} {x v : Int32} (j : Nat) (hd : decode cc pc = .ok (.iinc i n, 3)) (hj : lv[j]? = some (i, .int x)) (hv : x + Int32.ofInt n = v) (hn : i < nL) (hl' : lvs lv i (.int v) = lv') (k : GW κ nL n1 n2 ws (pc + 3) lv' st) : GW κ nL n1 n2 ws pc lv st := by
  obtain ⟨p, l, e, R, s, m, args, below, meth, c, D, A, Q⟩ := κ
  exact fun H locs ls hP hD hS hl => lv_iinc hk.1 hk.2.1 hd hl hj hv hn hl' (fun ls' h' => k H locs ls' hP hD hS h')
theorem g_iadd (hk : GC κ l0 D0 zt cc nL own Ts tys rm) {x y : Int32} (hd : decode cc pc = .ok (.iadd, 1)) (k : GW κ nL n1 n2 ws (pc + 1) lv (.int (x + y) :: st)) : GW κ nL n1 n2 ws pc lv (.int y :: .int x :: st) := by
  obtain ⟨p, l, e, R, s, m, args, below, meth, c, D, A, Q⟩ := κ
  exact fun H locs ls hP hD hS hl => lv_iadd hk.1 hk.2.1 hd (k H locs ls hP hD hS hl)
theorem g_isub (hk : GC κ l0 D0 zt cc nL own Ts tys rm) {x y : Int32} (hd : decode cc pc = .ok (.isub, 1)) (k : GW κ nL n1 n2 ws (pc + 1) lv (.int (x - y) :: st)) : GW κ nL n1 n2 ws pc lv (.int y :: .int x :: st) := by
  obtain ⟨p, l, e, R, s, m, args, below, meth, c, D, A, Q⟩ := κ
  exact fun H locs ls hP hD hS hl => lv_isub hk.1 hk.2.1 hd (k H locs ls hP hD hS hl)
theorem g_imul (hk : GC κ l0 D0 zt cc nL own Ts tys rm) {x y : Int32} (hd : decode cc pc = .ok (.imul, 1)) (k : GW κ nL n1 n2 ws (pc + 1) lv (.int (x * y) :: st)) : GW κ nL n1 n2 ws pc lv (.int y :: .int x :: st) := by
  obtain ⟨p, l, e, R, s, m, args, below, meth, c, D, A, Q⟩ := κ
  exact fun H locs ls hP hD hS hl => lv_imul hk.1 hk.2.1 hd (k H locs ls hP hD hS hl)
theorem g_iand (hk : GC κ l0 D0 zt cc nL own Ts tys rm) {x y : Int32} (hd : decode cc pc = .ok (.iand, 1)) (k : GW κ nL n1 n2 ws (pc + 1) lv (.int (x &&& y) :: st)) : GW κ nL n1 n2 ws pc lv (.int y :: .int x :: st) := by
  obtain ⟨p, l, e, R, s, m, args, below, meth, c, D, A, Q⟩ := κ
  exact fun H locs ls hP hD hS hl => lv_iand hk.1 hk.2.1 hd (k H locs ls hP hD hS hl)
theorem g_ior (hk : GC κ l0 D0 zt cc nL own Ts tys rm) {x y : Int32} (hd : decode cc pc = .ok (.ior, 1)) (k : GW κ nL n1 n2 ws (pc + 1) lv (.int (x ||| y) :: st)) : GW κ nL n1 n2 ws pc lv (.int y :: .int x :: st) := by
  obtain ⟨p, l, e, R, s, m, args, below, meth, c, D, A, Q⟩ := κ
  exact fun H locs ls hP hD hS hl => lv_ior hk.1 hk.2.1 hd (k H locs ls hP hD hS hl)
theorem g_ishl (hk : GC κ l0 D0 zt cc nL own Ts tys rm) {x y : Int32} (hd : decode cc pc = .ok (.ishl, 1)) (k : GW κ nL n1 n2 ws (pc + 1) lv (.int (x <<< (y &&& 31)) :: st)) : GW κ nL n1 n2 ws pc lv (.int y :: .int x :: st) := by
  obtain ⟨p, l, e, R, s, m, args, below, meth, c, D, A, Q⟩ := κ
  exact fun H locs ls hP hD hS hl => lv_ishl hk.1 hk.2.1 hd (k H locs ls hP hD hS hl)
theorem g_ishr (hk : GC κ l0 D0 zt cc nL own Ts tys rm) {x y : Int32} (hd : decode cc pc = .ok (.ishr, 1)) (k : GW κ nL n1 n2 ws (pc + 1) lv (.int (x >>> (y &&& 31)) :: st)) : GW κ nL n1 n2 ws pc lv (.int y :: .int x :: st) := by
  obtain ⟨p, l, e, R, s, m, args, below, meth, c, D, A, Q⟩ := κ
  exact fun H locs ls hP hD hS hl => lv_ishr hk.1 hk.2.1 hd (k H locs ls hP hD hS hl)
theorem g_idiv (hk : GC κ l0 D0 zt cc nL own Ts tys rm) {x y : Int32} (hd : decode cc pc = .ok (.idiv, 1)) (hne : ¬ y = 0) (k : GW κ nL n1 n2 ws (pc + 1) lv (.int (x / y) :: st)) : GW κ nL n1 n2 ws pc lv (.int y :: .int x :: st) := by
  obtain ⟨p, l, e, R, s, m, args, below, meth, c, D, A, Q⟩ := κ
  exact fun H locs ls hP hD hS hl => lv_idiv hk.1 hk.2.1 hd hne (k H locs ls hP hD hS hl)
theorem g_irem (hk : GC κ l0 D0 zt cc nL own Ts tys rm) {x y : Int32} (hd : decode cc pc = .ok (.irem, 1)) (hne : ¬ y = 0) (k : GW κ nL n1 n2 ws (pc + 1) lv (.int (x - x / y * y) :: st)) : GW κ nL n1 n2 ws pc lv (.int y :: .int x :: st) := by
  obtain ⟨p, l, e, R, s, m, args, below, meth, c, D, A, Q⟩ := κ
  exact fun H locs ls hP hD hS hl => lv_irem hk.1 hk.2.1 hd hne (k H locs ls hP hD hS hl)
theorem g_ineg (hk : GC κ l0 D0 zt cc nL own Ts tys rm) {x : Int32} (hd : decode cc pc = .ok (.ineg, 1)) (k : GW κ nL n1 n2 ws (pc + 1) lv (.int (-x) :: st)) : GW κ nL n1 n2 ws pc lv (.int x :: st) := by
  obtain ⟨p, l, e, R, s, m, args, below, meth, c, D, A, Q⟩ := κ
  exact fun H locs ls hP hD hS hl => lv_ineg hk.1 hk.2.1 hd (k H locs ls hP hD hS hl)
theorem g_iushr (hk : GC κ l0 D0 zt cc nL own Ts tys rm) {x y v : Int32} (hd : decode cc pc = .ok (.iushr, 1)) (hv : (x.toUInt32 >>> (y.toUInt32 &&& Int32.toUInt32 31)).toInt32 = v) (k : GW κ nL n1 n2 ws (pc + 1) lv (.int v :: st)) : GW κ nL n1 n2 ws pc lv (.int y :: .int x :: st) := by
  obtain ⟨p, l, e, R, s, m, args, below, meth, c, D, A, Q⟩ := κ
  exact fun H locs ls hP hD hS hl => lv_iushr hk.1 hk.2.1 hd hv (k H locs ls hP hD hS hl)
theorem g_i2b (hk : GC κ l0 D0 zt cc nL own Ts tys rm) {x v : Int32} (hd : decode cc pc = .ok (.i2b, 1)) (hv : x.toInt8.toInt32 = v) (k : GW κ nL n1 n2 ws (pc + 1) lv (.int v :: st)) : GW κ nL n1 n2 ws pc lv (.int x :: st) := by
  obtain ⟨p, l, e, R, s, m, args, below, meth, c, D, A, Q⟩ := κ
  exact fun H locs ls hP hD hS hl => lv_i2b hk.1 hk.2.1 hd hv (k H locs ls hP hD hS hl)
theorem g_i2l (hk : GC κ l0 D0 zt cc nL own Ts tys rm) {x : Int32} {v : Int64} (hd : decode cc pc = .ok (.i2l, 1)) (hv : x.toInt64 = v) (k : GW κ nL n1 n2 ws (pc + 1) lv (.long v :: st)) : GW κ nL n1 n2 ws pc lv (.int x :: st) := by
  obtain ⟨p, l, e, R, s, m, args, below, meth, c, D, A, Q⟩ := κ
  exact fun H locs ls hP hD hS hl => lv_i2l hk.1 hk.2.1 hd hv (k H locs ls hP hD hS hl)
theorem g_ladd (hk : GC κ l0 D0 zt cc nL own Ts tys rm) {x y : Int64} (hd : decode cc pc = .ok (.ladd, 1)) (k : GW κ nL n1 n2 ws (pc + 1) lv (.long (x + y) :: st)) : GW κ nL n1 n2 ws pc lv (.long y :: .long x :: st) := by
  obtain ⟨p, l, e, R, s, m, args, below, meth, c, D, A, Q⟩ := κ
  exact fun H locs ls hP hD hS hl => lv_ladd hk.1 hk.2.1 hd (k H locs ls hP hD hS hl)
theorem g_lmul (hk : GC κ l0 D0 zt cc nL own Ts tys rm) {x y : Int64} (hd : decode cc pc = .ok (.lmul, 1)) (k : GW κ nL n1 n2 ws (pc + 1) lv (.long (x * y) :: st)) : GW κ nL n1 n2 ws pc lv (.long y :: .long x :: st) := by
  obtain ⟨p, l, e, R, s, m, args, below, meth, c, D, A, Q⟩ := κ
  exact fun H locs ls hP hD hS hl => lv_lmul hk.1 hk.2.1 hd (k H locs ls hP hD hS hl)
theorem g_dup (hk : GC κ l0 D0 zt cc nL own Ts tys rm) {a : Value} (hd : decode cc pc = .ok (.dup, 1)) (ha : a.category = 1) (k : GW κ nL n1 n2 ws (pc + 1) lv (a :: a :: st)) : GW κ nL n1 n2 ws pc lv (a :: st) := by
  obtain ⟨p, l, e, R, s, m, args, below, meth, c, D, A, Q⟩ := κ
  exact fun H locs ls hP hD hS hl => lv_dup hk.1 hk.2.1 hd ha (k H locs ls hP hD hS hl)
theorem g_pop (hk : GC κ l0 D0 zt cc nL own Ts tys rm) {a : Value} (hd : decode cc pc = .ok (.pop, 1)) (ha : a.category = 1) (k : GW κ nL n1 n2 ws (pc + 1) lv (st)) : GW κ nL n1 n2 ws pc lv (a :: st) := by
  obtain ⟨p, l, e, R, s, m, args, below, meth, c, D, A, Q⟩ := κ
  exact fun H locs ls hP hD hS hl => lv_pop hk.1 hk.2.1 hd ha (k H locs ls hP hD hS hl)
theorem g_dup2 (hk : GC κ l0 D0 zt cc nL own Ts tys rm) {a b : Value} (hd : decode cc pc = .ok (.dup2, 1)) (ha : a.category = 1) (hb : b.category = 1) (k : GW κ nL n1 n2 ws (pc + 1) lv (a :: b :: a :: b :: st)) : GW κ nL n1 n2 ws pc lv (a :: b :: st) := by
  obtain ⟨p, l, e, R, s, m, args, below, meth, c, D, A, Q⟩ := κ
  exact fun H locs ls hP hD hS hl => lv_dup2_11 hk.1 hk.2.1 hd ha hb (k H locs ls hP hD hS hl)
theorem g_goto (hk : GC κ l0 D0 zt cc nL own Ts tys rm) {off : Int} {tgt : Nat} (hd : decode cc pc = .ok (.goto off, 3)) (ht : (pc : Int) + off = (tgt : Int)) (k : GW κ nL n1 n2 ws tgt lv st) : GW κ nL n1 n2 ws pc lv st := by
  obtain ⟨p, l, e, R, s, m, args, below, meth, c, D, A, Q⟩ := κ
  exact fun H locs ls hP hD hS hl => lv_goto hk.1 hk.2.1 hd ht (k H locs ls hP hD hS hl)
theorem g_if_eq (hk : GC κ l0 D0 zt cc nL own Ts tys rm) {x : Int32} {a : Int} {off : Int} {tgt : Nat} (hd : decode cc pc = .ok (.ifCond .eq off, 3)) (ht : (pc : Int) + off = (tgt : Int)) (hx : x.toInt = a) (kt : a = 0 → GW κ nL n1 n2 ws tgt lv st) (kf : ¬ (a = 0) → GW κ nL n1 n2 ws (pc + 3) lv st) : GW κ nL n1 n2 ws pc lv (.int x :: st) := by
  obtain ⟨p, l, e, R, s, m, args, below, meth, c, D, A, Q⟩ := κ
  have E0 : (0 : Int32).toInt = 0 := rfl
  subst hx
  exact fun H locs ls hP hD hS hl => lv_if_eq hk.1 hk.2.1 hd ht (fun h => kt (congrArg Int32.toInt h) H locs ls hP hD hS hl) (fun h => kf (fun q => h (Int32.toInt_inj.mp q)) H locs ls hP hD hS hl)
theorem g_icmp_eq (hk : GC κ l0 D0 zt cc nL own Ts tys rm) {x y : Int32} {a b : Int} {off : Int} {tgt : Nat} (hd : decode cc pc = .ok (.if_icmp .eq off, 3)) (ht : (pc : Int) + off = (tgt : Int)) (hx : x.toInt = a) (hy : y.toInt = b) (kt : a = b → GW κ nL n1 n2 ws tgt lv st) (kf : ¬ (a = b) → GW κ nL n1 n2 ws (pc + 3) lv st) : GW κ nL n1 n2 ws pc lv (.int y :: .int x :: st) := by
  obtain ⟨p, l, e, R, s, m, args, below, meth, c, D, A, Q⟩ := κ
  have E0 : (0 : Int32).toInt = 0 := rfl
  subst hx
  subst hy
  exact fun H locs ls hP hD hS hl => lv_icmp_eq hk.1 hk.2.1 hd ht (fun h => kt (congrArg Int32.toInt h) H locs ls hP hD hS hl) (fun h => kf (fun q => h (Int32.toInt_inj.mp q)) H locs ls hP hD hS hl)
theorem g_if_ne (hk : GC κ l0 D0 zt cc nL own Ts tys rm) {x : Int32} {a : Int} {off : Int} {tgt : Nat} (hd : decode cc pc = .ok (.ifCond .ne off, 3)) (ht : (pc : Int) + off = (tgt : Int)) (hx : x.toInt = a) (kt : a ≠ 0 → GW κ nL n1 n2 ws tgt lv st) (kf : ¬ (a ≠ 0) → GW κ nL n1 n2 ws (pc + 3) lv st) : GW κ nL n1 n2 ws pc lv (.int x :: st) := by
  obtain ⟨p, l, e, R, s, m, args, below, meth, c, D, A, Q⟩ := κ
  have E0 : (0 : Int32).toInt = 0 := rfl
  subst hx
  exact fun H locs ls hP hD hS hl => lv_if_ne hk.1 hk.2.1 hd ht (fun h => kt (fun q => h (Int32.toInt_inj.mp q)) H locs ls hP hD hS hl) (fun h => kf (fun q => q (congrArg Int32.toInt h)) H locs ls hP hD hS hl)
theorem g_icmp_ne (hk : GC κ l0 D0 zt cc nL own Ts tys rm) {x y : Int32} {a b : Int} {off : Int} {tgt : Nat} (hd : decode cc pc = .ok (.if_icmp .ne off, 3)) (ht : (pc : Int) + off = (tgt : Int)) (hx : x.toInt = a) (hy : y.toInt = b) (kt : a ≠ b → GW κ nL n1 n2 ws tgt lv st) (kf : ¬ (a ≠ b) → GW κ nL n1 n2 ws (pc + 3) lv st) : GW κ nL n1 n2 ws pc lv (.int y :: .int x :: st) := by
  obtain ⟨p, l, e, R, s, m, args, below, meth, c, D, A, Q⟩ := κ
  have E0 : (0 : Int32).toInt = 0 := rfl
  subst hx
  subst hy
  exact fun H locs ls hP hD hS hl => lv_icmp_ne hk.1 hk.2.1 hd ht (fun h => kt (fun q => h (Int32.toInt_inj.mp q)) H locs ls hP hD hS hl) (fun h => kf (fun q => q (congrArg Int32.toInt h)) H locs ls hP hD hS hl)
theorem g_if_lt (hk : GC κ l0 D0 zt cc nL own Ts tys rm) {x : Int32} {a : Int} {off : Int} {tgt : Nat} (hd : decode cc pc = .ok (.ifCond .lt off, 3)) (ht : (pc : Int) + off = (tgt : Int)) (hx : x.toInt = a) (kt : a < 0 → GW κ nL n1 n2 ws tgt lv st) (kf : ¬ (a < 0) → GW κ nL n1 n2 ws (pc + 3) lv st) : GW κ nL n1 n2 ws pc lv (.int x :: st) := by
  obtain ⟨p, l, e, R, s, m, args, below, meth, c, D, A, Q⟩ := κ
  have E0 : (0 : Int32).toInt = 0 := rfl
  subst hx
  exact fun H locs ls hP hD hS hl => lv_if_lt hk.1 hk.2.1 hd ht (fun h => kt (Int32.lt_iff_toInt_lt.mp h) H locs ls hP hD hS hl) (fun h => kf (fun q => h (Int32.lt_iff_toInt_lt.mpr q)) H locs ls hP hD hS hl)
theorem g_icmp_lt (hk : GC κ l0 D0 zt cc nL own Ts tys rm) {x y : Int32} {a b : Int} {off : Int} {tgt : Nat} (hd : decode cc pc = .ok (.if_icmp .lt off, 3)) (ht : (pc : Int) + off = (tgt : Int)) (hx : x.toInt = a) (hy : y.toInt = b) (kt : a < b → GW κ nL n1 n2 ws tgt lv st) (kf : ¬ (a < b) → GW κ nL n1 n2 ws (pc + 3) lv st) : GW κ nL n1 n2 ws pc lv (.int y :: .int x :: st) := by
  obtain ⟨p, l, e, R, s, m, args, below, meth, c, D, A, Q⟩ := κ
  have E0 : (0 : Int32).toInt = 0 := rfl
  subst hx
  subst hy
  exact fun H locs ls hP hD hS hl => lv_icmp_lt hk.1 hk.2.1 hd ht (fun h => kt (Int32.lt_iff_toInt_lt.mp h) H locs ls hP hD hS hl) (fun h => kf (fun q => h (Int32.lt_iff_toInt_lt.mpr q)) H locs ls hP hD hS hl)
theorem g_if_ge (hk : GC κ l0 D0 zt cc nL own Ts tys rm) {x : Int32} {a : Int} {off : Int} {tgt : Nat} (hd : decode cc pc = .ok (.ifCond .ge off, 3)) (ht : (pc : Int) + off = (tgt : Int)) (hx : x.toInt = a) (kt : 0 ≤ a → GW κ nL n1 n2 ws tgt lv st) (kf : ¬ (0 ≤ a) → GW κ nL n1 n2 ws (pc + 3) lv st) : GW κ nL n1 n2 ws pc lv (.int x :: st) := by
  obtain ⟨p, l, e, R, s, m, args, below, meth, c, D, A, Q⟩ := κ
  have E0 : (0 : Int32).toInt = 0 := rfl
  subst hx
  exact fun H locs ls hP hD hS hl => lv_if_ge hk.1 hk.2.1 hd ht (fun h => kt (Int32.le_iff_toInt_le.mp h) H locs ls hP hD hS hl) (fun h => kf (fun q => h (Int32.le_iff_toInt_le.mpr q)) H locs ls hP hD hS hl)
theorem g_icmp_ge (hk : GC κ l0 D0 zt cc nL own Ts tys rm) {x y : Int32} {a b : Int} {off : Int} {tgt : Nat} (hd : decode cc pc = .ok (.if_icmp .ge off, 3)) (ht : (pc : Int) + off = (tgt : Int)) (hx : x.toInt = a) (hy : y.toInt = b) (kt : b ≤ a → GW κ nL n1 n2 ws tgt lv st) (kf : ¬ (b ≤ a) → GW κ nL n1 n2 ws (pc + 3) lv st) : GW κ nL n1 n2 ws pc lv (.int y :: .int x :: st) := by
  obtain ⟨p, l, e, R, s, m, args, below, meth, c, D, A, Q⟩ := κ
  have E0 : (0 : Int32).toInt = 0 := rfl
  subst hx
  subst hy
  exact fun H locs ls hP hD hS hl => lv_icmp_ge hk.1 hk.2.1 hd ht (fun h => kt (Int32.le_iff_toInt_le.mp h) H locs ls hP hD hS hl) (fun h => kf (fun q => h (Int32.le_iff_toInt_le.mpr q)) H locs ls hP hD hS hl)
theorem g_if_gt (hk : GC κ l0 D0 zt cc nL own Ts tys rm) {x : Int32} {a : Int} {off : Int} {tgt : Nat} (hd : decode cc pc = .ok (.ifCond .gt off, 3)) (ht : (pc : Int) + off = (tgt : Int)) (hx : x.toInt = a) (kt : 0 < a → GW κ nL n1 n2 ws tgt lv st) (kf : ¬ (0 < a) → GW κ nL n1 n2 ws (pc + 3) lv st) : GW κ nL n1 n2 ws pc lv (.int x :: st) := by
  obtain ⟨p, l, e, R, s, m, args, below, meth, c, D, A, Q⟩ := κ
  have E0 : (0 : Int32).toInt = 0 := rfl
  subst hx
  exact fun H locs ls hP hD hS hl => lv_if_gt hk.1 hk.2.1 hd ht (fun h => kt (Int32.lt_iff_toInt_lt.mp h) H locs ls hP hD hS hl) (fun h => kf (fun q => h (Int32.lt_iff_toInt_lt.mpr q)) H locs ls hP hD hS hl)
theorem g_icmp_gt (hk : GC κ l0 D0 zt cc nL own Ts tys rm) {x y : Int32} {a b : Int} {off : Int} {tgt : Nat} (hd : decode cc pc = .ok (.if_icmp .gt off, 3)) (ht : (pc : Int) + off = (tgt : Int)) (hx : x.toInt = a) (hy : y.toInt = b) (kt : b < a → GW κ nL n1 n2 ws tgt lv st) (kf : ¬ (b < a) → GW κ nL n1 n2 ws (pc + 3) lv st) : GW κ nL n1 n2 ws pc lv (.int y :: .int x :: st) := by
  obtain ⟨p, l, e, R, s, m, args, below, meth, c, D, A, Q⟩ := κ
  have E0 : (0 : Int32).toInt = 0 := rfl
  subst hx
  subst hy
  exact fun H locs ls hP hD hS hl => lv_icmp_gt hk.1 hk.2.1 hd ht (fun h => kt (Int32.lt_iff_toInt_lt.mp h) H locs ls hP hD hS hl) (fun h => kf (fun q => h (Int32.lt_iff_toInt_lt.mpr q)) H locs ls hP hD hS hl)
theorem g_if_le (hk : GC κ l0 D0 zt cc nL own Ts tys rm) {x : Int32} {a : Int} {off : Int} {tgt : Nat} (hd : decode cc pc = .ok (.ifCond .le off, 3)) (ht : (pc : Int) + off = (tgt : Int)) (hx : x.toInt = a) (kt : a ≤ 0 → GW κ nL n1 n2 ws tgt lv st) (kf : ¬ (a ≤ 0) → GW κ nL n1 n2 ws (pc + 3) lv st) : GW κ nL n1 n2 ws pc lv (.int x :: st) := by
  obtain ⟨p, l, e, R, s, m, args, below, meth, c, D, A, Q⟩ := κ
  have E0 : (0 : Int32).toInt = 0 := rfl
  subst hx
  exact fun H locs ls hP hD hS hl => lv_if_le hk.1 hk.2.1 hd ht (fun h => kt (Int32.le_iff_toInt_le.mp h) H locs ls hP hD hS hl) (fun h => kf (fun q => h (Int32.le_iff_toInt_le.mpr q)) H locs ls hP hD hS hl)
theorem g_icmp_le (hk : GC κ l0 D0 zt cc nL own Ts tys rm) {x y : Int32} {a b : Int} {off : Int} {tgt : Nat} (hd : decode cc pc = .ok (.if_icmp .le off, 3)) (ht : (pc : Int) + off = (tgt : Int)) (hx : x.toInt = a) (hy : y.toInt = b) (kt : a ≤ b → GW κ nL n1 n2 ws tgt lv st) (kf : ¬ (a ≤ b) → GW κ nL n1 n2 ws (pc + 3) lv st) : GW κ nL n1 n2 ws pc lv (.int y :: .int x :: st) := by
  obtain ⟨p, l, e, R, s, m, args, below, meth, c, D, A, Q⟩ := κ
  have E0 : (0 : Int32).toInt = 0 := rfl
  subst hx
  subst hy
  exact fun H locs ls hP hD hS hl => lv_icmp_le hk.1 hk.2.1 hd ht (fun h => kt (Int32.le_iff_toInt_le.mp h) H locs ls hP hD hS hl) (fun h => kf (fun q => h (Int32.le_iff_toInt_le.mpr q)) H locs ls hP hD hS hl)
theorem g_tabIn (hk : GC κ l0 D0 zt cc nL own Ts tys rm) {dflt lo hi : Int} {offs : Array Int} {len : Nat} {x : Int32} {a off : Int} {tgt : Nat} (hd : decode cc pc = .ok (.tableswitch dflt lo hi offs, len)) (hx : x.toInt = a) (h1 : ¬ a < lo) (h2 : ¬ hi < a) (ho : offs[(a - lo).toNat]? = some off) (ht : (pc : Int) + off = (tgt : Int)) (k : GW κ nL n1 n2 ws tgt lv st) : GW κ nL n1 n2 ws pc lv (.int x :: st) := by
  obtain ⟨p, l, e, R, s, m, args, below, meth, c, D, A, Q⟩ := κ
  subst hx
  exact fun H locs ls hP hD hS hl => lv_tableIn hk.1 hk.2.1 hd h1 h2 ho ht (k H locs ls hP hD hS hl)
theorem g_tabOut (hk : GC κ l0 D0 zt cc nL own Ts tys rm) {dflt lo hi : Int} {offs : Array Int} {len : Nat} {x : Int32} {a : Int} {tgt : Nat} (hd : decode cc pc = .ok (.tableswitch dflt lo hi offs, len)) (hx : x.toInt = a) (h : a < lo ∨ hi < a) (ht : (pc : Int) + dflt = (tgt : Int)) (k : GW κ nL n1 n2 ws tgt lv st) : GW κ nL n1 n2 ws pc lv (.int x :: st) := by
  obtain ⟨p, l, e, R, s, m, args, below, meth, c, D, A, Q⟩ := κ
  subst hx
  exact fun H locs ls hP hD hS hl => lv_tableOut hk.1 hk.2.1 hd h ht (k H locs ls hP hD hS hl)
theorem g_lcmp (hk : GC κ l0 D0 zt cc nL own Ts tys rm) {x y : Int64} (hd : decode cc pc = .ok (.lcmp, 1)) (k : GW κ nL n1 n2 ws (pc + 1) lv (.int (lg_cmp x y) :: st)) : GW κ nL n1 n2 ws pc lv (.long y :: .long x :: st) := by
  obtain ⟨p, l, e, R, s, m, args, below, meth, c, D, A, Q⟩ := κ
  exact fun H locs ls hP hD hS hl => W.lcmp hk.1 hk.2.1 hd (k H locs ls hP hD hS hl)
/-- a name for the number on top -/
theorem g_topi {x : Int32} (k : ∀ y : Int32, y = x → GW κ nL n1 n2 ws pc lv (.int y :: st)) : GW κ nL n1 n2 ws pc lv (.int x :: st) := k x rfl
theorem g_get (hk : GC κ l0 D0 zt cc nL own Ts tys rm) {C ref : String} {T : u_T} {N ci index a : Nat} (hin : ∀ w ∈ u_ws C T N, w ∈ Ts) (q0 : Nat) {fs : List Value} (he : ws[q0]? = some (a, .inr (ci, fs))) (hc : vwCl[ci]? = some (C, T, N)) (k : Nat) (hkN : k < N) (hlink : Cond.fieldLink own index ref (T k).2.1 (T k).2.2.1 ∈ Ts) (hr : (T k).1 = ref) {v : Value} (hv : fs[k]? = some v) (hd : decode cc pc = .ok (.getfield index, 3)) (kk : GW κ nL n1 n2 ws (pc + 3) lv (v :: st)) : GW κ nL n1 n2 ws pc lv (.ref a :: st) := by
  obtain ⟨p, l, e, R, s, m, args, below, meth, c, D, A, Q⟩ := κ
  subst hr
  exact fun H locs ls hP hD hS hl => va_get hk.1 hk.2.1 hk.2.2.2.2.1 hin hk.2.2.2.1 hk.2.2.2.2.2.1 hP q0 he hc k hkN (hk.2.2.2.2.1 _ hlink) (fun _ h => h) hv hd (kk H locs ls hP hD hS hl)
theorem g_put (hk : GC κ l0 D0 zt cc nL own Ts tys rm) {C ref : String} {T : u_T} {N ci index a : Nat} (hin : ∀ w ∈ u_ws C T N, w ∈ Ts) (ty0 : Nat → FieldType) (hty : ∀ k, k < N → parseFieldDescriptor (T k).2.2.1 = some (ty0 k)) (hnm : ∀ a, a < N → ∀ b, b < N → a ≠ b → (T a).2.1 ≠ (T b).2.1) (q0 : Nat) {fs : List Value} (he : ws[q0]? = some (a, .inr (ci, fs))) (hc : vwCl[ci]? = some (C, T, N)) (k : Nat) (hkN : k < N) (hlink : Cond.fieldLink own index ref (T k).2.1 (T k).2.2.1 ∈ Ts) (hr : (T k).1 = ref) (hfin : (T k).2.2.2 = false) {v : Value} (hn : narrow (ty0 k) v = v) (hfit : fits (ty0 k) v = true) (hlen : k < fs.length) {ws' : va_W} (hw : ws.set q0 (a, .inr (ci, fs.set k v)) = ws') (hd : decode cc pc = .ok (.putfield index, 3)) (kk : GW κ nL n1 n2 ws' (pc + 3) lv st) : GW κ nL n1 n2 ws pc lv (v :: .ref a :: st) := by
  obtain ⟨p, l, e, R, s, m, args, below, meth, c, D, A, Q⟩ := κ
  subst hr
  subst hw
  exact fun H locs ls hP hD hS hl => va_put hk.1 hk.2.1 hk.2.2.2.2.1 hin ty0 hty hnm hk.2.2.2.1 hk.2.2.2.2.2.1 hP hD hS q0 he hc k hkN (hk.2.2.2.2.1 _ hlink) (fun _ h => h) hfin (hty k hkN) hn hfit hlen hd (fun H1 locs1 hP hD hS => kk H1 locs1 ls hP hD hS hl)
theorem g_putF (hk : GC κ l0 D0 zt cc nL own Ts tys rm) (hN : GN κ) {C ref : String} {T : u_T} {N ci index a : Nat} (hin : ∀ w ∈ u_ws C T N, w ∈ Ts) (ty0 : Nat → FieldType) (hty : ∀ k, k < N → parseFieldDescriptor (T k).2.2.1 = some (ty0 k)) (hnm : ∀ a, a < N → ∀ b, b < N → a ≠ b → (T a).2.1 ≠ (T b).2.1) (q0 : Nat) {fs : List Value} (he : ws[q0]? = some (a, .inr (ci, fs))) (hc : vwCl[ci]? = some (C, T, N)) (k : Nat) (hkN : k < N) (hlink : Cond.fieldLink own index ref (T k).2.1 (T k).2.2.1 ∈ Ts) (hr : (T k).1 = ref) (hfin : (T k).2.2.2 = true) (hro : ref = own) {v : Value} (hn : narrow (ty0 k) v = v) (hfit : fits (ty0 k) v = true) (hlen : k < fs.length) {ws' : va_W} (hw : ws.set q0 (a, .inr (ci, fs.set k v)) = ws') (hd : decode cc pc = .ok (.putfield index, 3)) (kk : GW κ nL n1 n2 ws' (pc + 3) lv st) : GW κ nL n1 n2 ws pc lv (v :: .ref a :: st) := by
  obtain ⟨p, l, e, R, s, m, args, below, meth, c, D, A, Q⟩ := κ
  subst hr
  subst hw
  exact fun H locs ls hP hD hS hl => va_putF hk.1 hk.2.1 hk.2.2.2.2.1 hin ty0 hty hnm hk.2.2.2.1 hk.2.2.2.2.2.1 hP hD hS q0 he hc k hkN (hk.2.2.2.2.1 _ hlink) (fun _ h => h) hfin hN hro (hty k hkN) hn hfit hlen hd (fun H1 locs1 hP hD hS => kk H1 locs1 ls hP hD hS hl)
theorem g_iald (hk : GC κ l0 D0 zt cc nL own Ts tys rm) {a : Nat} (q0 t0 : Nat) {cA : ClassId} {n : Nat} {f : Nat → Int32} (ha : ws[q0]? = some (a, .inl (cA, n, .inl f))) (ht : tys[t0]? = some (cA, .int)) {i v : Int32} (hin : vp_in i n) (hv : f i.toNatClampNeg = v) (hd : decode cc pc = .ok (.iaload, 1)) (kk : GW κ nL n1 n2 ws (pc + 1) lv (.int v :: st)) : GW κ nL n1 n2 ws pc lv (.int i :: .ref a :: st) := by
  obtain ⟨p, l, e, R, s, m, args, below, meth, c, D, A, Q⟩ := κ
  subst hv
  exact fun H locs ls hP hD hS hl => va_iald hk.1 hk.2.1 hk.2.2.2.2.2.1 hP q0 t0 ha ht hin hd (kk H locs ls hP hD hS hl)
theorem g_bald (hk : GC κ l0 D0 zt cc nL own Ts tys rm) {a : Nat} (q0 t0 : Nat) {cA : ClassId} {n : Nat} {f : Nat → Int32} (ha : ws[q0]? = some (a, .inl (cA, n, .inl f))) (ht : tys[t0]? = some (cA, .byte)) {i v : Int32} (hin : vp_in i n) (hv : f i.toNatClampNeg = v) (hd : decode cc pc = .ok (.baload, 1)) (kk : GW κ nL n1 n2 ws (pc + 1) lv (.int v :: st)) : GW κ nL n1 n2 ws pc lv (.int i :: .ref a :: st) := by
  obtain ⟨p, l, e, R, s, m, args, below, meth, c, D, A, Q⟩ := κ
  subst hv
  exact fun H locs ls hP hD hS hl => va_bald hk.1 hk.2.1 hk.2.2.2.2.2.1 hP q0 t0 ha ht hin hd (kk H locs ls hP hD hS hl)
theorem g_zald (hk : GC κ l0 D0 zt cc nL own Ts tys rm) {a : Nat} (q0 t0 : Nat) {cA : ClassId} {n : Nat} {f : Nat → Int32} (ha : ws[q0]? = some (a, .inl (cA, n, .inl f))) (ht : tys[t0]? = some (cA, .boolean)) {i v : Int32} (hin : vp_in i n) (hv : f i.toNatClampNeg = v) (hd : decode cc pc = .ok (.baload, 1)) (kk : GW κ nL n1 n2 ws (pc + 1) lv (.int v :: st)) : GW κ nL n1 n2 ws pc lv (.int i :: .ref a :: st) := by
  obtain ⟨p, l, e, R, s, m, args, below, meth, c, D, A, Q⟩ := κ
  subst hv
  exact fun H locs ls hP hD hS hl => va_zald hk.1 hk.2.1 hk.2.2.2.2.2.1 hP q0 t0 ha ht hin hd (kk H locs ls hP hD hS hl)
theorem g_lald (hk : GC κ l0 D0 zt cc nL own Ts tys rm) {a : Nat} (q0 t0 : Nat) {cA : ClassId} {n : Nat} {f : Nat → Int64} (ha : ws[q0]? = some (a, .inl (cA, n, .inr (.inl f)))) (ht : tys[t0]? = some (cA, .long)) {i : Int32} {v : Int64} (hin : vp_in i n) (hv : f i.toNatClampNeg = v) (hd : decode cc pc = .ok (.laload, 1)) (kk : GW κ nL n1 n2 ws (pc + 1) lv (.long v :: st)) : GW κ nL n1 n2 ws pc lv (.int i :: .ref a :: st) := by
  obtain ⟨p, l, e, R, s, m, args, below, meth, c, D, A, Q⟩ := κ
  subst hv
  exact fun H locs ls hP hD hS hl => va_lald hk.1 hk.2.1 hk.2.2.2.2.2.1 hP q0 t0 ha ht hin hd (kk H locs ls hP hD hS hl)
theorem g_aald (hk : GC κ l0 D0 zt cc nL own Ts tys rm) {a : Nat} (q0 t0 : Nat) {cA : ClassId} {C : String} {n : Nat} {f : Nat → Option Nat} (ha : ws[q0]? = some (a, .inl (cA, n, .inr (.inr (.inr (.inr f)))))) (ht : tys[t0]? = some (cA, .object C)) {i : Int32} {r : Nat} (hin : vp_in i n) (hv : f i.toNatClampNeg = some r) (hd : decode cc pc = .ok (.aaload, 1)) (kk : GW κ nL n1 n2 ws (pc + 1) lv (.ref r :: st)) : GW κ nL n1 n2 ws pc lv (.int i :: .ref a :: st) := by
  obtain ⟨p, l, e, R, s, m, args, below, meth, c, D, A, Q⟩ := κ
  refine fun H locs ls hP hD hS hl => va_aldq hk.1 hk.2.1 hk.2.2.2.2.2.1 hP q0 t0 ha ht hin hd ?_
  rw [hv]
  exact kk H locs ls hP hD hS hl
theorem g_iast (hk : GC κ l0 D0 zt cc nL own Ts tys rm) {a : Nat} (q0 t0 : Nat) {cA : ClassId} {n : Nat} {f : Nat → Int32} (ha : ws[q0]? = some (a, .inl (cA, n, .inl f))) (ht : tys[t0]? = some (cA, .int)) {i x : Int32} (hin : vp_in i n) {j : Nat} (hj : i.toNatClampNeg = j) {ws' : va_W} (hw : ws.set q0 (a, .inl (cA, n, .inl (upd f j x))) = ws') (hd : decode cc pc = .ok (.iastore, 1)) (kk : GW κ nL n1 n2 ws' (pc + 1) lv st) : GW κ nL n1 n2 ws pc lv (.int x :: .int i :: .ref a :: st) := by
  obtain ⟨p, l, e, R, s, m, args, below, meth, c, D, A, Q⟩ := κ
  subst hj
  subst hw
  exact fun H locs ls hP hD hS hl => va_iast hk.1 hk.2.1 hk.2.2.2.2.2.1 hP hD hS q0 t0 ha ht hin hd (fun H1 locs1 hP hD hS => kk H1 locs1 ls hP hD hS hl)
theorem g_zast (hk : GC κ l0 D0 zt cc nL own Ts tys rm) {a : Nat} (q0 t0 : Nat) {cA : ClassId} {n : Nat} {f : Nat → Int32} (ha : ws[q0]? = some (a, .inl (cA, n, .inl f))) (ht : tys[t0]? = some (cA, .boolean)) {i x y : Int32} (hin : vp_in i n) {j : Nat} (hj : i.toNatClampNeg = j) (hx : vp_nar .boolean x = y) {ws' : va_W} (hw : ws.set q0 (a, .inl (cA, n, .inl (upd f j y))) = ws') (hd : decode cc pc = .ok (.bastore, 1)) (kk : GW κ nL n1 n2 ws' (pc + 1) lv st) : GW κ nL n1 n2 ws pc lv (.int x :: .int i :: .ref a :: st) := by
  obtain ⟨p, l, e, R, s, m, args, below, meth, c, D, A, Q⟩ := κ
  subst hj
  subst hx
  subst hw
  exact fun H locs ls hP hD hS hl => va_zast hk.1 hk.2.1 hk.2.2.2.2.2.1 hP hD hS q0 t0 ha ht hin hd (fun H1 locs1 hP hD hS => kk H1 locs1 ls hP hD hS hl)
theorem g_bast (hk : GC κ l0 D0 zt cc nL own Ts tys rm) {a : Nat} (q0 t0 : Nat) {cA : ClassId} {n : Nat} {f : Nat → Int32} (ha : ws[q0]? = some (a, .inl (cA, n, .inl f))) (ht : tys[t0]? = some (cA, .byte)) {i x y : Int32} (hin : vp_in i n) {j : Nat} (hj : i.toNatClampNeg = j) (hx : vp_nar .byte x = y) {ws' : va_W} (hw : ws.set q0 (a, .inl (cA, n, .inl (upd f j y))) = ws') (hd : decode cc pc = .ok (.bastore, 1)) (kk : GW κ nL n1 n2 ws' (pc + 1) lv st) : GW κ nL n1 n2 ws pc lv (.int x :: .int i :: .ref a :: st) := by
  obtain ⟨p, l, e, R, s, m, args, below, meth, c, D, A, Q⟩ := κ
  subst hj
  subst hx
  subst hw
  exact fun H locs ls hP hD hS hl => va_bast hk.1 hk.2.1 hk.2.2.2.2.2.1 hP hD hS q0 t0 ha ht hin hd (fun H1 locs1 hP hD hS => kk H1 locs1 ls hP hD hS hl)
theorem g_last (hk : GC κ l0 D0 zt cc nL own Ts tys rm) {a : Nat} (q0 t0 : Nat) {cA : ClassId} {n : Nat} {f : Nat → Int64} (ha : ws[q0]? = some (a, .inl (cA, n, .inr (.inl f)))) (ht : tys[t0]? = some (cA, .long)) {i : Int32} {x : Int64} (hin : vp_in i n) {j : Nat} (hj : i.toNatClampNeg = j) {ws' : va_W} (hw : ws.set q0 (a, .inl (cA, n, .inr (.inl (vp_updL f j x)))) = ws') (hd : decode cc pc = .ok (.lastore, 1)) (kk : GW κ nL n1 n2 ws' (pc + 1) lv st) : GW κ nL n1 n2 ws pc lv (.long x :: .int i :: .ref a :: st) := by
  obtain ⟨p, l, e, R, s, m, args, below, meth, c, D, A, Q⟩ := κ
  subst hj
  subst hw
  exact fun H locs ls hP hD hS hl => va_last hk.1 hk.2.1 hk.2.2.2.2.2.1 hP hD hS q0 t0 ha ht hin hd (fun H1 locs1 hP hD hS => kk H1 locs1 ls hP hD hS hl)
theorem g_alen (hk : GC κ l0 D0 zt cc nL own Ts tys rm) {a : Nat} (q0 t0 : Nat) {cA : ClassId} {x : vp_A} (ha : ws[q0]? = some (a, .inl (cA, x))) {ty : FieldType} (ht : tys[t0]? = some (cA, ty)) {v : Int32} (hv : Int32.ofNat x.1 = v) (hd : decode cc pc = .ok (.arraylength, 1)) (kk : GW κ nL n1 n2 ws (pc + 1) lv (.int v :: st)) : GW κ nL n1 n2 ws pc lv (.ref a :: st) := by
  obtain ⟨p, l, e, R, s, m, args, below, meth, c, D, A, Q⟩ := κ
  exact fun H locs ls hP hD hS hl => va_alen hk.1 hk.2.1 hk.2.2.2.2.2.1 hP q0 t0 ha ht hv hd (kk H locs ls hP hD hS hl)
/-! returns -/
theorem g_iret (hk : GC κ l0 D0 zt cc nL own Ts tys rm) {ty : FieldType} {P : Option Value → Tys → va_W → Prop} {mc ms sz : Nat} {w : va_W} (hR : GR κ (some ty) P mc ms w sz) {x : Int32} (hn : narrow ty (.int x) = .int x) (hP : P (some (.int x)) tys ws) (hd : decode cc pc = .ok (.ireturn, 1)) : GW κ nL mc ms ws pc lv [.int x] := by
  obtain ⟨p, l, e, R, s, m, args, below, meth, c, D, A, Q⟩ := κ
  obtain ⟨rfl, rfl, hr, hlk⟩ := hR
  intro H locs ls hPw hD hS hl
  exact W.zret hk.1 hk.2.1 hr hn (fun t ht hW => ⟨⟨_, tys, ws, rfl, hP, by rw [ht]; exact hPw, va_K.moved hW.alike hk.2.2.2.2.2.1, hD⟩, hS.F ht⟩) hS.2.2 hd hlk
theorem g_vret (hk : GC κ l0 D0 zt cc nL own Ts tys rm) {P : Option Value → Tys → va_W → Prop} {mc ms sz : Nat} {w : va_W} (hR : GR κ none P mc ms w sz) (hP : P none tys ws) (hd : decode cc pc = .ok (.return_, 1)) : GW κ nL mc ms ws pc lv [] := by
  obtain ⟨p, l, e, R, s, m, args, below, meth, c, D, A, Q⟩ := κ
  obtain ⟨rfl, rfl, hr, hlk⟩ := hR
  intro H locs ls hPw hD hS hl
  exact W.vret hk.1 hk.2.1 hr (fun t ht hW => ⟨⟨_, tys, ws, rfl, hP, by rw [ht]; exact hPw, va_K.moved hW.alike hk.2.2.2.2.2.1, hD⟩, hS.F ht⟩) hS.2.2 hd hlk
theorem g_lret (hk : GC κ l0 D0 zt cc nL own Ts tys rm) {P : Option Value → Tys → va_W → Prop} {mc ms sz : Nat} {w : va_W} (hR : GR κ (some .long) P mc ms w sz) {x : Int64} (hP : P (some (.long x)) tys ws) (hd : decode cc pc = .ok (.lreturn, 1)) : GW κ nL mc ms ws pc lv [.long x] := by
  obtain ⟨p, l, e, R, s, m, args, below, meth, c, D, A, Q⟩ := κ
  obtain ⟨rfl, rfl, hr, hlk⟩ := hR
  intro H locs ls hPw hD hS hl
  exact W.lret hk.1 hk.2.1 hr (fun t ht hW => ⟨⟨_, tys, ws, rfl, hP, by rw [ht]; exact hPw, va_K.moved hW.alike hk.2.2.2.2.2.1, hD⟩, hS.F ht⟩) hS.2.2 hd hlk
/-! Math -/
theorem g_mmax (hk : GC κ l0 D0 zt cc nL own Ts tys rm) {index : Nat} (h1 : Cond.methodLink own index Lib.Math.max.name ∈ Ts) (h2 : Cond.static Lib.Math.max.name ∈ Ts) (h3 : Cond.initialized "java/lang/Math" ∈ Ts) (h4 : Cond.code Lib.Math.max.name Lib.Math.max.code 2 (some .int) ∈ Ts) (hf : 1 ≤ rm.frames) (hlo : (st.map fun v => v.category).sum + 13 ≤ rm.locals) (hc : n1 ≤ rm.cells) (hs : n2 ≤ rm.slots) {x y : Int32} (hd : decode cc pc = .ok (.invokestatic index, 3)) (kk : GW κ nL n1 n2 ws (pc + 3) lv (.int (if x < y then y else x) :: st)) : GW κ nL n1 n2 ws pc lv (.int y :: .int x :: st) := by
  obtain ⟨p, l, e, R, s, m, args, below, meth, c, D, A, Q⟩ := κ
  obtain ⟨hx, hb, hml, hown, hts, hK, hA, rfl, hz⟩ := hk
  exact fun H locs ls hP hD hS hl => va_mmax hx hb (hml.trans hl.1.symm) hown (hts _ h1) (hts _ h2) (hts _ h3) (hts _ h4) hf hlo hc hs hd (kk H locs ls hP hD hS hl)
theorem g_mmin (hk : GC κ l0 D0 zt cc nL own Ts tys rm) {index : Nat} (h1 : Cond.methodLink own index Lib.Math.min.name ∈ Ts) (h2 : Cond.static Lib.Math.min.name ∈ Ts) (h3 : Cond.initialized "java/lang/Math" ∈ Ts) (h4 : Cond.code Lib.Math.min.name Lib.Math.min.code 2 (some .int) ∈ Ts) (hf : 1 ≤ rm.frames) (hlo : (st.map fun v => v.category).sum + 13 ≤ rm.locals) (hc : n1 ≤ rm.cells) (hs : n2 ≤ rm.slots) {x y : Int32} (hd : decode cc pc = .ok (.invokestatic index, 3)) (kk : GW κ nL n1 n2 ws (pc + 3) lv (.int (if y < x then y else x) :: st)) : GW κ nL n1 n2 ws pc lv (.int y :: .int x :: st) := by
  obtain ⟨p, l, e, R, s, m, args, below, meth, c, D, A, Q⟩ := κ
  obtain ⟨hx, hb, hml, hown, hts, hK, hA, rfl, hz⟩ := hk
  exact fun H locs ls hP hD hS hl => va_mmin hx hb (hml.trans hl.1.symm) hown (hts _ h1) (hts _ h2) (hts _ h3) (hts _ h4) hf hlo hc hs hd (kk H locs ls hP hD hS hl)
/-! Object.<init>, new, newarray -/
theorem g_objInit (hk : GC κ l0 D0 zt cc nL own Ts tys rm) {idx a : Nat} (h1 : Cond.methodLink own idx Lib.objectInit ∈ Ts) (h2 : Cond.instanceMethod Lib.objectInit ∈ Ts) (h3 : Cond.code Lib.objectInit ⟨#[0xb1]⟩ 1 none ∈ Ts) (hf : 1 ≤ rm.frames) (hlo : (st.map fun v => v.category).sum + 12 ≤ rm.locals) (hd : decode cc pc = .ok (.invokespecial idx, 3)) (kk : GW κ nL n1 n2 ws (pc + 3) lv st) : GW κ nL n1 n2 ws pc lv (.ref a :: st) := by
  obtain ⟨p, l, e, R, s, m, args, below, meth, c, D, A, Q⟩ := κ
  obtain ⟨hx, hb, hml, hown, hts, hK, hA, rfl, hz⟩ := hk
  exact fun H locs ls hP hD hS hl => W.objInit hx hb hown (hts _ h1) (hts _ h2) (hts _ h3) rfl (by rw [hml]; exact hl.1) rfl hd hf (by show 2 * 0 + _ + 12 ≤ _; omega) (kk H locs ls hP hD hS hl)
theorem g_new (hk : GC κ l0 D0 zt cc nL own Ts tys rm) {C : String} {T : u_T} {N ci index : Nat} (hin : ∀ w ∈ u_ws C T N, w ∈ Ts) (ty : Nat → FieldType) (hty : ∀ k, k < N → parseFieldDescriptor (T k).2.2.1 = some (ty k)) (h1 : Cond.classLink own index C ∈ Ts) (h2 : Cond.instantiable C N ∈ Ts) (h3 : Cond.initialized C ∈ Ts) (hc : vwCl[ci]? = some (C, T, N)) {fs : List Value} (hfs : ∀ j, j < N → defaultValue (ty j) = vp_V fs j) (hcells : n1 + 1 ≤ rm.cells) (hslots : n2 + N ≤ rm.slots) (hd : decode cc pc = .ok (.new index, 3))
    (kk : ∀ q : Nat, GW κ nL (n1 + 1) (n2 + N) (ws ++ [(q, .inr (ci, fs))]) (pc + 3) lv (.ref q :: st)) : GW κ nL n1 n2 ws pc lv st := by
  obtain ⟨p, l, e, R, s, m, args, below, meth, c, D, A, Q⟩ := κ
  obtain ⟨hx, hb, hml, hown, hts, hK, hA, rfl, hz⟩ := hk
  exact fun H locs ls hP hD hS hl => va_new hx hb hts hin ty hty hown (hts _ h1) (hts _ h2) (hts _ h3) hK hP hD hS hA hc hfs hcells hslots hd (fun q H1 hP hD hS => kk q H1 locs ls hP hD hS hl)
theorem g_newa (hk : GC κ l0 D0 zt cc nL own Ts tys rm) {atype : ArrayType} {ty : FieldType} (h1 : Cond.arrayClass (newarray.typeOf atype) ∈ Ts) (hty : newarray.typeOf atype = ty) {n : Int32} {N' : Nat} {a0 : vp_A} (ha : ∀ cA : ClassId, vp_cell cA a0 = arrV cA N' (fun _ => defaultValue ty)) (hn : ¬ n < 0) (hN : n.toNatClampNeg = N') (hbytes : N' * componentBytes ty ≤ 536870912) (hcells : n1 + 1 ≤ rm.cells) (hslots : n2 + N' ≤ rm.slots) (hd : decode cc pc = .ok (.newarray atype, 2))
    (kk : ∀ (q : Nat) (cA : ClassId), GC κ l0 D0 zt cc nL own Ts (tys ++ [(cA, ty)]) rm → GW κ nL (n1 + 1) (n2 + N') (ws ++ [(q, .inl (cA, a0))]) (pc + 2) lv (.ref q :: st)) : GW κ nL n1 n2 ws pc lv (.int n :: st) := by
  obtain ⟨p, l, e, R, s, m, args, below, meth, c, D, A, Q⟩ := κ
  obtain ⟨hx, hb, hml, hown, hts, hK, hA, rfl, hz⟩ := hk
  exact fun H locs ls hP hD hS hl => va_newa hx hb (hts _ h1) hty hK hP hD hS hA ha hn hN hbytes hcells hslots hd (fun q cA H1 hK hP hD hS => kk q cA ⟨hx, hb, hml, hown, hts, hK, hA, rfl, hz⟩ H1 locs ls hP hD hS hl)
theorem g_newq (hk : GC κ l0 D0 zt cc nL own Ts tys rm) {index : Nat} (h1 : Cond.classLink own index RX8 ∈ Ts) {n : Int32} {N' : Nat} (hn : ¬ n < 0) (hN : n.toNatClampNeg = N') (hbytes : N' * 4 ≤ 536870912) (hcells : n1 + 1 ≤ rm.cells) (hslots : n2 + N' ≤ rm.slots) (hd : decode cc pc = .ok (.anewarray index, 3))
    (kk : ∀ (q : Nat) (cA : ClassId), GC κ l0 D0 zt cc nL own Ts (tys ++ [(cA, .object RX8)]) rm → GW κ nL (n1 + 1) (n2 + N') (ws ++ [(q, .inl (cA, N', .inr (.inr (.inr (.inr (fun _ => none))))))]) (pc + 3) lv (.ref q :: st)) : GW κ nL n1 n2 ws pc lv (.int n :: st) := by
  obtain ⟨p, l, e, R, s, m, args, below, meth, c, D, A, Q⟩ := κ
  obtain ⟨hx, hb, hml, hown, hts, hK, hA, rfl, hz⟩ := hk
  exact fun H locs ls hP hD hS hl => va_newq hx hb hown (hts _ h1) hz.1.2.2.2.2.1 hK hP hD hS hA hn hN hbytes hcells hslots hd (fun q cA H1 hK hP hD hS => kk q cA ⟨hx, hb, hml, hown, hts, hK, hA, rfl, hz⟩ H1 locs ls hP hD hS hl)
theorem g_aast (hk : GC κ l0 D0 zt cc nL own Ts tys rm) {a : Nat} (q0 t0 qk ci : Nat) {cA : ClassId} {r : vw_C} {n v : Nat} {vs : List Value} {f : Nat → Option Nat} (ha : ws[q0]? = some (a, .inl (cA, n, .inr (.inr (.inr (.inr f)))))) (ht : tys[t0]? = some (cA, .object r.1)) (hv : ws[qk]? = some (v, .inr (ci, vs))) (hc : vwCl[ci]? = some r) {i : Int32} (hin : vp_in i n) {j : Nat} (hj : i.toNatClampNeg = j) {ws' : va_W} (hw : ws.set q0 (a, .inl (cA, n, .inr (.inr (.inr (.inr (va_up f j (some v))))))) = ws') (hd : decode cc pc = .ok (.aastore, 1)) (kk : GW κ nL n1 n2 ws' (pc + 1) lv st) : GW κ nL n1 n2 ws pc lv (.ref v :: .int i :: .ref a :: st) := by
  obtain ⟨p, l, e, R, s, m, args, below, meth, c, D, A, Q⟩ := κ
  subst hj
  subst hw
  exact fun H locs ls hP hD hS hl => va_astq hk.1 hk.2.1 hk.2.2.2.2.2.1 hP hD hS q0 t0 qk ci ha ht hv hc hin hd (fun H1 locs1 hP hD hS => kk H1 locs1 ls hP hD hS hl)
/-! statics -/
theorem g_getsL (hk : GC κ l0 D0 zt cc nL own Ts tys rm) {index : Nat} (h1 : Cond.fieldLink own index "WarpDesk$Settings" "LOWEST" "[I" ∈ Ts) (hd : decode cc pc = .ok (.getstatic index, 3)) (kk : GW κ nL n1 n2 ws (pc + 3) lv (.ref zt.1 :: st)) : GW κ nL n1 n2 ws pc lv st := by
  obtain ⟨p, l, e, R, s, m, args, below, meth, c, D, A, Q⟩ := κ
  obtain ⟨hx, hb, hml, hown, hts, hK, hA, rfl, hz⟩ := hk
  exact fun H locs ls hP hD hS hl => va_gets hx hb hz.1.1.1 hS hown (hts _ h1) (fun _ h => h) hd (kk H locs ls hP hD hS hl)
theorem g_getsH (hk : GC κ l0 D0 zt cc nL own Ts tys rm) {index : Nat} (h1 : Cond.fieldLink own index "WarpDesk$Settings" "HIGHEST" "[I" ∈ Ts) (hd : decode cc pc = .ok (.getstatic index, 3)) (kk : GW κ nL n1 n2 ws (pc + 3) lv (.ref zt.2.1 :: st)) : GW κ nL n1 n2 ws pc lv st := by
  obtain ⟨p, l, e, R, s, m, args, below, meth, c, D, A, Q⟩ := κ
  obtain ⟨hx, hb, hml, hown, hts, hK, hA, rfl, hz⟩ := hk
  exact fun H locs ls hP hD hS hl => va_gets hx hb hz.1.2.1.1 hS hown (hts _ h1) (fun _ h => h) hd (kk H locs ls hP hD hS hl)
theorem g_getsU (hk : GC κ l0 D0 zt cc nL own Ts tys rm) {index : Nat} (h1 : Cond.fieldLink own index "WarpDesk$Settings" "UNTOLD" "[I" ∈ Ts) (hd : decode cc pc = .ok (.getstatic index, 3)) (kk : GW κ nL n1 n2 ws (pc + 3) lv (.ref zt.2.2.1 :: st)) : GW κ nL n1 n2 ws pc lv st := by
  obtain ⟨p, l, e, R, s, m, args, below, meth, c, D, A, Q⟩ := κ
  obtain ⟨hx, hb, hml, hown, hts, hK, hA, rfl, hz⟩ := hk
  exact fun H locs ls hP hD hS hl => va_gets hx hb hz.1.2.2.1.1 hS hown (hts _ h1) (fun _ h => h) hd (kk H locs ls hP hD hS hl)
theorem g_sL (hk : GC κ l0 D0 zt cc nL own Ts tys rm) {i : Int32} {v : Value} (hin : vp_in i 4) (hv : zLow i.toNatClampNeg = v) (hd : decode cc pc = .ok (.iaload, 1)) (kk : GW κ nL n1 n2 ws (pc + 1) lv (v :: st)) : GW κ nL n1 n2 ws pc lv (.int i :: .ref zt.1 :: st) := by
  obtain ⟨p, l, e, R, s, m, args, below, meth, c, D, A, Q⟩ := κ
  obtain ⟨hx, hb, hml, hown, hts, hK, hA, rfl, hz⟩ := hk
  exact fun H locs ls hP hD hS hl => va_ti hx hb hz.1.1.2.1 hS hin hv hd (kk H locs ls hP hD hS hl)
theorem g_sH (hk : GC κ l0 D0 zt cc nL own Ts tys rm) {i : Int32} {v : Value} (hin : vp_in i 4) (hv : zHigh i.toNatClampNeg = v) (hd : decode cc pc = .ok (.iaload, 1)) (kk : GW κ nL n1 n2 ws (pc + 1) lv (v :: st)) : GW κ nL n1 n2 ws pc lv (.int i :: .ref zt.2.1 :: st) := by
  obtain ⟨p, l, e, R, s, m, args, below, meth, c, D, A, Q⟩ := κ
  obtain ⟨hx, hb, hml, hown, hts, hK, hA, rfl, hz⟩ := hk
  exact fun H locs ls hP hD hS hl => va_ti hx hb hz.1.2.1.2 hS hin hv hd (kk H locs ls hP hD hS hl)
theorem g_sU (hk : GC κ l0 D0 zt cc nL own Ts tys rm) {i : Int32} {v : Value} (hin : vp_in i 4) (hv : zUn i.toNatClampNeg = v) (hd : decode cc pc = .ok (.iaload, 1)) (kk : GW κ nL n1 n2 ws (pc + 1) lv (v :: st)) : GW κ nL n1 n2 ws pc lv (.int i :: .ref zt.2.2.1 :: st) := by
  obtain ⟨p, l, e, R, s, m, args, below, meth, c, D, A, Q⟩ := κ
  obtain ⟨hx, hb, hml, hown, hts, hK, hA, rfl, hz⟩ := hk
  exact fun H locs ls hP hD hS hl => va_ti hx hb hz.1.2.2.1.2 hS hin hv hd (kk H locs ls hP hD hS hl)
theorem g_lenL (hk : GC κ l0 D0 zt cc nL own Ts tys rm) (hd : decode cc pc = .ok (.arraylength, 1)) (kk : GW κ nL n1 n2 ws (pc + 1) lv (.int 4 :: st)) : GW κ nL n1 n2 ws pc lv (.ref zt.1 :: st) := by
  obtain ⟨p, l, e, R, s, m, args, below, meth, c, D, A, Q⟩ := κ
  obtain ⟨hx, hb, hml, hown, hts, hK, hA, rfl, hz⟩ := hk
  exact fun H locs ls hP hD hS hl => va_tlen hx hb hz.1.1.2.1 hS rfl hd (kk H locs ls hP hD hS hl)
theorem g_lenH (hk : GC κ l0 D0 zt cc nL own Ts tys rm) (hd : decode cc pc = .ok (.arraylength, 1)) (kk : GW κ nL n1 n2 ws (pc + 1) lv (.int 4 :: st)) : GW κ nL n1 n2 ws pc lv (.ref zt.2.1 :: st) := by
  obtain ⟨p, l, e, R, s, m, args, below, meth, c, D, A, Q⟩ := κ
  obtain ⟨hx, hb, hml, hown, hts, hK, hA, rfl, hz⟩ := hk
  exact fun H locs ls hP hD hS hl => va_tlen hx hb hz.1.2.1.2 hS rfl hd (kk H locs ls hP hD hS hl)
theorem g_lenU (hk : GC κ l0 D0 zt cc nL own Ts tys rm) (hd : decode cc pc = .ok (.arraylength, 1)) (kk : GW κ nL n1 n2 ws (pc + 1) lv (.int 4 :: st)) : GW κ nL n1 n2 ws pc lv (.ref zt.2.2.1 :: st) := by
  obtain ⟨p, l, e, R, s, m, args, below, meth, c, D, A, Q⟩ := κ
  obtain ⟨hx, hb, hml, hown, hts, hK, hA, rfl, hz⟩ := hk
  exact fun H locs ls hP hD hS hl => va_tlen hx hb hz.1.2.2.1.2 hS rfl hd (kk H locs ls hP hD hS hl)
/-- UNTOLD.clone() -/
theorem g_cloneU (hk : GC κ l0 D0 zt cc nL own Ts tys rm) {index : Nat} (w1 : Cond.methodLink own index ⟨"[I", "clone", "()Ljava/lang/Object;"⟩ ∈ Ts) (w2 : Cond.sameMethod "[I" "java/lang/Object" "clone" "()Ljava/lang/Object;" ∈ Ts) (w3 : Cond.native ⟨"java/lang/Object", "clone", "()Ljava/lang/Object;"⟩ ∈ Ts) (w4 : Cond.instanceMethod ⟨"java/lang/Object", "clone", "()Ljava/lang/Object;"⟩ ∈ Ts) (w5 : Cond.selects "[I" ⟨"[I", "clone", "()Ljava/lang/Object;"⟩ ⟨"java/lang/Object", "clone", "()Ljava/lang/Object;"⟩ ∈ Ts)
    (hframes : 1 ≤ rm.frames) (hlocals : (st.map fun v => v.category).sum + 14 ≤ rm.locals) (hcells : n1 + 1 ≤ rm.cells) (hslots : n2 + 4 ≤ rm.slots) (hd : decode cc pc = .ok (.invokevirtual index, 3))
    (kk : ∀ (q : Nat) (cA : ClassId), GC κ l0 D0 zt cc nL own Ts (tys ++ [(cA, .int)]) rm → GW κ nL (n1 + 1) (n2 + 4) (ws ++ [(q, .inl (cA, 4, .inl unI))]) (pc + 3) lv (.ref q :: st)) : GW κ nL n1 n2 ws pc lv (.ref zt.2.2.1 :: st) := by
  obtain ⟨p, l, e, R, s, m, args, below, meth, c, D, A, Q⟩ := κ
  obtain ⟨hx, hb, hml, hown, hts, hK, hA, rfl, hz⟩ := hk
  intro H locs ls hP hD hS hl
  obtain ⟨cell, z1, z2, z3, z4, z5, z6, z7⟩ := hz.1.2.2.2.1
  obtain ⟨c0, t0', f1, f2, f3⟩ := Cond.castable_spec (va_Nw.use (A := args) rfl hz.1.2.2.2.2.2.1)
  cases z2.symm.trans f1
  intro T hT X
  have hsz : cell.slots.size = 4 := by rw [z6]; exact arrV_size _ _ _
  have hcellT : T.heap[zt.2.2.1]? = some cell := by rw [hT, hS.2.1 _ (Array.getElem?_eq_some_iff.mp z1).1 z7]; exact z1
  obtain ⟨-, kA, hkA, comp, hkind⟩ := State.isArrayOf_alike X.warmed.alike (z3 0 (fun _ => .null))
  obtain ⟨-, kS, hkS, compS, hkindS⟩ := z3 0 (fun _ => .null)
  have hcellE : ({ cls := cell.cls, slots := cell.slots } : Cell) = vp_cell cell.cls (4, .inl unI) := by rw [z6]; rfl
  obtain ⟨vm', X', st'⟩ := X.cloneArray hx hown (hts _ w1) (hts _ w2) (hts _ w3) (hts _ w4) (hts _ w5) (a := zt.2.2.1) (cell := cell) hcellT (fun k h => z4 k h) z5 z2 f2 f3
    (fun i v hv => by
      have hk' : T.vm.classes[cell.cls]? = some kA := hkA
      have hi : i < 4 := by rw [← hsz]; exact (Array.getElem?_eq_some_iff.mp hv).1
      rw [z6, arrV_read _ _ hi] at hv
      cases hv
      simp [State.fitsSlot, State.slotType?, hk', hkind, fits])
    (g := F0 m pc ls (.ref zt.2.2.1 :: st)) rfl (by rw [hml]; exact hl.1) rfl (by rw [hb]; exact hd) hframes (by show 2 * 0 + _ + 14 ≤ _; omega) hcells (by rw [hsz]; exact hslots) (hloader := Vm.clonesLoader_of_array hkS hkindS)
  rw [hcellE, hsz] at X'
  generalize hH1 : H.push (vp_cell cell.cls (4, .inl unI)) = H1
  have z1' : H1.size = H.size + 1 := by rw [← hH1, Array.size_push]
  have e1 : H1[H.size]? = some (vp_cell cell.cls (4, .inl unI)) := by rw [← hH1, Array.getElem?_push_size]
  have o1 : ∀ q : Nat, q < H.size → H1[q]? = H[q]? := fun q hq => by rw [← hH1, Array.getElem?_push, if_neg (Nat.ne_of_lt hq)]
  have hkq : ∀ (k : Nat) (y : Nat × va_E), ws[k]? = some y → H1[y.1]? = H[y.1]? := fun k y hy => o1 y.1 ((hP k y hy).lt)
  have hK' : va_K D vwCl (tys ++ [(cell.cls, .int)]) s := ⟨hK.1, fun k y hy => by
      by_cases hl : k < tys.length
      · rw [List.getElem?_append_left hl] at hy
        exact hK.2 k y hy
      · rw [List.getElem?_append_right (by omega)] at hy
        have hz : k - tys.length < 1 := (List.getElem?_eq_some_iff.mp hy).1
        rw [show k - tys.length = 0 by omega] at hy
        cases hy
        exact ⟨z3, z2⟩⟩
  obtain ⟨t, b1, b2⟩ := kk H.size cell.cls ⟨hx, hb, hml, hown, hts, hK', hA, rfl, hz⟩ H1 locs ls ((hP.kept hkq).app (fun k y hy => by
      have hz : k < 1 := (List.getElem?_eq_some_iff.mp hy).1
      rw [show k = 0 by omega] at hy
      cases hy
      exact e1)) (hD.push hP rfl (hA _ hS.1)) ⟨Nat.le_trans hS.1 (by omega), fun y h1 h2 => (o1 y (Nat.lt_of_lt_of_le h1 hS.1)).trans (hS.2.1 y h1 h2), hS.2.2⟩ hl
    ((T.setVm vm').pushCell (vp_cell cell.cls (4, .inl unI))) (by rw [← hH1, ← hT]; rfl) X'
  refine ⟨t, st' t ?_, b2⟩
  rw [hcellE, hT]
  exact b1
/-- checkcast "[I" of a clone: the newest cell of the world -/
theorem g_castI (hk : GC κ l0 D0 zt cc nL own Ts tys rm) {index a : Nat} (w1 : Cond.classLink own index "[I" ∈ Ts) (q0 t0 : Nat) {cA : ClassId} {x : vp_A} (ha : ws[q0]? = some (a, .inl (cA, x))) (ht : tys[t0]? = some (cA, .int)) (hd : decode cc pc = .ok (.checkcast index, 3)) (kk : GW κ nL n1 n2 ws (pc + 3) lv (.ref a :: st)) : GW κ nL n1 n2 ws pc lv (.ref a :: st) := by
  obtain ⟨p, l, e, R, s, m, args, below, meth, c, D, A, Q⟩ := κ
  obtain ⟨hx, hb, hml, hown, hts, hK, hA, rfl, hz⟩ := hk
  exact fun H locs ls hP hD hS hl => va_castA hx hb hown (hts _ w1) hP q0 ha (hK.2 t0 _ ht).2 hd (kk H locs ls hP hD hS hl)
end GI
end
section
/-! CALLS over the G layer: the callee's world is a part of the caller's -/
def SP (ws w wr : va_W) : Prop := ∃ fr fc : Nat → Nat, (∀ i p, wr[i]? = some p → ws[fr i]? = some p) ∧ (∀ i p, w[i]? = some p → ws[fc i]? = some p) ∧ (∀ i j, fr i = fr j → i = j) ∧ (∀ i j, fc i = fc j → i = j) ∧ ∀ i j p q, wr[i]? = some p → w[j]? = some q → fr i ≠ fc j
theorem SP.same (w : va_W) : SP w w [] := ⟨fun i => i, fun i => i, fun i p h => by simp at h, fun _ _ h => h, fun _ _ h => h, fun _ _ h => h, fun i j p q h => by simp at h⟩
theorem SP.suf (wl w : va_W) : SP (wl ++ w) w wl := by
  refine ⟨fun i => i, fun i => wl.length + i, fun i p h => ?_, fun i p h => ?_, fun _ _ h => h, fun i j h => ?_, fun i j p q h h2 => ?_⟩
  · show (wl ++ w)[i]? = some p
    rw [List.getElem?_append_left (List.getElem?_eq_some_iff.mp h).1]; exact h
  · show (wl ++ w)[wl.length + i]? = some p
    rw [List.getElem?_append_right (by omega), Nat.add_sub_cancel_left]; exact h
  · exact Nat.add_left_cancel h
  · have := (List.getElem?_eq_some_iff.mp h).1
    show i ≠ wl.length + j
    omega
theorem SP.pre (w wr : va_W) : SP (w ++ wr) w wr := by
  refine ⟨fun i => w.length + i, fun i => i, fun i p h => ?_, fun i p h => ?_, fun i j h => ?_, fun _ _ h => h, fun i j p q h h2 => ?_⟩
  · show (w ++ wr)[w.length + i]? = some p
    rw [List.getElem?_append_right (by omega), Nat.add_sub_cancel_left]; exact h
  · show (w ++ wr)[i]? = some p
    rw [List.getElem?_append_left (List.getElem?_eq_some_iff.mp h).1]; exact h
  · exact Nat.add_left_cancel h
  · have := (List.getElem?_eq_some_iff.mp h2).1
    show w.length + i ≠ j
    omega
theorem SP.join {A0 : Nat → Prop} {D : va_G} {ws w wr w' : va_W} {H H1 : Heap} (hs : SP ws w wr) (hP : va_P D vwCl ws H) (hD : va_D A0 ws) (hk : ∀ q : Nat, q < H.size → ¬ va_A w H.size q → H1[q]? = H[q]?) (hF : ∀ q, va_A w H.size q → A0 q) (hP1 : va_P D vwCl w' H1) (hD1 : va_D (va_A w H.size) w') : va_P D vwCl (wr ++ w') H1 ∧ va_D A0 (wr ++ w') := by
  obtain ⟨fr, fc, hr, hc, hi, hj, hdis⟩ := hs
  have apart : ∀ (i : Nat) (p : Nat × va_E), wr[i]? = some p → p.1 < H.size ∧ ¬ va_A w H.size p.1 := by
    intro i p h
    have h1 := hr i p h
    have hl := (hP _ p h1).lt
    refine ⟨hl, fun z => ?_⟩
    rcases z with ⟨k, e, z⟩ | z
    · exact hdis i k p (p.1, e) h z (hD.1 _ _ p (p.1, e) h1 (hc k _ z) rfl)
    · omega
  refine ⟨va_P.app (fun k q hq => ?_) hP1, va_D.app ⟨fun i j x y hx hy hxy => hi _ _ (hD.1 _ _ x y (hr _ _ hx) (hr _ _ hy) hxy), fun k q hq => hD.2 _ q (hr _ _ hq)⟩ (hD1.weaken (fun k q _ h => hF q.1 h)) (fun i j x y hx hy hxy => (apart i x hx).2 (by rw [hxy]; exact hD1.2 j y hy))⟩
  obtain ⟨g1, g2⟩ := apart k q hq
  exact (hP _ q (hr _ _ hq)).kept (hk q.1 g1 g2)
section GB
variable {p : Program} {l : Launch} {e : Env} {R : Room} {s : State} {m : MethodId} {args : Array Value} {below : List Frame} {meth : Method} {c : Code} {D : va_G} {A : Nat → Prop} {Q : State → Prop}
theorem g_behind {H : Heap} {locs : List Loc} {n1 n2 mc ms pc : Nat} {ls : Array Slot} {st rest : List Value} {P : Option Value → Tys → va_W → Prop} {ws w wr : va_W} {a : Array Value} {tys : Tys}
    (run : va_Run p l e R s m args below meth c H locs n1 n2 mc ms (F0 m pc ls st) rest (GQ D P w H.size a) (va_A w H.size)) (hs : SP ws w wr) (hP : va_P D vwCl ws H) (hD : va_D A ws) (hS : va_S A s.heap H locs) (hF : ∀ q, va_A w H.size q → A q) (hK : va_K D vwCl tys s)
    (kk : ∀ (v : Option Value) (tys' : Tys) (w' : va_W), P v tys' w' → va_K D vwCl (tys ++ tys') s → ∀ (H1 : Heap) (locs1 : List Loc), va_P D vwCl (wr ++ w') H1 → va_D A (wr ++ w') → va_S A s.heap H1 locs1 → W p l e R s m args below meth c H1 locs1 (n1 + mc) (n2 + ms) Q (F0 m (pc + 3) ls (v.toList ++ rest))) :
    W p l e R s m args below meth c H locs n1 n2 Q (F0 m pc ls st) := by
  intro T hT X
  obtain ⟨v, st₀, t, T', L, h0, X', hL, e1, e2, ⟨⟨v', tys', w', hv, hp, hPw, hKw, hDw⟩, hz, hkq⟩, stp⟩ := run T hT X
  cases hv
  rw [h0] at hz hkq
  have hvm : s.vm.Alike t.vm := by rw [← e2]; exact X'.warmed.alike
  obtain ⟨hP', hD'⟩ := hs.join (H1 := T'.heap) hP hD (fun q h1 h2 => by rw [e1]; exact hkq q h1 h2) hF (by rw [e1]; exact hPw) hDw
  obtain ⟨t2, a1, b1⟩ := kk v tys' w' hp (hK.app (va_K.moved hvm.symm hKw)) T'.heap (locs ++ L) hP' hD'
    ⟨Nat.le_trans hS.1 (by rw [e1]; exact hz), fun q h1 h2 => by rw [e1, hkq q (Nat.lt_of_lt_of_le h1 hS.1) (fun z => h2 (hF q z))]; exact hS.2.1 q h1 h2, fun q hq => by
      rcases List.mem_append.mp hq with h | h
      · exact hS.2.2 q h
      · exact hF _ (hL q h)⟩ T' rfl X'
  exact ⟨t2, stp t2 a1, b1⟩
theorem SP.Fp {H : Heap} {locs : List Loc} {ws w wr : va_W} (hs : SP ws w wr) (hD : va_D A ws) (hS : va_S A s.heap H locs) (hA : ∀ q, s.heap.size ≤ q → A q) : ∀ q, va_A w H.size q → A q := by
  obtain ⟨fr, fc, hr, hc, hi, hj, hdis⟩ := hs
  intro q h
  rcases h with ⟨k, e, h⟩ | h
  · exact hD.2 _ _ (hc k _ h)
  · exact hA q (Nat.le_trans hS.1 h)
theorem SP.Pp {H : Heap} {ws w wr : va_W} (hs : SP ws w wr) (hP : va_P D vwCl ws H) : va_P D vwCl w H := by
  obtain ⟨fr, fc, hr, hc, hi, hj, hdis⟩ := hs
  exact fun k q h => hP _ q (hc k q h)
theorem SP.Dp {ws w wr : va_W} (hs : SP ws w wr) (hD : va_D A ws) : va_D A w := by
  obtain ⟨fr, fc, hr, hc, hi, hj, hdis⟩ := hs
  exact ⟨fun i j x y hx hy hxy => hj _ _ (hD.1 _ _ x y (hc _ _ hx) (hc _ _ hy) hxy), fun k q hq => hD.2 _ q (hc _ _ hq)⟩
theorem g_pre {H : Heap} {locs : List Loc} {zt : Nat × Nat × Nat × (Nat → Nat) × (Nat → Nat)} {tysC : Tys} {av : List Value} {w : va_W} (hPc : va_P D vwCl w H) (hKc : va_K D vwCl tysC s) (hDc : va_D A w) (hz : ZS zt.1 zt.2.1 zt.2.2 A s s.heap) (hS : va_S A s.heap H locs) (hF : ∀ q, va_A w H.size q → A q) : ∀ U : State, U.heap = H → s.WarmedH U.vm → GP D zt tysC av w H.size av.toArray U := by
  intro U hU hW
  refine ⟨rfl, by rw [hU], by rw [hU]; exact hPc, va_K.moved hW.alike hKc, hDc.weaken (fun _ _ _ _ => trivial), ?_⟩
  rw [hU]
  exact hz.go hW.alike (NS.warm hW) (fun a h1 h2 => hS.2.1 a h1 h2) hF
end GB
theorem tysub {D : va_G} {s : State} {t1 t2 : Tys} (h : va_K D vwCl t1 s) (hs : ∀ q ∈ t2, q ∈ t1) : va_K D vwCl t2 s := ⟨h.1, fun k q hk => by
  obtain ⟨i, hi⟩ := List.getElem?_of_mem (hs q (List.mem_of_getElem? hk))
  exact h.2 i q hi⟩
theorem GC.tys {κ : Cx} {l0 : Launch} {D0 : va_G} {zt : Nat × Nat × Nat × (Nat → Nat) × (Nat → Nat)} {cc : ByteArray} {nL : Nat} {own : String} {Ts : List Cond} {t1 t2 : Tys} {rm : Room} (hk : GC κ l0 D0 zt cc nL own Ts t1 rm) (hs : ∀ q ∈ t2, q ∈ t1) : GC κ l0 D0 zt cc nL own Ts t2 rm := by
  obtain ⟨p, l, e, R, s, m, args, below, meth, c, D, A, Q⟩ := κ
  obtain ⟨hx, hb, hml, hown, hts, hK, hA, hz⟩ := hk
  exact ⟨hx, hb, hml, hown, hts, tysub hK hs, hA, hz⟩
section GK
variable {κ : Cx} {l0 : Launch} {D0 : va_G} {zt : Nat × Nat × Nat × (Nat → Nat) × (Nat → Nat)} {cc : ByteArray} {nL : Nat} {own : String} {Ts : List Cond} {tys tysC : Tys} {rm rmy : Room} {n1 n2 : Nat} {ws w wr : va_W} {pc : Nat} {lv : List (Nat × Value)} {st : List Value}
  {y : MethodName} {wsy wsy' : List Cond} {As rest : List Value} {b : Nat} {P : Option Value → Tys → va_W → Prop} {mc ms n idx maxL : Nat} {bytes : ByteArray} {ret : Option FieldType} {C : String} {T : u_T} {N ci : Nat} {fs : List Value}
theorem g_callV (hk : GC κ l0 D0 zt cc nL own Ts tys rm) (hM : GM l0 D0 zt tysC y wsy rmy (.ref b :: As) w P mc ms) (hs : SP ws w wr) (hty : ∀ q ∈ tysC, q ∈ tys)
    (hG : GoodIn Ts (wsV own idx C y wsy)) (hw : wsy = Cond.code y bytes maxL ret :: wsy') (hrc : rmy.cells = mc) (hrs : rmy.slots = ms) (hdd : y.cls = C ∧ y.cls ≠ "java/lang/invoke/MethodHandle" ∧ y.cls ≠ "java/lang/invoke/VarHandle" ∧ (parseMethodDescriptor y.desc).map (fun d => d.parameters.length) = some n) (hRm : rmy.frames + 1 ≤ rm.frames ∧ 8 + (maxL + 11) + rmy.locals ≤ rm.locals)
    (q0 : Nat) (he : w[q0]? = some (b, .inr (ci, fs))) (hc : vwCl[ci]? = some (C, T, N)) (hn : As.length = n) (hst : st = As.reverse ++ .ref b :: rest) (hcat : (rest.map fun v => v.category).sum ≤ 8) (hf : n1 + mc ≤ rm.cells ∧ n2 + ms ≤ rm.slots) (hd : decode cc pc = .ok (.invokevirtual idx, 3))
    (kk : ∀ (v : Option Value) (tys' : Tys) (w' : va_W), P v tys' w' → GC κ l0 D0 zt cc nL own Ts (tys ++ tys') rm → GW κ nL (n1 + mc) (n2 + ms) (wr ++ w') (pc + 3) lv (v.toList ++ rest)) : GW κ nL n1 n2 ws pc lv st := by
  obtain ⟨p, l, e, R, s, m, args, below, meth, c, D, A, Q⟩ := κ
  obtain ⟨hx, hb, hml, hown, hts, hK, hA, rfl, hz, rfl, rfl⟩ := hk
  subst hst
  intro H locs ls hP hD hS hl
  have hF := hs.Fp hD hS hA
  have hKc := tysub hK hty
  exact g_behind (tys := tys) (va_runV (As := As) (rest := rest) ⟨hx, hb, hml, hown, hts⟩ (hM H.size) (cwV n hts hG hw hrc hrs hdd hRm) ⟨GP.blind, va_recv hKc (hs.Pp hP) hc he, g_pre (hs.Pp hP) hKc (hs.Dp hD) hz hS hF⟩ rfl hn hl.1 rfl (lv_room hcat) hd hf) hs hP hD hS hF hK
    (fun v tys' w' hp hK' H1 locs1 hP' hD' hS' => kk v tys' w' hp ⟨hx, hb, hml, hown, hts, hK', hA, rfl, hz, rfl, rfl⟩ H1 locs1 ls hP' hD' hS' hl)
theorem g_callS (hk : GC κ l0 D0 zt cc nL own Ts tys rm) (hM : GM l0 D0 zt tysC y wsy rmy As w P mc ms) (hs : SP ws w wr) (hty : ∀ q ∈ tysC, q ∈ tys)
    (hG : GoodIn Ts (va_wsS own idx y wsy)) (hw : wsy = Cond.code y bytes maxL ret :: wsy') (hrc : rmy.cells = mc) (hrs : rmy.slots = ms) (hdd : y.cls ≠ "java/lang/invoke/MethodHandle" ∧ y.cls ≠ "java/lang/invoke/VarHandle" ∧ (parseMethodDescriptor y.desc).map (fun d => d.parameters.length) = some n) (hRm : rmy.frames + 1 ≤ rm.frames ∧ 8 + (maxL + 11) + rmy.locals ≤ rm.locals)
    (hn : As.length = n) (hst : st = As.reverse ++ rest) (hcat : (rest.map fun v => v.category).sum ≤ 8) (hf : n1 + mc ≤ rm.cells ∧ n2 + ms ≤ rm.slots) (hd : decode cc pc = .ok (.invokestatic idx, 3))
    (kk : ∀ (v : Option Value) (tys' : Tys) (w' : va_W), P v tys' w' → GC κ l0 D0 zt cc nL own Ts (tys ++ tys') rm → GW κ nL (n1 + mc) (n2 + ms) (wr ++ w') (pc + 3) lv (v.toList ++ rest)) : GW κ nL n1 n2 ws pc lv st := by
  obtain ⟨p, l, e, R, s, m, args, below, meth, c, D, A, Q⟩ := κ
  obtain ⟨hx, hb, hml, hown, hts, hK, hA, rfl, hz, rfl, rfl⟩ := hk
  subst hst
  intro H locs ls hP hD hS hl
  have hF := hs.Fp hD hS hA
  have hKc := tysub hK hty
  exact g_behind (tys := tys) (va_runS (As := As) (rest := rest) ⟨hx, hb, hml, hown, hts⟩ (hM H.size) (va_cwS n hts hG hw hrc hrs hdd hRm) ⟨GP.blind, g_pre (hs.Pp hP) hKc (hs.Dp hD) hz hS hF⟩ rfl hn hl.1 rfl (lv_room hcat) hd hf) hs hP hD hS hF hK
    (fun v tys' w' hp hK' H1 locs1 hP' hD' hS' => kk v tys' w' hp ⟨hx, hb, hml, hown, hts, hK', hA, rfl, hz, rfl, rfl⟩ H1 locs1 ls hP' hD' hS' hl)
theorem g_callI (hk : GC κ l0 D0 zt cc nL own Ts tys rm) (hM : GM l0 D0 zt tysC y wsy rmy (.ref b :: As) w P mc ms) (hs : SP ws w wr) (hty : ∀ q ∈ tysC, q ∈ tys)
    (hG : GoodIn Ts wsy) (hw : wsy = Cond.code y bytes maxL none :: wsy') (hrc : rmy.cells = mc) (hrs : rmy.slots = ms) (h1 : Cond.initialized y.cls ∈ Ts) (h2 : Cond.methodLink own idx y ∈ Ts) (h3 : Cond.instanceMethod y ∈ Ts) (hy1 : y.name = "<init>") (hdd : y.cls ≠ "java/lang/invoke/MethodHandle" ∧ y.cls ≠ "java/lang/invoke/VarHandle" ∧ (parseMethodDescriptor y.desc).map (fun d => d.parameters.length) = some n) (hRm : rmy.frames + 1 ≤ rm.frames ∧ 8 + (maxL + 11) + rmy.locals ≤ rm.locals)
    (hn : As.length = n) (hst : st = As.reverse ++ .ref b :: rest) (hcat : (rest.map fun v => v.category).sum ≤ 8) (hf : n1 + mc ≤ rm.cells ∧ n2 + ms ≤ rm.slots) (hd : decode cc pc = .ok (.invokespecial idx, 3))
    (kk : ∀ (v : Option Value) (tys' : Tys) (w' : va_W), P v tys' w' → GC κ l0 D0 zt cc nL own Ts (tys ++ tys') rm → GW κ nL (n1 + mc) (n2 + ms) (wr ++ w') (pc + 3) lv (v.toList ++ rest)) : GW κ nL n1 n2 ws pc lv st := by
  obtain ⟨p, l, e, R, s, m, args, below, meth, c, D, A, Q⟩ := κ
  obtain ⟨hx, hb, hml, hown, hts, hK, hA, rfl, hz, rfl, rfl⟩ := hk
  subst hst
  intro H locs ls hP hD hS hl
  have hF := hs.Fp hD hS hA
  have hKc := tysub hK hty
  exact g_behind (tys := tys) (va_runI (As := As) (rest := rest) ⟨hx, hb, hml, hown, hts⟩ (hM H.size) (cwI n hts hG hw hrc hrs (hts _ h1) (hts _ h2) (hts _ h3) hy1 hdd hRm) ⟨GP.blind, g_pre (hs.Pp hP) hKc (hs.Dp hD) hz hS hF⟩ rfl hn hl.1 rfl (lv_room hcat) hd hf) hs hP hD hS hF hK
    (fun v tys' w' hp hK' H1 locs1 hP' hD' hS' => kk v tys' w' hp ⟨hx, hb, hml, hown, hts, hK', hA, rfl, hz, rfl, rfl⟩ H1 locs1 ls hP' hD' hS' hl)
/-- a nest mate's private constructor: its link is one of NS -/
theorem g_callN (hk : GC κ l0 D0 zt cc nL own Ts tys rm) (hM : GM l0 D0 zt tysC y wsy rmy (.ref b :: As) w P mc ms) (hs : SP ws w wr) (hty : ∀ q ∈ tysC, q ∈ tys)
    (hG : GoodIn Ts wsy) (hw : wsy = Cond.code y bytes maxL none :: wsy') (hrc : rmy.cells = mc) (hrs : rmy.slots = ms) (h1 : Cond.initialized y.cls ∈ Ts) (h2 : ∀ U, NS zt.2.2.2.1 U → va_Nw (.methodLinkNest own idx y "WarpDesk") U) (h3 : Cond.instanceMethod y ∈ Ts) (hy1 : y.name = "<init>") (hdd : y.cls ≠ "java/lang/invoke/MethodHandle" ∧ y.cls ≠ "java/lang/invoke/VarHandle" ∧ (parseMethodDescriptor y.desc).map (fun d => d.parameters.length) = some n) (hRm : rmy.frames + 1 ≤ rm.frames ∧ 8 + (maxL + 11) + rmy.locals ≤ rm.locals)
    (hn : As.length = n) (hst : st = As.reverse ++ .ref b :: rest) (hcat : (rest.map fun v => v.category).sum ≤ 8) (hf : n1 + mc ≤ rm.cells ∧ n2 + ms ≤ rm.slots) (hd : decode cc pc = .ok (.invokespecial idx, 3))
    (kk : ∀ (v : Option Value) (tys' : Tys) (w' : va_W), P v tys' w' → GC κ l0 D0 zt cc nL own Ts (tys ++ tys') rm → GW κ nL (n1 + mc) (n2 + ms) (wr ++ w') (pc + 3) lv (v.toList ++ rest)) : GW κ nL n1 n2 ws pc lv st := by
  obtain ⟨p, l, e, R, s, m, args, below, meth, c, D, A, Q⟩ := κ
  obtain ⟨hx, hb, hml, hown, hts, hK, hA, rfl, hz, rfl, rfl⟩ := hk
  subst hst
  intro H locs ls hP hD hS hl
  have hF := hs.Fp hD hS hA
  have hKc := tysub hK hty
  exact g_behind (tys := tys) (va_runIN (As := As) (rest := rest) ⟨hx, hb, hml, hown, hts⟩ (hM H.size) ⟨va_cnB n hts hG hw hrc hrs (h2 s hz.2.2.2.2) (hts _ h1) hdd hRm, hy1, hts _ h3⟩ ⟨GP.blind, g_pre (hs.Pp hP) hKc (hs.Dp hD) hz hS hF⟩ rfl hn hl.1 rfl (lv_room hcat) hd hf) hs hP hD hS hF hK
    (fun v tys' w' hp hK' H1 locs1 hP' hD' hS' => kk v tys' w' hp ⟨hx, hb, hml, hown, hts, hK', hA, rfl, hz, rfl, rfl⟩ H1 locs1 ls hP' hD' hS' hl)
end GK
end
