theorem len_lt {args : Array Value} {s : State} {t : Term} {v : Value} {a : Addr} {cell : Cell} (hv : (Term.length t).eval args s none [] s = some v) (ht : t.eval args s none [] s = some (.ref a)) (harr : s.arrayAt? a = some cell) : cell.slots.size < 2147483648 := by
  simp only [Term.eval, ht, harr, Option.bind_eq_bind, Option.bind_some] at hv
  by_cases hlt : cell.slots.size < 2147483648
  · exact hlt
  · simp [hlt] at hv
/-! THE CLAIM OUT OF ONE WALK OF THE LAW'S BODY. Your part is whole_start (and what it stands on); all else here is the same for every law, but numbers. -/
def R_law : String := "WarpDeskLaw"
def lw_P (b : Addr) (xs : List Int32) (args : Array Value) (s : State) : Prop := args = #[.ref b] ∧ s.IntsAt b xs ∧ xs.length ≤ 3072 ∧ (Jvm.Cond.and given_1 narrow_1).before args s = true
def lw_Q (_ : Array Value) (s : State) (o : Outcome) (t : State) : Prop := o = .returned (some (.int 1)) ∧ Framed s o t [] 600000 7302249
def lw_Z (below : List Frame) (a : Array Value) (s : State) : State → Prop := fun t => ∃ o, t.status = .running ∧ Ended t below o ∧ lw_Q a s o t
/-- the law's own end, with 1 on the stack, nothing written that was there before, its room as the claim has it -/
theorem lw_ret {p : Program} {l : Launch} {e : Env} {s : State} {m : MethodId} {below : List Frame} {meth : Method} {c : Code} {b : Nat} (hx : p.tables.exec = Jvm.exec) (hb : c.code = code) (hr : meth.sig.returnType = ret) (hlocks : meth.locks = false) {pc : Nat} {H : Heap} {ls : Array Slot} (hdg : decode code pc = .ok (.ireturn, 1)) : W p l e room_1 s m #[Value.ref b] below meth c H [] 600000 7302249 (lw_Z below #[Value.ref b] s) (F0 m pc ls [.int 1]) := by
  intro T hT X
  obtain ⟨fs, hret, hrun, hended, hW, hframe⟩ := X.leave (v := some (.int 1)) (hlocks := hlocks) (fun h => by rw [hr] at h; cases h)
  have hmeth' : T.vm.method? m = some meth := X.method'
  refine ⟨T.setFrames fs, ?_, .returned (some (.int 1)), hrun, hended, rfl, ⟨_, rfl⟩, hW, hframe⟩
  jvm_step X.here [X.here.top, hx, hb, hdg, hmeth', hr, ret, narrow_b1]
  (try refine ⟨rfl, ?_⟩); (try refine ⟨rfl, ?_⟩)
  first | (intro acts; rw [hret _ acts rfl rfl rfl]) | rw [hret _ _ rfl rfl rfl]
  exact Steps.refl _
/-- what holds at the law's entry: the machine, the code, the tables' words (any of lw_tbl by 'hts w (by decide +kernel)'), the script of L ints xs at the cell b, what the Statement gives of the start (any of its parts by flat_of_before) -/
def lw_At (p : Program) (s : State) (m : MethodId) (meth : Method) (c : Code) (b L : Nat) (xs : Nat → Int32) : Prop :=
  p.tables.exec = Jvm.exec ∧ c.code = code ∧ meth.sig.returnType = ret ∧ c.maxLocals = 4 ∧ s.vm.findClass R_law = some m.cls ∧ (∀ w ∈ lw_tbl, w.before #[Value.ref b] s = true) ∧ va_X b L xs s s.heap ∧ b < s.heap.size ∧ meth.locks = false ∧ (Jvm.Cond.and given_1 narrow_1).before #[Value.ref b] s = true
-- ===== YOUR PART BEGINS =====
set_option maxHeartbeats 4000000 in
set_option maxRecDepth 100000 in
/-- YOUR PART: from the entry, for every script of at most 3072 ints, the law comes to its end with true ('hflags': the launch's flags, for a law that throws: no stack traces) -/
theorem whole_start {p : Program} {e : Env} {s : State} {m : MethodId} {below : List Frame} {meth : Method} {c : Code} (l : Launch) (hflags : l.flags = flags0) {b L : Nat} {xs : Nat → Int32} (hL : L ≤ 3072) (C0 : lw_At p s m meth c b L xs) : W p l e room_1 s m #[Value.ref b] below meth c s.heap [] 0 0 (lw_Z below #[Value.ref b] s) (entryFrame m ([Value.ref b] : List Value).toArray 4) := by
  obtain ⟨hx, hb, hr, hml, hown, hts, hX, hbl, hlocks, hgv⟩ := id C0
  have hA' : ∀ a : Nat, a < s.heap.size → ¬ (fun q : Nat => s.heap.size ≤ q) a := fun a h => Nat.not_le.mpr h
  have hs := flat_of_before _ hgv
  obtain ⟨c0, iS0, hKn0⟩ := u_known (C := RX0) (T := TX0) (N := 5) (n := 5) hts inX0 (hts (.instantiable RX0 5) (by decide +kernel))
  obtain ⟨c1, iS1, hKn1⟩ := u_known (C := RX1) (T := TX1) (N := 11) (n := 11) hts inX1 (hts (.instantiable RX1 11) (by decide +kernel))
  obtain ⟨c2, iS2, hKn2⟩ := u_known (C := RX2) (T := TX2) (N := 10) (n := 10) hts inX2 (hts (.instantiable RX2 10) (by decide +kernel))
  obtain ⟨c3, iS3, hKn3⟩ := u_known (C := RX3) (T := TX3) (N := 5) (n := 5) hts inX3 (hts (.instantiable RX3 5) (by decide +kernel))
  obtain ⟨c4, iS4, hKn4⟩ := u_known (C := RX4) (T := TX4) (N := 3) (n := 3) hts inX4 (hts (.instantiable RX4 3) (by decide +kernel))
  obtain ⟨c5, iS5, hKn5⟩ := u_known (C := RX5) (T := TX5) (N := 13) (n := 13) hts inX5 (hts (.instantiable RX5 13) (by decide +kernel))
  obtain ⟨c6, iS6, hKn6⟩ := u_known (C := RX6) (T := TX6) (N := 3) (n := 3) hts inX6 (hts (.instantiable RX6 3) (by decide +kernel))
  obtain ⟨c7, iS7, hKn7⟩ := u_known (C := RX7) (T := TX7) (N := 1) (n := 1) hts inX7 (hts (.instantiable RX7 1) (by decide +kernel))
  obtain ⟨c8, iS8, hKn8⟩ := u_known (C := RX8) (T := TX8) (N := 4) (n := 4) hts inX8 (hts (.instantiable RX8 4) (by decide +kernel))
  obtain ⟨c9, iS9, hKn9⟩ := u_known (C := RX9) (T := TX9) (N := 11) (n := 11) hts inX9 (hts (.instantiable RX9 11) (by decide +kernel))
  obtain ⟨c10, iS10, hKn10⟩ := u_known (C := RX10) (T := TX10) (N := 7) (n := 7) hts inX10 (hts (.instantiable RX10 7) (by decide +kernel))
  obtain ⟨c11, iS11, hKn11⟩ := u_known (C := RX11) (T := TX11) (N := 10) (n := 10) hts inX11 (hts (.instantiable RX11 10) (by decide +kernel))
  obtain ⟨c12, iS12, hKn12⟩ := u_known (C := RX12) (T := TX12) (N := 55) (n := 55) hts inX12 (hts (.instantiable RX12 55) (by decide +kernel))
  obtain ⟨dC, dI, hKc⟩ : ∃ (dC : Nat → ClassId) (dI : Nat → Nat → Nat), ∀ (k : Nat) (q : vw_C), vwCl[k]? = some q → u_Kn s q.1 q.2.1 q.2.2 (dC k) (dI k) := by
    refine ⟨fun k => ([c0, c1, c2, c3, c4, c5, c6, c7, c8, c9, c10, c11, c12] : List ClassId).getD k c0, fun k => ([iS0, iS1, iS2, iS3, iS4, iS5, iS6, iS7, iS8, iS9, iS10, iS11, iS12] : List (Nat → Nat)).getD k iS0, ?_⟩
    intro k q hq
    match k, hq with
    | 0, hq => cases hq; exact hKn0
    | 1, hq => cases hq; exact hKn1
    | 2, hq => cases hq; exact hKn2
    | 3, hq => cases hq; exact hKn3
    | 4, hq => cases hq; exact hKn4
    | 5, hq => cases hq; exact hKn5
    | 6, hq => cases hq; exact hKn6
    | 7, hq => cases hq; exact hKn7
    | 8, hq => cases hq; exact hKn8
    | 9, hq => cases hq; exact hKn9
    | 10, hq => cases hq; exact hKn10
    | 11, hq => cases hq; exact hKn11
    | 12, hq => cases hq; exact hKn12
    | k + 13, hq => simp [vwCl] at hq
  obtain ⟨t0, ht0, hTt0⟩ := va_Tof (args := #[Value.ref b]) (s := s) (tm := .static "WarpDesk$Settings" "LOWEST" "[I") (ty := .int) (N := 4) (f := zLow) (A := fun q : Nat => s.heap.size ≤ q) (by decide) (hs _ (by decide +kernel)) (va_eqt (z := 4) (hs _ (by decide +kernel))) (fun j hj => by
    rcases (show j = 0 ∨ j = 1 ∨ j = 2 ∨ j = 3 by omega) with rfl | rfl | rfl | rfl
    · exact va_eqt (z := 0) (hs (.eq (.elem (.static "WarpDesk$Settings" "LOWEST" "[I") (.int 0)) (.int 0)) (by decide +kernel))
    · exact va_eqt (z := 0) (hs (.eq (.elem (.static "WarpDesk$Settings" "LOWEST" "[I") (.int 1)) (.int 0)) (by decide +kernel))
    · exact va_eqt (z := 0) (hs (.eq (.elem (.static "WarpDesk$Settings" "LOWEST" "[I") (.int 2)) (.int 0)) (by decide +kernel))
    · exact va_eqt (z := 1) (hs (.eq (.elem (.static "WarpDesk$Settings" "LOWEST" "[I") (.int 3)) (.int 1)) (by decide +kernel))) hA'
  have hZt0 : va_Z "WarpDesk$Settings" "LOWEST" "[I" (.ref t0) (fun q : Nat => s.heap.size ≤ q) s s.heap := va_Zof (hts (.laysStatic "WarpDesk$Settings" "LOWEST" "[I") (by decide +kernel)) (hts (.initialized "WarpDesk$Settings") (by decide +kernel)) ht0 hA'
  obtain ⟨t1, ht1, hTt1⟩ := va_Tof (args := #[Value.ref b]) (s := s) (tm := .static "WarpDesk$Settings" "HIGHEST" "[I") (ty := .int) (N := 4) (f := zHigh) (A := fun q : Nat => s.heap.size ≤ q) (by decide) (hs _ (by decide +kernel)) (va_eqt (z := 4) (hs _ (by decide +kernel))) (fun j hj => by
    rcases (show j = 0 ∨ j = 1 ∨ j = 2 ∨ j = 3 by omega) with rfl | rfl | rfl | rfl
    · exact va_eqt (z := 15) (hs (.eq (.elem (.static "WarpDesk$Settings" "HIGHEST" "[I") (.int 0)) (.int 15)) (by decide +kernel))
    · exact va_eqt (z := 3) (hs (.eq (.elem (.static "WarpDesk$Settings" "HIGHEST" "[I") (.int 1)) (.int 3)) (by decide +kernel))
    · exact va_eqt (z := 1) (hs (.eq (.elem (.static "WarpDesk$Settings" "HIGHEST" "[I") (.int 2)) (.int 1)) (by decide +kernel))
    · exact va_eqt (z := 99) (hs (.eq (.elem (.static "WarpDesk$Settings" "HIGHEST" "[I") (.int 3)) (.int 99)) (by decide +kernel))) hA'
  have hZt1 : va_Z "WarpDesk$Settings" "HIGHEST" "[I" (.ref t1) (fun q : Nat => s.heap.size ≤ q) s s.heap := va_Zof (hts (.laysStatic "WarpDesk$Settings" "HIGHEST" "[I") (by decide +kernel)) (hts (.initialized "WarpDesk$Settings") (by decide +kernel)) ht1 hA'
  obtain ⟨t2, ht2, hTt2⟩ := va_Tof (args := #[Value.ref b]) (s := s) (tm := .static "WarpDesk$Settings" "UNTOLD" "[I") (ty := .int) (N := 4) (f := zUn) (A := fun q : Nat => s.heap.size ≤ q) (by decide) (hs _ (by decide +kernel)) (va_eqt (z := 4) (hs _ (by decide +kernel))) (fun j hj => by
    rcases (show j = 0 ∨ j = 1 ∨ j = 2 ∨ j = 3 by omega) with rfl | rfl | rfl | rfl
    · exact va_eqt (z := 2) (hs (.eq (.elem (.static "WarpDesk$Settings" "UNTOLD" "[I") (.int 0)) (.int 2)) (by decide +kernel))
    · exact va_eqt (z := 0) (hs (.eq (.elem (.static "WarpDesk$Settings" "UNTOLD" "[I") (.int 1)) (.int 0)) (by decide +kernel))
    · exact va_eqt (z := 0) (hs (.eq (.elem (.static "WarpDesk$Settings" "UNTOLD" "[I") (.int 2)) (.int 0)) (by decide +kernel))
    · exact va_eqt (z := 8) (hs (.eq (.elem (.static "WarpDesk$Settings" "UNTOLD" "[I") (.int 3)) (.int 8)) (by decide +kernel))) hA'
  have hZt2 : va_Z "WarpDesk$Settings" "UNTOLD" "[I" (.ref t2) (fun q : Nat => s.heap.size ≤ q) s s.heap := va_Zof (hts (.laysStatic "WarpDesk$Settings" "UNTOLD" "[I") (by decide +kernel)) (hts (.initialized "WarpDesk$Settings") (by decide +kernel)) ht2 hA'
  have hZU : ZU t2 (fun q : Nat => s.heap.size ≤ q) s s.heap := by
    obtain ⟨cell, h1, h2, h3, h4, h5, h6, h7⟩ := hTt2
    obtain ⟨a9, c9, cell9, k9, g1, g2, g3, g4, g5, g6, -⟩ := Cond.exactly_spec (hs (.exactly (.static "WarpDesk$Settings" "UNTOLD" "[I") "[I") (by decide +kernel))
    cases ht2.symm.trans g1
    cases h1.symm.trans g3
    have hlen := va_eqt (z := 4) (hs (.eq (.length (.static "WarpDesk$Settings" "UNTOLD" "[I")) (.int 4)) (by decide +kernel))
    obtain ⟨b9, cell8, ht9, harr9, hv9⟩ := Term.length_spec hlen
    cases ht2.symm.trans ht9
    cases h1.symm.trans (State.arrayAt?_spec harr9).1
    have hlt : cell.slots.size < 2147483648 := len_lt hlen ht9 harr9
    have hsz : cell.slots.size = 4 := by
      have e := congrArg Int32.toInt (Value.int.inj hv9)
      have e2 : (nI cell.slots.size).toInt = (cell.slots.size : Int) := nI_toInt hlt
      have e3 : (4 : Int32).toInt = 4 := rfl
      have e4 : (4 : Int32).toInt = (nI cell.slots.size).toInt := e
      omega
    refine ⟨cell, h1, by rw [g2, g6], fun n z => ⟨fun k h => (by cases h), h2.2⟩, h2.1, h3, ?_, h7⟩
    apply Array.ext_getElem?
    intro i
    by_cases hi : i < 4
    · rw [h6 i hi, arrV_read _ _ hi]
      rcases (show i = 0 ∨ i = 1 ∨ i = 2 ∨ i = 3 by omega) with rfl | rfl | rfl | rfl <;> rfl
    · rw [Array.getElem?_eq_none (by rw [hsz]; omega), Array.getElem?_eq_none (by rw [arrV_size]; omega)]
  have sEx : ∀ i : Nat, i < 13 → (Cond.exactly (.string RX5 (kSt.getD i (0, "")).1) "java/lang/String").before #[Value.ref b] s = true := by
    intro i hi
    match i, hi with
    | 0, _ => exact hs (.exactly (.string "WarpDesk$Reader" 106) "java/lang/String") (by decide +kernel)
    | 1, _ => exact hs (.exactly (.string "WarpDesk$Reader" 153) "java/lang/String") (by decide +kernel)
    | 2, _ => exact hs (.exactly (.string "WarpDesk$Reader" 155) "java/lang/String") (by decide +kernel)
    | 3, _ => exact hs (.exactly (.string "WarpDesk$Reader" 157) "java/lang/String") (by decide +kernel)
    | 4, _ => exact hs (.exactly (.string "WarpDesk$Reader" 159) "java/lang/String") (by decide +kernel)
    | 5, _ => exact hs (.exactly (.string "WarpDesk$Reader" 161) "java/lang/String") (by decide +kernel)
    | 6, _ => exact hs (.exactly (.string "WarpDesk$Reader" 163) "java/lang/String") (by decide +kernel)
    | 7, _ => exact hs (.exactly (.string "WarpDesk$Reader" 165) "java/lang/String") (by decide +kernel)
    | 8, _ => exact hs (.exactly (.string "WarpDesk$Reader" 167) "java/lang/String") (by decide +kernel)
    | 9, _ => exact hs (.exactly (.string "WarpDesk$Reader" 169) "java/lang/String") (by decide +kernel)
    | 10, _ => exact hs (.exactly (.string "WarpDesk$Reader" 171) "java/lang/String") (by decide +kernel)
    | 11, _ => exact hs (.exactly (.string "WarpDesk$Reader" 173) "java/lang/String") (by decide +kernel)
    | 12, _ => exact hs (.exactly (.string "WarpDesk$Reader" 175) "java/lang/String") (by decide +kernel)
    | i + 13, hi => exact absurd hi (by omega)
  have sCo : ∀ i : Nat, i < 13 → (Cond.eq (.field (.string RX5 (kSt.getD i (0, "")).1) "java/lang/String" "coder" "B") (.int 0)).before #[Value.ref b] s = true := by
    intro i hi
    match i, hi with
    | 0, _ => exact hs (.eq (.field (.string "WarpDesk$Reader" 106) "java/lang/String" "coder" "B") (.int 0)) (by decide +kernel)
    | 1, _ => exact hs (.eq (.field (.string "WarpDesk$Reader" 153) "java/lang/String" "coder" "B") (.int 0)) (by decide +kernel)
    | 2, _ => exact hs (.eq (.field (.string "WarpDesk$Reader" 155) "java/lang/String" "coder" "B") (.int 0)) (by decide +kernel)
    | 3, _ => exact hs (.eq (.field (.string "WarpDesk$Reader" 157) "java/lang/String" "coder" "B") (.int 0)) (by decide +kernel)
    | 4, _ => exact hs (.eq (.field (.string "WarpDesk$Reader" 159) "java/lang/String" "coder" "B") (.int 0)) (by decide +kernel)
    | 5, _ => exact hs (.eq (.field (.string "WarpDesk$Reader" 161) "java/lang/String" "coder" "B") (.int 0)) (by decide +kernel)
    | 6, _ => exact hs (.eq (.field (.string "WarpDesk$Reader" 163) "java/lang/String" "coder" "B") (.int 0)) (by decide +kernel)
    | 7, _ => exact hs (.eq (.field (.string "WarpDesk$Reader" 165) "java/lang/String" "coder" "B") (.int 0)) (by decide +kernel)
    | 8, _ => exact hs (.eq (.field (.string "WarpDesk$Reader" 167) "java/lang/String" "coder" "B") (.int 0)) (by decide +kernel)
    | 9, _ => exact hs (.eq (.field (.string "WarpDesk$Reader" 169) "java/lang/String" "coder" "B") (.int 0)) (by decide +kernel)
    | 10, _ => exact hs (.eq (.field (.string "WarpDesk$Reader" 171) "java/lang/String" "coder" "B") (.int 0)) (by decide +kernel)
    | 11, _ => exact hs (.eq (.field (.string "WarpDesk$Reader" 173) "java/lang/String" "coder" "B") (.int 0)) (by decide +kernel)
    | 12, _ => exact hs (.eq (.field (.string "WarpDesk$Reader" 175) "java/lang/String" "coder" "B") (.int 0)) (by decide +kernel)
    | i + 13, hi => exact absurd hi (by omega)
  have sAr : ∀ i : Nat, i < 13 → (Cond.arrayOf (.field (.string RX5 (kSt.getD i (0, "")).1) "java/lang/String" "value" "[B") .byte).before #[Value.ref b] s = true := by
    intro i hi
    match i, hi with
    | 0, _ => exact hs (.arrayOf (.field (.string "WarpDesk$Reader" 106) "java/lang/String" "value" "[B") .byte) (by decide +kernel)
    | 1, _ => exact hs (.arrayOf (.field (.string "WarpDesk$Reader" 153) "java/lang/String" "value" "[B") .byte) (by decide +kernel)
    | 2, _ => exact hs (.arrayOf (.field (.string "WarpDesk$Reader" 155) "java/lang/String" "value" "[B") .byte) (by decide +kernel)
    | 3, _ => exact hs (.arrayOf (.field (.string "WarpDesk$Reader" 157) "java/lang/String" "value" "[B") .byte) (by decide +kernel)
    | 4, _ => exact hs (.arrayOf (.field (.string "WarpDesk$Reader" 159) "java/lang/String" "value" "[B") .byte) (by decide +kernel)
    | 5, _ => exact hs (.arrayOf (.field (.string "WarpDesk$Reader" 161) "java/lang/String" "value" "[B") .byte) (by decide +kernel)
    | 6, _ => exact hs (.arrayOf (.field (.string "WarpDesk$Reader" 163) "java/lang/String" "value" "[B") .byte) (by decide +kernel)
    | 7, _ => exact hs (.arrayOf (.field (.string "WarpDesk$Reader" 165) "java/lang/String" "value" "[B") .byte) (by decide +kernel)
    | 8, _ => exact hs (.arrayOf (.field (.string "WarpDesk$Reader" 167) "java/lang/String" "value" "[B") .byte) (by decide +kernel)
    | 9, _ => exact hs (.arrayOf (.field (.string "WarpDesk$Reader" 169) "java/lang/String" "value" "[B") .byte) (by decide +kernel)
    | 10, _ => exact hs (.arrayOf (.field (.string "WarpDesk$Reader" 171) "java/lang/String" "value" "[B") .byte) (by decide +kernel)
    | 11, _ => exact hs (.arrayOf (.field (.string "WarpDesk$Reader" 173) "java/lang/String" "value" "[B") .byte) (by decide +kernel)
    | 12, _ => exact hs (.arrayOf (.field (.string "WarpDesk$Reader" 175) "java/lang/String" "value" "[B") .byte) (by decide +kernel)
    | i + 13, hi => exact absurd hi (by omega)
  have sLe : ∀ i : Nat, i < 13 → (Cond.eq (.length (.field (.string RX5 (kSt.getD i (0, "")).1) "java/lang/String" "value" "[B")) (.int (Int32.ofNat (lenS.getD i 0)))).before #[Value.ref b] s = true := by
    intro i hi
    match i, hi with
    | 0, _ => exact hs (.eq (.length (.field (.string "WarpDesk$Reader" 106) "java/lang/String" "value" "[B")) (.int 3)) (by decide +kernel)
    | 1, _ => exact hs (.eq (.length (.field (.string "WarpDesk$Reader" 153) "java/lang/String" "value" "[B")) (.int 6)) (by decide +kernel)
    | 2, _ => exact hs (.eq (.length (.field (.string "WarpDesk$Reader" 155) "java/lang/String" "value" "[B")) (.int 5)) (by decide +kernel)
    | 3, _ => exact hs (.eq (.length (.field (.string "WarpDesk$Reader" 157) "java/lang/String" "value" "[B")) (.int 4)) (by decide +kernel)
    | 4, _ => exact hs (.eq (.length (.field (.string "WarpDesk$Reader" 159) "java/lang/String" "value" "[B")) (.int 5)) (by decide +kernel)
    | 5, _ => exact hs (.eq (.length (.field (.string "WarpDesk$Reader" 161) "java/lang/String" "value" "[B")) (.int 4)) (by decide +kernel)
    | 6, _ => exact hs (.eq (.length (.field (.string "WarpDesk$Reader" 163) "java/lang/String" "value" "[B")) (.int 5)) (by decide +kernel)
    | 7, _ => exact hs (.eq (.length (.field (.string "WarpDesk$Reader" 165) "java/lang/String" "value" "[B")) (.int 4)) (by decide +kernel)
    | 8, _ => exact hs (.eq (.length (.field (.string "WarpDesk$Reader" 167) "java/lang/String" "value" "[B")) (.int 4)) (by decide +kernel)
    | 9, _ => exact hs (.eq (.length (.field (.string "WarpDesk$Reader" 169) "java/lang/String" "value" "[B")) (.int 5)) (by decide +kernel)
    | 10, _ => exact hs (.eq (.length (.field (.string "WarpDesk$Reader" 171) "java/lang/String" "value" "[B")) (.int 5)) (by decide +kernel)
    | 11, _ => exact hs (.eq (.length (.field (.string "WarpDesk$Reader" 173) "java/lang/String" "value" "[B")) (.int 5)) (by decide +kernel)
    | 12, _ => exact hs (.eq (.length (.field (.string "WarpDesk$Reader" 175) "java/lang/String" "value" "[B")) (.int 6)) (by decide +kernel)
    | i + 13, hi => exact absurd hi (by omega)
  have sEl : ∀ i : Nat, i < 13 → ∀ j : Nat, j < lenS.getD i 0 → (Cond.eq (.elem (.field (.string RX5 (kSt.getD i (0, "")).1) "java/lang/String" "value" "[B") (.int (Int32.ofNat j))) (.int ((bytS.getD i []).getD j 0))).before #[Value.ref b] s = true := by
    intro i hi
    match i, hi with
    | 0, _ =>
      intro j hj
      match j, hj with
      | 0, _ => exact hs (.eq (.elem (.field (.string "WarpDesk$Reader" 106) "java/lang/String" "value" "[B") (.int 0)) (.int 103)) (by decide +kernel)
      | 1, _ => exact hs (.eq (.elem (.field (.string "WarpDesk$Reader" 106) "java/lang/String" "value" "[B") (.int 1)) (.int 97)) (by decide +kernel)
      | 2, _ => exact hs (.eq (.elem (.field (.string "WarpDesk$Reader" 106) "java/lang/String" "value" "[B") (.int 2)) (.int 112)) (by decide +kernel)
      | j + 3, hj => exact absurd hj (by show ¬ j + 3 < 3; omega)
    | 1, _ =>
      intro j hj
      match j, hj with
      | 0, _ => exact hs (.eq (.elem (.field (.string "WarpDesk$Reader" 153) "java/lang/String" "value" "[B") (.int 0)) (.int 115)) (by decide +kernel)
      | 1, _ => exact hs (.eq (.elem (.field (.string "WarpDesk$Reader" 153) "java/lang/String" "value" "[B") (.int 1)) (.int 101)) (by decide +kernel)
      | 2, _ => exact hs (.eq (.elem (.field (.string "WarpDesk$Reader" 153) "java/lang/String" "value" "[B") (.int 2)) (.int 114)) (by decide +kernel)
      | 3, _ => exact hs (.eq (.elem (.field (.string "WarpDesk$Reader" 153) "java/lang/String" "value" "[B") (.int 3)) (.int 105)) (by decide +kernel)
      | 4, _ => exact hs (.eq (.elem (.field (.string "WarpDesk$Reader" 153) "java/lang/String" "value" "[B") (.int 4)) (.int 101)) (by decide +kernel)
      | 5, _ => exact hs (.eq (.elem (.field (.string "WarpDesk$Reader" 153) "java/lang/String" "value" "[B") (.int 5)) (.int 115)) (by decide +kernel)
      | j + 6, hj => exact absurd hj (by show ¬ j + 6 < 6; omega)
    | 2, _ =>
      intro j hj
      match j, hj with
      | 0, _ => exact hs (.eq (.elem (.field (.string "WarpDesk$Reader" 155) "java/lang/String" "value" "[B") (.int 0)) (.int 113)) (by decide +kernel)
      | 1, _ => exact hs (.eq (.elem (.field (.string "WarpDesk$Reader" 155) "java/lang/String" "value" "[B") (.int 1)) (.int 117)) (by decide +kernel)
      | 2, _ => exact hs (.eq (.elem (.field (.string "WarpDesk$Reader" 155) "java/lang/String" "value" "[B") (.int 2)) (.int 101)) (by decide +kernel)
      | 3, _ => exact hs (.eq (.elem (.field (.string "WarpDesk$Reader" 155) "java/lang/String" "value" "[B") (.int 3)) (.int 114)) (by decide +kernel)
      | 4, _ => exact hs (.eq (.elem (.field (.string "WarpDesk$Reader" 155) "java/lang/String" "value" "[B") (.int 4)) (.int 121)) (by decide +kernel)
      | j + 5, hj => exact absurd hj (by show ¬ j + 5 < 5; omega)
    | 3, _ =>
      intro j hj
      match j, hj with
      | 0, _ => exact hs (.eq (.elem (.field (.string "WarpDesk$Reader" 157) "java/lang/String" "value" "[B") (.int 0)) (.int 98)) (by decide +kernel)
      | 1, _ => exact hs (.eq (.elem (.field (.string "WarpDesk$Reader" 157) "java/lang/String" "value" "[B") (.int 1)) (.int 97)) (by decide +kernel)
      | 2, _ => exact hs (.eq (.elem (.field (.string "WarpDesk$Reader" 157) "java/lang/String" "value" "[B") (.int 2)) (.int 110)) (by decide +kernel)
      | 3, _ => exact hs (.eq (.elem (.field (.string "WarpDesk$Reader" 157) "java/lang/String" "value" "[B") (.int 3)) (.int 100)) (by decide +kernel)
      | j + 4, hj => exact absurd hj (by show ¬ j + 4 < 4; omega)
    | 4, _ =>
      intro j hj
      match j, hj with
      | 0, _ => exact hs (.eq (.elem (.field (.string "WarpDesk$Reader" 159) "java/lang/String" "value" "[B") (.int 0)) (.int 108)) (by decide +kernel)
      | 1, _ => exact hs (.eq (.elem (.field (.string "WarpDesk$Reader" 159) "java/lang/String" "value" "[B") (.int 1)) (.int 101)) (by decide +kernel)
      | 2, _ => exact hs (.eq (.elem (.field (.string "WarpDesk$Reader" 159) "java/lang/String" "value" "[B") (.int 2)) (.int 118)) (by decide +kernel)
      | 3, _ => exact hs (.eq (.elem (.field (.string "WarpDesk$Reader" 159) "java/lang/String" "value" "[B") (.int 3)) (.int 101)) (by decide +kernel)
      | 4, _ => exact hs (.eq (.elem (.field (.string "WarpDesk$Reader" 159) "java/lang/String" "value" "[B") (.int 4)) (.int 108)) (by decide +kernel)
      | j + 5, hj => exact absurd hj (by show ¬ j + 5 < 5; omega)
    | 5, _ =>
      intro j hj
      match j, hj with
      | 0, _ => exact hs (.eq (.elem (.field (.string "WarpDesk$Reader" 161) "java/lang/String" "value" "[B") (.int 0)) (.int 99)) (by decide +kernel)
      | 1, _ => exact hs (.eq (.elem (.field (.string "WarpDesk$Reader" 161) "java/lang/String" "value" "[B") (.int 1)) (.int 111)) (by decide +kernel)
      | 2, _ => exact hs (.eq (.elem (.field (.string "WarpDesk$Reader" 161) "java/lang/String" "value" "[B") (.int 2)) (.int 115)) (by decide +kernel)
      | 3, _ => exact hs (.eq (.elem (.field (.string "WarpDesk$Reader" 161) "java/lang/String" "value" "[B") (.int 3)) (.int 116)) (by decide +kernel)
      | j + 4, hj => exact absurd hj (by show ¬ j + 4 < 4; omega)
    | 6, _ =>
      intro j hj
      match j, hj with
      | 0, _ => exact hs (.eq (.elem (.field (.string "WarpDesk$Reader" 163) "java/lang/String" "value" "[B") (.int 0)) (.int 97)) (by decide +kernel)
      | 1, _ => exact hs (.eq (.elem (.field (.string "WarpDesk$Reader" 163) "java/lang/String" "value" "[B") (.int 1)) (.int 112)) (by decide +kernel)
      | 2, _ => exact hs (.eq (.elem (.field (.string "WarpDesk$Reader" 163) "java/lang/String" "value" "[B") (.int 2)) (.int 97)) (by decide +kernel)
      | 3, _ => exact hs (.eq (.elem (.field (.string "WarpDesk$Reader" 163) "java/lang/String" "value" "[B") (.int 3)) (.int 114)) (by decide +kernel)
      | 4, _ => exact hs (.eq (.elem (.field (.string "WarpDesk$Reader" 163) "java/lang/String" "value" "[B") (.int 4)) (.int 116)) (by decide +kernel)
      | j + 5, hj => exact absurd hj (by show ¬ j + 5 < 5; omega)
    | 7, _ =>
      intro j hj
      match j, hj with
      | 0, _ => exact hs (.eq (.elem (.field (.string "WarpDesk$Reader" 165) "java/lang/String" "value" "[B") (.int 0)) (.int 110)) (by decide +kernel)
      | 1, _ => exact hs (.eq (.elem (.field (.string "WarpDesk$Reader" 165) "java/lang/String" "value" "[B") (.int 1)) (.int 111)) (by decide +kernel)
      | 2, _ => exact hs (.eq (.elem (.field (.string "WarpDesk$Reader" 165) "java/lang/String" "value" "[B") (.int 2)) (.int 110)) (by decide +kernel)
      | 3, _ => exact hs (.eq (.elem (.field (.string "WarpDesk$Reader" 165) "java/lang/String" "value" "[B") (.int 3)) (.int 101)) (by decide +kernel)
      | j + 4, hj => exact absurd hj (by show ¬ j + 4 < 4; omega)
    | 8, _ =>
      intro j hj
      match j, hj with
      | 0, _ => exact hs (.eq (.elem (.field (.string "WarpDesk$Reader" 167) "java/lang/String" "value" "[B") (.int 0)) (.int 109)) (by decide +kernel)
      | 1, _ => exact hs (.eq (.elem (.field (.string "WarpDesk$Reader" 167) "java/lang/String" "value" "[B") (.int 1)) (.int 101)) (by decide +kernel)
      | 2, _ => exact hs (.eq (.elem (.field (.string "WarpDesk$Reader" 167) "java/lang/String" "value" "[B") (.int 2)) (.int 97)) (by decide +kernel)
      | 3, _ => exact hs (.eq (.elem (.field (.string "WarpDesk$Reader" 167) "java/lang/String" "value" "[B") (.int 3)) (.int 110)) (by decide +kernel)
      | j + 4, hj => exact absurd hj (by show ¬ j + 4 < 4; omega)
    | 9, _ =>
      intro j hj
      match j, hj with
      | 0, _ => exact hs (.eq (.elem (.field (.string "WarpDesk$Reader" 169) "java/lang/String" "value" "[B") (.int 0)) (.int 102)) (by decide +kernel)
      | 1, _ => exact hs (.eq (.elem (.field (.string "WarpDesk$Reader" 169) "java/lang/String" "value" "[B") (.int 1)) (.int 105)) (by decide +kernel)
      | 2, _ => exact hs (.eq (.elem (.field (.string "WarpDesk$Reader" 169) "java/lang/String" "value" "[B") (.int 2)) (.int 114)) (by decide +kernel)
      | 3, _ => exact hs (.eq (.elem (.field (.string "WarpDesk$Reader" 169) "java/lang/String" "value" "[B") (.int 3)) (.int 115)) (by decide +kernel)
      | 4, _ => exact hs (.eq (.elem (.field (.string "WarpDesk$Reader" 169) "java/lang/String" "value" "[B") (.int 4)) (.int 116)) (by decide +kernel)
      | j + 5, hj => exact absurd hj (by show ¬ j + 5 < 5; omega)
    | 10, _ =>
      intro j hj
      match j, hj with
      | 0, _ => exact hs (.eq (.elem (.field (.string "WarpDesk$Reader" 171) "java/lang/String" "value" "[B") (.int 0)) (.int 114)) (by decide +kernel)
      | 1, _ => exact hs (.eq (.elem (.field (.string "WarpDesk$Reader" 171) "java/lang/String" "value" "[B") (.int 1)) (.int 97)) (by decide +kernel)
      | 2, _ => exact hs (.eq (.elem (.field (.string "WarpDesk$Reader" 171) "java/lang/String" "value" "[B") (.int 2)) (.int 110)) (by decide +kernel)
      | 3, _ => exact hs (.eq (.elem (.field (.string "WarpDesk$Reader" 171) "java/lang/String" "value" "[B") (.int 3)) (.int 103)) (by decide +kernel)
      | 4, _ => exact hs (.eq (.elem (.field (.string "WarpDesk$Reader" 171) "java/lang/String" "value" "[B") (.int 4)) (.int 101)) (by decide +kernel)
      | j + 5, hj => exact absurd hj (by show ¬ j + 5 < 5; omega)
    | 11, _ =>
      intro j hj
      match j, hj with
      | 0, _ => exact hs (.eq (.elem (.field (.string "WarpDesk$Reader" 173) "java/lang/String" "value" "[B") (.int 0)) (.int 112)) (by decide +kernel)
      | 1, _ => exact hs (.eq (.elem (.field (.string "WarpDesk$Reader" 173) "java/lang/String" "value" "[B") (.int 1)) (.int 108)) (by decide +kernel)
      | 2, _ => exact hs (.eq (.elem (.field (.string "WarpDesk$Reader" 173) "java/lang/String" "value" "[B") (.int 2)) (.int 97)) (by decide +kernel)
      | 3, _ => exact hs (.eq (.elem (.field (.string "WarpDesk$Reader" 173) "java/lang/String" "value" "[B") (.int 3)) (.int 105)) (by decide +kernel)
      | 4, _ => exact hs (.eq (.elem (.field (.string "WarpDesk$Reader" 173) "java/lang/String" "value" "[B") (.int 4)) (.int 110)) (by decide +kernel)
      | j + 5, hj => exact absurd hj (by show ¬ j + 5 < 5; omega)
    | 12, _ =>
      intro j hj
      match j, hj with
      | 0, _ => exact hs (.eq (.elem (.field (.string "WarpDesk$Reader" 175) "java/lang/String" "value" "[B") (.int 0)) (.int 115)) (by decide +kernel)
      | 1, _ => exact hs (.eq (.elem (.field (.string "WarpDesk$Reader" 175) "java/lang/String" "value" "[B") (.int 1)) (.int 113)) (by decide +kernel)
      | 2, _ => exact hs (.eq (.elem (.field (.string "WarpDesk$Reader" 175) "java/lang/String" "value" "[B") (.int 2)) (.int 117)) (by decide +kernel)
      | 3, _ => exact hs (.eq (.elem (.field (.string "WarpDesk$Reader" 175) "java/lang/String" "value" "[B") (.int 3)) (.int 97)) (by decide +kernel)
      | 4, _ => exact hs (.eq (.elem (.field (.string "WarpDesk$Reader" 175) "java/lang/String" "value" "[B") (.int 4)) (.int 114)) (by decide +kernel)
      | 5, _ => exact hs (.eq (.elem (.field (.string "WarpDesk$Reader" 175) "java/lang/String" "value" "[B") (.int 5)) (.int 101)) (by decide +kernel)
      | j + 6, hj => exact absurd hj (by show ¬ j + 6 < 6; omega)
    | i + 13, hi => exact absurd hi (by omega)
  have sNe : ∀ i j : Nat, i < 13 → j < 13 → i ≠ j → (Cond.not (Cond.eq (.string RX5 (kSt.getD i (0, "")).1) (.string RX5 (kSt.getD j (0, "")).1))).before #[Value.ref b] s = true ∨ (Cond.not (Cond.eq (.string RX5 (kSt.getD j (0, "")).1) (.string RX5 (kSt.getD i (0, "")).1))).before #[Value.ref b] s = true := by
    intro i j hi hj hij
    match i, hi with
    | 0, _ =>
      match j, hj with
      | 0, _ => exact absurd rfl hij
      | 1, _ => exact Or.inr (hs (.not (.eq (.string "WarpDesk$Reader" 153) (.string "WarpDesk$Reader" 106))) (by decide +kernel))
      | 2, _ => exact Or.inr (hs (.not (.eq (.string "WarpDesk$Reader" 155) (.string "WarpDesk$Reader" 106))) (by decide +kernel))
      | 3, _ => exact Or.inr (hs (.not (.eq (.string "WarpDesk$Reader" 157) (.string "WarpDesk$Reader" 106))) (by decide +kernel))
      | 4, _ => exact Or.inr (hs (.not (.eq (.string "WarpDesk$Reader" 159) (.string "WarpDesk$Reader" 106))) (by decide +kernel))
      | 5, _ => exact Or.inr (hs (.not (.eq (.string "WarpDesk$Reader" 161) (.string "WarpDesk$Reader" 106))) (by decide +kernel))
      | 6, _ => exact Or.inr (hs (.not (.eq (.string "WarpDesk$Reader" 163) (.string "WarpDesk$Reader" 106))) (by decide +kernel))
      | 7, _ => exact Or.inl (hs (.not (.eq (.string "WarpDesk$Reader" 106) (.string "WarpDesk$Reader" 165))) (by decide +kernel))
      | 8, _ => exact Or.inl (hs (.not (.eq (.string "WarpDesk$Reader" 106) (.string "WarpDesk$Reader" 167))) (by decide +kernel))
      | 9, _ => exact Or.inl (hs (.not (.eq (.string "WarpDesk$Reader" 106) (.string "WarpDesk$Reader" 169))) (by decide +kernel))
      | 10, _ => exact Or.inl (hs (.not (.eq (.string "WarpDesk$Reader" 106) (.string "WarpDesk$Reader" 171))) (by decide +kernel))
      | 11, _ => exact Or.inl (hs (.not (.eq (.string "WarpDesk$Reader" 106) (.string "WarpDesk$Reader" 173))) (by decide +kernel))
      | 12, _ => exact Or.inl (hs (.not (.eq (.string "WarpDesk$Reader" 106) (.string "WarpDesk$Reader" 175))) (by decide +kernel))
      | j + 13, hj => exact absurd hj (by omega)
    | 1, _ =>
      match j, hj with
      | 0, _ => exact Or.inl (hs (.not (.eq (.string "WarpDesk$Reader" 153) (.string "WarpDesk$Reader" 106))) (by decide +kernel))
      | 1, _ => exact absurd rfl hij
      | 2, _ => exact Or.inl (hs (.not (.eq (.string "WarpDesk$Reader" 153) (.string "WarpDesk$Reader" 155))) (by decide +kernel))
      | 3, _ => exact Or.inl (hs (.not (.eq (.string "WarpDesk$Reader" 153) (.string "WarpDesk$Reader" 157))) (by decide +kernel))
      | 4, _ => exact Or.inl (hs (.not (.eq (.string "WarpDesk$Reader" 153) (.string "WarpDesk$Reader" 159))) (by decide +kernel))
      | 5, _ => exact Or.inl (hs (.not (.eq (.string "WarpDesk$Reader" 153) (.string "WarpDesk$Reader" 161))) (by decide +kernel))
      | 6, _ => exact Or.inl (hs (.not (.eq (.string "WarpDesk$Reader" 153) (.string "WarpDesk$Reader" 163))) (by decide +kernel))
      | 7, _ => exact Or.inl (hs (.not (.eq (.string "WarpDesk$Reader" 153) (.string "WarpDesk$Reader" 165))) (by decide +kernel))
      | 8, _ => exact Or.inl (hs (.not (.eq (.string "WarpDesk$Reader" 153) (.string "WarpDesk$Reader" 167))) (by decide +kernel))
      | 9, _ => exact Or.inl (hs (.not (.eq (.string "WarpDesk$Reader" 153) (.string "WarpDesk$Reader" 169))) (by decide +kernel))
      | 10, _ => exact Or.inl (hs (.not (.eq (.string "WarpDesk$Reader" 153) (.string "WarpDesk$Reader" 171))) (by decide +kernel))
      | 11, _ => exact Or.inl (hs (.not (.eq (.string "WarpDesk$Reader" 153) (.string "WarpDesk$Reader" 173))) (by decide +kernel))
      | 12, _ => exact Or.inl (hs (.not (.eq (.string "WarpDesk$Reader" 153) (.string "WarpDesk$Reader" 175))) (by decide +kernel))
      | j + 13, hj => exact absurd hj (by omega)
    | 2, _ =>
      match j, hj with
      | 0, _ => exact Or.inl (hs (.not (.eq (.string "WarpDesk$Reader" 155) (.string "WarpDesk$Reader" 106))) (by decide +kernel))
      | 1, _ => exact Or.inr (hs (.not (.eq (.string "WarpDesk$Reader" 153) (.string "WarpDesk$Reader" 155))) (by decide +kernel))
      | 2, _ => exact absurd rfl hij
      | 3, _ => exact Or.inl (hs (.not (.eq (.string "WarpDesk$Reader" 155) (.string "WarpDesk$Reader" 157))) (by decide +kernel))
      | 4, _ => exact Or.inl (hs (.not (.eq (.string "WarpDesk$Reader" 155) (.string "WarpDesk$Reader" 159))) (by decide +kernel))
      | 5, _ => exact Or.inl (hs (.not (.eq (.string "WarpDesk$Reader" 155) (.string "WarpDesk$Reader" 161))) (by decide +kernel))
      | 6, _ => exact Or.inl (hs (.not (.eq (.string "WarpDesk$Reader" 155) (.string "WarpDesk$Reader" 163))) (by decide +kernel))
      | 7, _ => exact Or.inl (hs (.not (.eq (.string "WarpDesk$Reader" 155) (.string "WarpDesk$Reader" 165))) (by decide +kernel))
      | 8, _ => exact Or.inl (hs (.not (.eq (.string "WarpDesk$Reader" 155) (.string "WarpDesk$Reader" 167))) (by decide +kernel))
      | 9, _ => exact Or.inl (hs (.not (.eq (.string "WarpDesk$Reader" 155) (.string "WarpDesk$Reader" 169))) (by decide +kernel))
      | 10, _ => exact Or.inl (hs (.not (.eq (.string "WarpDesk$Reader" 155) (.string "WarpDesk$Reader" 171))) (by decide +kernel))
      | 11, _ => exact Or.inl (hs (.not (.eq (.string "WarpDesk$Reader" 155) (.string "WarpDesk$Reader" 173))) (by decide +kernel))
      | 12, _ => exact Or.inl (hs (.not (.eq (.string "WarpDesk$Reader" 155) (.string "WarpDesk$Reader" 175))) (by decide +kernel))
      | j + 13, hj => exact absurd hj (by omega)
    | 3, _ =>
      match j, hj with
      | 0, _ => exact Or.inl (hs (.not (.eq (.string "WarpDesk$Reader" 157) (.string "WarpDesk$Reader" 106))) (by decide +kernel))
      | 1, _ => exact Or.inr (hs (.not (.eq (.string "WarpDesk$Reader" 153) (.string "WarpDesk$Reader" 157))) (by decide +kernel))
      | 2, _ => exact Or.inr (hs (.not (.eq (.string "WarpDesk$Reader" 155) (.string "WarpDesk$Reader" 157))) (by decide +kernel))
      | 3, _ => exact absurd rfl hij
      | 4, _ => exact Or.inl (hs (.not (.eq (.string "WarpDesk$Reader" 157) (.string "WarpDesk$Reader" 159))) (by decide +kernel))
      | 5, _ => exact Or.inl (hs (.not (.eq (.string "WarpDesk$Reader" 157) (.string "WarpDesk$Reader" 161))) (by decide +kernel))
      | 6, _ => exact Or.inl (hs (.not (.eq (.string "WarpDesk$Reader" 157) (.string "WarpDesk$Reader" 163))) (by decide +kernel))
      | 7, _ => exact Or.inl (hs (.not (.eq (.string "WarpDesk$Reader" 157) (.string "WarpDesk$Reader" 165))) (by decide +kernel))
      | 8, _ => exact Or.inl (hs (.not (.eq (.string "WarpDesk$Reader" 157) (.string "WarpDesk$Reader" 167))) (by decide +kernel))
      | 9, _ => exact Or.inl (hs (.not (.eq (.string "WarpDesk$Reader" 157) (.string "WarpDesk$Reader" 169))) (by decide +kernel))
      | 10, _ => exact Or.inl (hs (.not (.eq (.string "WarpDesk$Reader" 157) (.string "WarpDesk$Reader" 171))) (by decide +kernel))
      | 11, _ => exact Or.inl (hs (.not (.eq (.string "WarpDesk$Reader" 157) (.string "WarpDesk$Reader" 173))) (by decide +kernel))
      | 12, _ => exact Or.inl (hs (.not (.eq (.string "WarpDesk$Reader" 157) (.string "WarpDesk$Reader" 175))) (by decide +kernel))
      | j + 13, hj => exact absurd hj (by omega)
    | 4, _ =>
      match j, hj with
      | 0, _ => exact Or.inl (hs (.not (.eq (.string "WarpDesk$Reader" 159) (.string "WarpDesk$Reader" 106))) (by decide +kernel))
      | 1, _ => exact Or.inr (hs (.not (.eq (.string "WarpDesk$Reader" 153) (.string "WarpDesk$Reader" 159))) (by decide +kernel))
      | 2, _ => exact Or.inr (hs (.not (.eq (.string "WarpDesk$Reader" 155) (.string "WarpDesk$Reader" 159))) (by decide +kernel))
      | 3, _ => exact Or.inr (hs (.not (.eq (.string "WarpDesk$Reader" 157) (.string "WarpDesk$Reader" 159))) (by decide +kernel))
      | 4, _ => exact absurd rfl hij
      | 5, _ => exact Or.inl (hs (.not (.eq (.string "WarpDesk$Reader" 159) (.string "WarpDesk$Reader" 161))) (by decide +kernel))
      | 6, _ => exact Or.inl (hs (.not (.eq (.string "WarpDesk$Reader" 159) (.string "WarpDesk$Reader" 163))) (by decide +kernel))
      | 7, _ => exact Or.inl (hs (.not (.eq (.string "WarpDesk$Reader" 159) (.string "WarpDesk$Reader" 165))) (by decide +kernel))
      | 8, _ => exact Or.inl (hs (.not (.eq (.string "WarpDesk$Reader" 159) (.string "WarpDesk$Reader" 167))) (by decide +kernel))
      | 9, _ => exact Or.inl (hs (.not (.eq (.string "WarpDesk$Reader" 159) (.string "WarpDesk$Reader" 169))) (by decide +kernel))
      | 10, _ => exact Or.inl (hs (.not (.eq (.string "WarpDesk$Reader" 159) (.string "WarpDesk$Reader" 171))) (by decide +kernel))
      | 11, _ => exact Or.inl (hs (.not (.eq (.string "WarpDesk$Reader" 159) (.string "WarpDesk$Reader" 173))) (by decide +kernel))
      | 12, _ => exact Or.inl (hs (.not (.eq (.string "WarpDesk$Reader" 159) (.string "WarpDesk$Reader" 175))) (by decide +kernel))
      | j + 13, hj => exact absurd hj (by omega)
    | 5, _ =>
      match j, hj with
      | 0, _ => exact Or.inl (hs (.not (.eq (.string "WarpDesk$Reader" 161) (.string "WarpDesk$Reader" 106))) (by decide +kernel))
      | 1, _ => exact Or.inr (hs (.not (.eq (.string "WarpDesk$Reader" 153) (.string "WarpDesk$Reader" 161))) (by decide +kernel))
      | 2, _ => exact Or.inr (hs (.not (.eq (.string "WarpDesk$Reader" 155) (.string "WarpDesk$Reader" 161))) (by decide +kernel))
      | 3, _ => exact Or.inr (hs (.not (.eq (.string "WarpDesk$Reader" 157) (.string "WarpDesk$Reader" 161))) (by decide +kernel))
      | 4, _ => exact Or.inr (hs (.not (.eq (.string "WarpDesk$Reader" 159) (.string "WarpDesk$Reader" 161))) (by decide +kernel))
      | 5, _ => exact absurd rfl hij
      | 6, _ => exact Or.inl (hs (.not (.eq (.string "WarpDesk$Reader" 161) (.string "WarpDesk$Reader" 163))) (by decide +kernel))
      | 7, _ => exact Or.inl (hs (.not (.eq (.string "WarpDesk$Reader" 161) (.string "WarpDesk$Reader" 165))) (by decide +kernel))
      | 8, _ => exact Or.inl (hs (.not (.eq (.string "WarpDesk$Reader" 161) (.string "WarpDesk$Reader" 167))) (by decide +kernel))
      | 9, _ => exact Or.inl (hs (.not (.eq (.string "WarpDesk$Reader" 161) (.string "WarpDesk$Reader" 169))) (by decide +kernel))
      | 10, _ => exact Or.inl (hs (.not (.eq (.string "WarpDesk$Reader" 161) (.string "WarpDesk$Reader" 171))) (by decide +kernel))
      | 11, _ => exact Or.inl (hs (.not (.eq (.string "WarpDesk$Reader" 161) (.string "WarpDesk$Reader" 173))) (by decide +kernel))
      | 12, _ => exact Or.inl (hs (.not (.eq (.string "WarpDesk$Reader" 161) (.string "WarpDesk$Reader" 175))) (by decide +kernel))
      | j + 13, hj => exact absurd hj (by omega)
    | 6, _ =>
      match j, hj with
      | 0, _ => exact Or.inl (hs (.not (.eq (.string "WarpDesk$Reader" 163) (.string "WarpDesk$Reader" 106))) (by decide +kernel))
      | 1, _ => exact Or.inr (hs (.not (.eq (.string "WarpDesk$Reader" 153) (.string "WarpDesk$Reader" 163))) (by decide +kernel))
      | 2, _ => exact Or.inr (hs (.not (.eq (.string "WarpDesk$Reader" 155) (.string "WarpDesk$Reader" 163))) (by decide +kernel))
      | 3, _ => exact Or.inr (hs (.not (.eq (.string "WarpDesk$Reader" 157) (.string "WarpDesk$Reader" 163))) (by decide +kernel))
      | 4, _ => exact Or.inr (hs (.not (.eq (.string "WarpDesk$Reader" 159) (.string "WarpDesk$Reader" 163))) (by decide +kernel))
      | 5, _ => exact Or.inr (hs (.not (.eq (.string "WarpDesk$Reader" 161) (.string "WarpDesk$Reader" 163))) (by decide +kernel))
      | 6, _ => exact absurd rfl hij
      | 7, _ => exact Or.inl (hs (.not (.eq (.string "WarpDesk$Reader" 163) (.string "WarpDesk$Reader" 165))) (by decide +kernel))
      | 8, _ => exact Or.inl (hs (.not (.eq (.string "WarpDesk$Reader" 163) (.string "WarpDesk$Reader" 167))) (by decide +kernel))
      | 9, _ => exact Or.inl (hs (.not (.eq (.string "WarpDesk$Reader" 163) (.string "WarpDesk$Reader" 169))) (by decide +kernel))
      | 10, _ => exact Or.inl (hs (.not (.eq (.string "WarpDesk$Reader" 163) (.string "WarpDesk$Reader" 171))) (by decide +kernel))
      | 11, _ => exact Or.inl (hs (.not (.eq (.string "WarpDesk$Reader" 163) (.string "WarpDesk$Reader" 173))) (by decide +kernel))
      | 12, _ => exact Or.inl (hs (.not (.eq (.string "WarpDesk$Reader" 163) (.string "WarpDesk$Reader" 175))) (by decide +kernel))
      | j + 13, hj => exact absurd hj (by omega)
    | 7, _ =>
      match j, hj with
      | 0, _ => exact Or.inr (hs (.not (.eq (.string "WarpDesk$Reader" 106) (.string "WarpDesk$Reader" 165))) (by decide +kernel))
      | 1, _ => exact Or.inr (hs (.not (.eq (.string "WarpDesk$Reader" 153) (.string "WarpDesk$Reader" 165))) (by decide +kernel))
      | 2, _ => exact Or.inr (hs (.not (.eq (.string "WarpDesk$Reader" 155) (.string "WarpDesk$Reader" 165))) (by decide +kernel))
      | 3, _ => exact Or.inr (hs (.not (.eq (.string "WarpDesk$Reader" 157) (.string "WarpDesk$Reader" 165))) (by decide +kernel))
      | 4, _ => exact Or.inr (hs (.not (.eq (.string "WarpDesk$Reader" 159) (.string "WarpDesk$Reader" 165))) (by decide +kernel))
      | 5, _ => exact Or.inr (hs (.not (.eq (.string "WarpDesk$Reader" 161) (.string "WarpDesk$Reader" 165))) (by decide +kernel))
      | 6, _ => exact Or.inr (hs (.not (.eq (.string "WarpDesk$Reader" 163) (.string "WarpDesk$Reader" 165))) (by decide +kernel))
      | 7, _ => exact absurd rfl hij
      | 8, _ => exact Or.inl (hs (.not (.eq (.string "WarpDesk$Reader" 165) (.string "WarpDesk$Reader" 167))) (by decide +kernel))
      | 9, _ => exact Or.inl (hs (.not (.eq (.string "WarpDesk$Reader" 165) (.string "WarpDesk$Reader" 169))) (by decide +kernel))
      | 10, _ => exact Or.inl (hs (.not (.eq (.string "WarpDesk$Reader" 165) (.string "WarpDesk$Reader" 171))) (by decide +kernel))
      | 11, _ => exact Or.inl (hs (.not (.eq (.string "WarpDesk$Reader" 165) (.string "WarpDesk$Reader" 173))) (by decide +kernel))
      | 12, _ => exact Or.inl (hs (.not (.eq (.string "WarpDesk$Reader" 165) (.string "WarpDesk$Reader" 175))) (by decide +kernel))
      | j + 13, hj => exact absurd hj (by omega)
    | 8, _ =>
      match j, hj with
      | 0, _ => exact Or.inr (hs (.not (.eq (.string "WarpDesk$Reader" 106) (.string "WarpDesk$Reader" 167))) (by decide +kernel))
      | 1, _ => exact Or.inr (hs (.not (.eq (.string "WarpDesk$Reader" 153) (.string "WarpDesk$Reader" 167))) (by decide +kernel))
      | 2, _ => exact Or.inr (hs (.not (.eq (.string "WarpDesk$Reader" 155) (.string "WarpDesk$Reader" 167))) (by decide +kernel))
      | 3, _ => exact Or.inr (hs (.not (.eq (.string "WarpDesk$Reader" 157) (.string "WarpDesk$Reader" 167))) (by decide +kernel))
      | 4, _ => exact Or.inr (hs (.not (.eq (.string "WarpDesk$Reader" 159) (.string "WarpDesk$Reader" 167))) (by decide +kernel))
      | 5, _ => exact Or.inr (hs (.not (.eq (.string "WarpDesk$Reader" 161) (.string "WarpDesk$Reader" 167))) (by decide +kernel))
      | 6, _ => exact Or.inr (hs (.not (.eq (.string "WarpDesk$Reader" 163) (.string "WarpDesk$Reader" 167))) (by decide +kernel))
      | 7, _ => exact Or.inr (hs (.not (.eq (.string "WarpDesk$Reader" 165) (.string "WarpDesk$Reader" 167))) (by decide +kernel))
      | 8, _ => exact absurd rfl hij
      | 9, _ => exact Or.inl (hs (.not (.eq (.string "WarpDesk$Reader" 167) (.string "WarpDesk$Reader" 169))) (by decide +kernel))
      | 10, _ => exact Or.inl (hs (.not (.eq (.string "WarpDesk$Reader" 167) (.string "WarpDesk$Reader" 171))) (by decide +kernel))
      | 11, _ => exact Or.inl (hs (.not (.eq (.string "WarpDesk$Reader" 167) (.string "WarpDesk$Reader" 173))) (by decide +kernel))
      | 12, _ => exact Or.inl (hs (.not (.eq (.string "WarpDesk$Reader" 167) (.string "WarpDesk$Reader" 175))) (by decide +kernel))
      | j + 13, hj => exact absurd hj (by omega)
    | 9, _ =>
      match j, hj with
      | 0, _ => exact Or.inr (hs (.not (.eq (.string "WarpDesk$Reader" 106) (.string "WarpDesk$Reader" 169))) (by decide +kernel))
      | 1, _ => exact Or.inr (hs (.not (.eq (.string "WarpDesk$Reader" 153) (.string "WarpDesk$Reader" 169))) (by decide +kernel))
      | 2, _ => exact Or.inr (hs (.not (.eq (.string "WarpDesk$Reader" 155) (.string "WarpDesk$Reader" 169))) (by decide +kernel))
      | 3, _ => exact Or.inr (hs (.not (.eq (.string "WarpDesk$Reader" 157) (.string "WarpDesk$Reader" 169))) (by decide +kernel))
      | 4, _ => exact Or.inr (hs (.not (.eq (.string "WarpDesk$Reader" 159) (.string "WarpDesk$Reader" 169))) (by decide +kernel))
      | 5, _ => exact Or.inr (hs (.not (.eq (.string "WarpDesk$Reader" 161) (.string "WarpDesk$Reader" 169))) (by decide +kernel))
      | 6, _ => exact Or.inr (hs (.not (.eq (.string "WarpDesk$Reader" 163) (.string "WarpDesk$Reader" 169))) (by decide +kernel))
      | 7, _ => exact Or.inr (hs (.not (.eq (.string "WarpDesk$Reader" 165) (.string "WarpDesk$Reader" 169))) (by decide +kernel))
      | 8, _ => exact Or.inr (hs (.not (.eq (.string "WarpDesk$Reader" 167) (.string "WarpDesk$Reader" 169))) (by decide +kernel))
      | 9, _ => exact absurd rfl hij
      | 10, _ => exact Or.inl (hs (.not (.eq (.string "WarpDesk$Reader" 169) (.string "WarpDesk$Reader" 171))) (by decide +kernel))
      | 11, _ => exact Or.inl (hs (.not (.eq (.string "WarpDesk$Reader" 169) (.string "WarpDesk$Reader" 173))) (by decide +kernel))
      | 12, _ => exact Or.inl (hs (.not (.eq (.string "WarpDesk$Reader" 169) (.string "WarpDesk$Reader" 175))) (by decide +kernel))
      | j + 13, hj => exact absurd hj (by omega)
    | 10, _ =>
      match j, hj with
      | 0, _ => exact Or.inr (hs (.not (.eq (.string "WarpDesk$Reader" 106) (.string "WarpDesk$Reader" 171))) (by decide +kernel))
      | 1, _ => exact Or.inr (hs (.not (.eq (.string "WarpDesk$Reader" 153) (.string "WarpDesk$Reader" 171))) (by decide +kernel))
      | 2, _ => exact Or.inr (hs (.not (.eq (.string "WarpDesk$Reader" 155) (.string "WarpDesk$Reader" 171))) (by decide +kernel))
      | 3, _ => exact Or.inr (hs (.not (.eq (.string "WarpDesk$Reader" 157) (.string "WarpDesk$Reader" 171))) (by decide +kernel))
      | 4, _ => exact Or.inr (hs (.not (.eq (.string "WarpDesk$Reader" 159) (.string "WarpDesk$Reader" 171))) (by decide +kernel))
      | 5, _ => exact Or.inr (hs (.not (.eq (.string "WarpDesk$Reader" 161) (.string "WarpDesk$Reader" 171))) (by decide +kernel))
      | 6, _ => exact Or.inr (hs (.not (.eq (.string "WarpDesk$Reader" 163) (.string "WarpDesk$Reader" 171))) (by decide +kernel))
      | 7, _ => exact Or.inr (hs (.not (.eq (.string "WarpDesk$Reader" 165) (.string "WarpDesk$Reader" 171))) (by decide +kernel))
      | 8, _ => exact Or.inr (hs (.not (.eq (.string "WarpDesk$Reader" 167) (.string "WarpDesk$Reader" 171))) (by decide +kernel))
      | 9, _ => exact Or.inr (hs (.not (.eq (.string "WarpDesk$Reader" 169) (.string "WarpDesk$Reader" 171))) (by decide +kernel))
      | 10, _ => exact absurd rfl hij
      | 11, _ => exact Or.inl (hs (.not (.eq (.string "WarpDesk$Reader" 171) (.string "WarpDesk$Reader" 173))) (by decide +kernel))
      | 12, _ => exact Or.inl (hs (.not (.eq (.string "WarpDesk$Reader" 171) (.string "WarpDesk$Reader" 175))) (by decide +kernel))
      | j + 13, hj => exact absurd hj (by omega)
    | 11, _ =>
      match j, hj with
      | 0, _ => exact Or.inr (hs (.not (.eq (.string "WarpDesk$Reader" 106) (.string "WarpDesk$Reader" 173))) (by decide +kernel))
      | 1, _ => exact Or.inr (hs (.not (.eq (.string "WarpDesk$Reader" 153) (.string "WarpDesk$Reader" 173))) (by decide +kernel))
      | 2, _ => exact Or.inr (hs (.not (.eq (.string "WarpDesk$Reader" 155) (.string "WarpDesk$Reader" 173))) (by decide +kernel))
      | 3, _ => exact Or.inr (hs (.not (.eq (.string "WarpDesk$Reader" 157) (.string "WarpDesk$Reader" 173))) (by decide +kernel))
      | 4, _ => exact Or.inr (hs (.not (.eq (.string "WarpDesk$Reader" 159) (.string "WarpDesk$Reader" 173))) (by decide +kernel))
      | 5, _ => exact Or.inr (hs (.not (.eq (.string "WarpDesk$Reader" 161) (.string "WarpDesk$Reader" 173))) (by decide +kernel))
      | 6, _ => exact Or.inr (hs (.not (.eq (.string "WarpDesk$Reader" 163) (.string "WarpDesk$Reader" 173))) (by decide +kernel))
      | 7, _ => exact Or.inr (hs (.not (.eq (.string "WarpDesk$Reader" 165) (.string "WarpDesk$Reader" 173))) (by decide +kernel))
      | 8, _ => exact Or.inr (hs (.not (.eq (.string "WarpDesk$Reader" 167) (.string "WarpDesk$Reader" 173))) (by decide +kernel))
      | 9, _ => exact Or.inr (hs (.not (.eq (.string "WarpDesk$Reader" 169) (.string "WarpDesk$Reader" 173))) (by decide +kernel))
      | 10, _ => exact Or.inr (hs (.not (.eq (.string "WarpDesk$Reader" 171) (.string "WarpDesk$Reader" 173))) (by decide +kernel))
      | 11, _ => exact absurd rfl hij
      | 12, _ => exact Or.inl (hs (.not (.eq (.string "WarpDesk$Reader" 173) (.string "WarpDesk$Reader" 175))) (by decide +kernel))
      | j + 13, hj => exact absurd hj (by omega)
    | 12, _ =>
      match j, hj with
      | 0, _ => exact Or.inr (hs (.not (.eq (.string "WarpDesk$Reader" 106) (.string "WarpDesk$Reader" 175))) (by decide +kernel))
      | 1, _ => exact Or.inr (hs (.not (.eq (.string "WarpDesk$Reader" 153) (.string "WarpDesk$Reader" 175))) (by decide +kernel))
      | 2, _ => exact Or.inr (hs (.not (.eq (.string "WarpDesk$Reader" 155) (.string "WarpDesk$Reader" 175))) (by decide +kernel))
      | 3, _ => exact Or.inr (hs (.not (.eq (.string "WarpDesk$Reader" 157) (.string "WarpDesk$Reader" 175))) (by decide +kernel))
      | 4, _ => exact Or.inr (hs (.not (.eq (.string "WarpDesk$Reader" 159) (.string "WarpDesk$Reader" 175))) (by decide +kernel))
      | 5, _ => exact Or.inr (hs (.not (.eq (.string "WarpDesk$Reader" 161) (.string "WarpDesk$Reader" 175))) (by decide +kernel))
      | 6, _ => exact Or.inr (hs (.not (.eq (.string "WarpDesk$Reader" 163) (.string "WarpDesk$Reader" 175))) (by decide +kernel))
      | 7, _ => exact Or.inr (hs (.not (.eq (.string "WarpDesk$Reader" 165) (.string "WarpDesk$Reader" 175))) (by decide +kernel))
      | 8, _ => exact Or.inr (hs (.not (.eq (.string "WarpDesk$Reader" 167) (.string "WarpDesk$Reader" 175))) (by decide +kernel))
      | 9, _ => exact Or.inr (hs (.not (.eq (.string "WarpDesk$Reader" 169) (.string "WarpDesk$Reader" 175))) (by decide +kernel))
      | 10, _ => exact Or.inr (hs (.not (.eq (.string "WarpDesk$Reader" 171) (.string "WarpDesk$Reader" 175))) (by decide +kernel))
      | 11, _ => exact Or.inr (hs (.not (.eq (.string "WarpDesk$Reader" 173) (.string "WarpDesk$Reader" 175))) (by decide +kernel))
      | 12, _ => exact absurd rfl hij
      | j + 13, hj => exact absurd hj (by omega)
    | i + 13, hi => exact absurd hi (by omega)
  obtain ⟨adK, adV, hVS, hAd⟩ := vk_Sof (args := #[Value.ref b]) (s := s) (N := 13) (tm := fun i => (.string RX5 (kSt.getD i (0, "")).1)) (len := lenS) (byt := bytS) (A := fun q : Nat => s.heap.size ≤ q) (by decide) sEx sCo sAr sLe sEl sNe hA'
  have hCS : va_Z "java/lang/String" "COMPACT_STRINGS" "Z" (.int 1) (fun q : Nat => s.heap.size ≤ q) s s.heap := va_Zof (hts (.laysStatic "java/lang/String" "COMPACT_STRINGS" "Z") (by decide +kernel)) (hts (.initialized "java/lang/String") (by decide +kernel)) (va_eqt (z := 1) (hs (.eq (.static "java/lang/String" "COMPACT_STRINGS" "Z") (.int 1)) (by decide +kernel))) hA'
  have hSF : va_Zq "jdk/internal/util/Preconditions" "SIOOBE_FORMATTER" "Ljava/util/function/BiFunction;" (fun q : Nat => s.heap.size ≤ q) s s.heap := va_Zqof (hts (.laysStatic "jdk/internal/util/Preconditions" "SIOOBE_FORMATTER" "Ljava/util/function/BiFunction;") (by decide +kernel)) (hts (.initialized "jdk/internal/util/Preconditions") (by decide +kernel)) (hs (.isRef (.static "jdk/internal/util/Preconditions" "SIOOBE_FORMATTER" "Ljava/util/function/BiFunction;")) (by decide +kernel)) hA'
  have hSR : ∀ i : Nat, i < 13 → vk_R RX5 (kSt.getD i (0, "")).1 (kSt.getD i (0, "")).2 (adK i) s := by
    intro i hi
    match i, hi with
    | 0, _ => exact vk_R.of (A := #[Value.ref b]) (hts (.stringRef "WarpDesk$Reader" 106 "gap") (by decide +kernel)) (hAd 0 (by decide))
    | 1, _ => exact vk_R.of (A := #[Value.ref b]) (hts (.stringRef "WarpDesk$Reader" 153 "series") (by decide +kernel)) (hAd 1 (by decide))
    | 2, _ => exact vk_R.of (A := #[Value.ref b]) (hts (.stringRef "WarpDesk$Reader" 155 "query") (by decide +kernel)) (hAd 2 (by decide))
    | 3, _ => exact vk_R.of (A := #[Value.ref b]) (hts (.stringRef "WarpDesk$Reader" 157 "band") (by decide +kernel)) (hAd 3 (by decide))
    | 4, _ => exact vk_R.of (A := #[Value.ref b]) (hts (.stringRef "WarpDesk$Reader" 159 "level") (by decide +kernel)) (hAd 4 (by decide))
    | 5, _ => exact vk_R.of (A := #[Value.ref b]) (hts (.stringRef "WarpDesk$Reader" 161 "cost") (by decide +kernel)) (hAd 5 (by decide))
    | 6, _ => exact vk_R.of (A := #[Value.ref b]) (hts (.stringRef "WarpDesk$Reader" 163 "apart") (by decide +kernel)) (hAd 6 (by decide))
    | 7, _ => exact vk_R.of (A := #[Value.ref b]) (hts (.stringRef "WarpDesk$Reader" 165 "none") (by decide +kernel)) (hAd 7 (by decide))
    | 8, _ => exact vk_R.of (A := #[Value.ref b]) (hts (.stringRef "WarpDesk$Reader" 167 "mean") (by decide +kernel)) (hAd 8 (by decide))
    | 9, _ => exact vk_R.of (A := #[Value.ref b]) (hts (.stringRef "WarpDesk$Reader" 169 "first") (by decide +kernel)) (hAd 9 (by decide))
    | 10, _ => exact vk_R.of (A := #[Value.ref b]) (hts (.stringRef "WarpDesk$Reader" 171 "range") (by decide +kernel)) (hAd 10 (by decide))
    | 11, _ => exact vk_R.of (A := #[Value.ref b]) (hts (.stringRef "WarpDesk$Reader" 173 "plain") (by decide +kernel)) (hAd 11 (by decide))
    | 12, _ => exact vk_R.of (A := #[Value.ref b]) (hts (.stringRef "WarpDesk$Reader" 175 "square") (by decide +kernel)) (hAd 12 (by decide))
    | i + 13, hi => exact absurd hi (by omega)
  have hNS : NS adK s := ⟨va_AO.of (hts (.arrayOver (.object "WarpDesk$Stand")) (by decide +kernel)), va_Nw.of rfl (hts (.castable "[I" "java/lang/Cloneable") (by decide +kernel)), va_Nw.of rfl (hts (.methodLinkNest RX11 9 yX10_init "WarpDesk") (by decide +kernel)), va_Nw.of rfl (hts (.methodLinkNest RX5 11 yX8_init "WarpDesk") (by decide +kernel)), va_Nw.of rfl (hts (.methodLinkNest RX8 17 yX7_init "WarpDesk") (by decide +kernel)), va_Nw.of rfl (hts (.methodLinkNest RX5 20 yX4_init "WarpDesk") (by decide +kernel)), va_Nw.of rfl (hts (.methodLinkNest RX11 27 yX6_init "WarpDesk") (by decide +kernel)), va_Nw.of rfl (hts (.methodLinkNest RX11 34 yX4_init "WarpDesk") (by decide +kernel)), va_Nw.of rfl (hts (.methodLinkNest RX11 41 yX7_init "WarpDesk") (by decide +kernel)), va_Nw.of rfl (hts (.methodLinkNest RX11 48 yX3_init "WarpDesk") (by decide +kernel)), va_Nw.of rfl (hts (.methodLinkNest RX11 55 yX8_init "WarpDesk") (by decide +kernel)), va_Nw.of rfl (hts (.methodLinkNest RX0 11 yX2_init "WarpDesk") (by decide +kernel)), hSR⟩
  have hl := lv_entry ([.ref b]) (n := 4) (Nat.le_of_ble_eq_true rfl)
  rw [lg_entry_eq]
  exact law_walk (κ := (p, l, e, room_1, s, m, #[Value.ref b], below, meth, c, (dC, dI), (fun q : Nat => s.heap.size ≤ q), lw_Z below #[Value.ref b] s)) (l := l) (D := (dC, dI)) (zt := (t0, t1, t2, adK, adV)) (b := b) (L := L) (xs := xs)
    ⟨hx, hb, hml, hown, hts, ⟨hKc, fun k q h => by simp at h⟩, fun _ h => h, rfl, ⟨⟨hZt0, hTt0, hVS, hCS, hSF⟩, ⟨hZt1, hTt1⟩, ⟨hZt2, hTt2⟩, hZU, hNS⟩, rfl, rfl⟩ ⟨hX, hbl, Nat.not_le.mpr hbl⟩ hL
    (fun ws pc lv n1 n2 k1 k2 hd H locs ls hP hD hS hl => va_forget (fun q hq => hS.2.2 q hq) (W.widen k1 k2 (lw_ret hx hb hr hlocks hd)))
    s.heap [] _ (fun k q h => by simp at h) ⟨fun i j p q h => by simp at h, fun k q h => by simp at h⟩ va_S.rf hl
-- ===== YOUR PART ENDS =====
