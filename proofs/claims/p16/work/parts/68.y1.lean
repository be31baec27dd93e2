/-- what the class goes on from, told by the reference's row and the QUERIES -/
def XW (I : Nat → Int32) (A : Nat → Nat → Int32) (r : Nat → Int32) (N nq : Nat) (ql : Nat → Nat) (qv : Nat → Nat → Int) : Prop := XR I A r N ∧ (I 19).toInt = (nq : Int) ∧ nq ≤ 5 ∧ (∀ q, q < nq → (A 9 q).toInt = (ql q : Int) ∧ 2 ≤ ql q ∧ ql q ≤ 16 ∧ ∀ i, i < ql q → (A 8 (16 * q + i)).toInt = qv q i ∧ -999 ≤ qv q i ∧ qv q i ≤ 999) ∧ StE (A 10) r
theorem XW.mv {I I' : Nat → Int32} {A A' : Nat → Nat → Int32} {r : Nat → Int32} {N nq : Nat} {ql : Nat → Nat} {qv : Nat → Nat → Int} (h : XW I A r N nq ql qv) (i17 : I' 17 = I 17) (i18 : I' 18 = I 18) (i19 : I' 19 = I 19) (a7 : A' 7 = A 7) (a8 : A' 8 = A 8) (a9 : A' 9 = A 9) (a10 : A' 10 = A 10) : XW I' A' r N nq ql qv := by
  obtain ⟨⟨h1, h2, h3⟩, h4, h5, h6, h7⟩ := h
  have ev : ∀ z, fX6_valueAt I' A' z = fX6_valueAt I A z := fun z => by
    unfold fX6_valueAt
    rw [i17, i18, a7]
  refine ⟨⟨h1, by rw [i18]; exact h2, fun z i hz hi => by rw [ev]; exact h3 z i hz hi⟩, by rw [i19]; exact h4, h5, ?_, by rw [a10]; exact h7⟩
  rw [a8, a9]; exact h6
/-- the same of the reference; its row is copied -/
def MW (J : Nat → Int32) (B : Nat → Nat → Int32) (σ N nq : Nat) (ql : Nat → Nat) (qv : Nat → Nat → Int) : Prop := rok (B 17) N ∧ (J 15).toInt = (σ : Int) ∧ σ ≤ 1 ∧ (B 10 σ).toInt = (nq : Int) ∧ nq ≤ 5 ∧ (∀ q, q < nq → (B 11 (5 * σ + q)).toInt = (ql q : Int) ∧ 2 ≤ ql q ∧ ql q ≤ 16 ∧ ∀ i, i < ql q → (B 12 (80 * σ + (16 * q + i))).toInt = qv q i ∧ -999 ≤ qv q i ∧ qv q i ≤ 999)
theorem MW.mv {J J' : Nat → Int32} {B B' : Nat → Nat → Int32} {σ N nq : Nat} {ql : Nat → Nat} {qv : Nat → Nat → Int} (h : MW J B σ N nq ql qv) (j15 : J' 15 = J 15) (b10 : B' 10 = B 10) (b11 : B' 11 = B 11) (b12 : B' 12 = B 12) (b17 : B' 17 = B 17) : MW J' B' σ N nq ql qv := by
  unfold MW at *
  rw [j15, b10, b11, b12, b17]; exact h
theorem RA.xm {I J : Nat → Int32} {A B : Nat → Nat → Int32} {M : Nat → Nat → Int64} (h : RA I A J B M) : ∃ (σ N nq : Nat) (ql : Nat → Nat) (qv : Nat → Nat → Int), XW I A (B 17) N nq ql qv ∧ MW J B σ N nq ql qv := by
  obtain ⟨-, hH, hQ, -⟩ := h
  obtain ⟨N, hx⟩ := hH.xr
  obtain ⟨fs, u, nx, -, -, -, -, -, -, hR, -⟩ := hH
  obtain ⟨σ, nq, q1, q2, q3, q4, q5, q6⟩ := hQ
  refine ⟨σ, N, nq, fun q => (A 9 q).toInt.toNat, fun q i => (A 8 (16 * q + i)).toInt, ⟨hx, q3, q5, fun q hq => ?_, hR.2.2.2.2⟩, hx.1, q1, q2, q4, q5, fun q hq => ?_⟩
  · obtain ⟨a, b, c, d⟩ := q6 q hq
    refine ⟨by show (A 9 q).toInt = ((A 9 q).toInt.toNat : Int); omega, by show 2 ≤ (A 9 q).toInt.toNat; omega, by show (A 9 q).toInt.toNat ≤ 16; omega, fun i hi => ⟨rfl, ?_⟩⟩
    have hi2 : i < (A 9 q).toInt.toNat := hi
    exact (d i (by omega)).2
  · obtain ⟨a, b, c, d⟩ := q6 q hq
    refine ⟨by show (B 11 (5 * σ + q)).toInt = ((A 9 q).toInt.toNat : Int); rw [← a]; omega, by show 2 ≤ (A 9 q).toInt.toNat; omega, by show (A 9 q).toInt.toNat ≤ 16; omega, fun i hi => ?_⟩
    have hi2 : i < (A 9 q).toInt.toNat := hi
    have e := d i (by omega)
    exact ⟨by rw [← e.1], e.2⟩
/-- a WINDOW's and a QUERY's readings -/
def gW (r : Nat → Int32) (s i : Nat) : Int := (r (1 + (s + i))).toInt
theorem gW_raw {r : Nat → Int32} {N s n : Nat} (h : rok r N) (hw : wnR r N s n) : raw n (gW r s) := fun i hi => by
  unfold gW
  rcases h.v (i := s + i) (by have := hw.2.1; omega) with ⟨a, -⟩ | ⟨-, -, -, a, b⟩
  · exact absurd a (hw.2.2 i hi)
  · exact ⟨a, b⟩
theorem x_begin {I : Nat → Int32} {A : Nat → Nat → Int32} {z1 z2 : Int32} {n : Nat} {b c : Int} (h1 : z1.toInt = (n : Int)) (hn1 : 1 ≤ n) (hn : n ≤ 16) (h2 : z2.toInt = b) (hb : 0 ≤ b) (hc : (A 10 2).toInt = c) (hc0 : 0 ≤ c) (hc1 : c ≤ 1) : ∃ I' : Nat → Int32, fX0_begin I A z1 z2 = (0, I', A) ∧ Md [28, 30, 31, 32] I I' ∧ (I' 28).toInt = (n : Int) ∧ (I' 30).toInt = (n : Int) ∧ (I' 31).toInt = b ∧ (I' 32).toInt = c := by
  have ev : fX7_valueOf_2 (upd I 28 z1) A 2 = A 10 2 := by
    unfold fX7_valueOf_2
    rw [if_neg (by decide), if_neg (by decide)]; rfl
  unfold fX0_begin
  simp only [f_lt_eq]
  rw [ev]
  obtain ⟨y1, hy1⟩ : ∃ y1 : Int32, y1 = if (16 : Int32) < z1 then (16 : Int32) else z1 := ⟨_, rfl⟩
  obtain ⟨y2, hy2⟩ : ∃ y2 : Int32, y2 = if (1 : Int32) < y1 then y1 else (1 : Int32) := ⟨_, rfl⟩
  obtain ⟨y3, hy3⟩ : ∃ y3 : Int32, y3 = if (0 : Int32) < z2 then z2 else (0 : Int32) := ⟨_, rfl⟩
  have t16 : (16 : Int32).toInt = 16 := rfl
  have t1 : (1 : Int32).toInt = 1 := rfl
  have t0 : (0 : Int32).toInt = 0 := rfl
  have e1 : y1.toInt = (n : Int) := by rcases i32_min (x := z1) (y := 16) hy1 with ⟨a, a9⟩ | ⟨a, a9⟩ <;> omega
  have e2 : y2.toInt = (n : Int) := by rcases i32_max (x := 1) (y := y1) hy2 with ⟨a, a9⟩ | ⟨a, a9⟩ <;> omega
  have e3 : y3.toInt = b := by rcases i32_max (x := 0) (y := z2) hy3 with ⟨a, a9⟩ | ⟨a, a9⟩ <;> omega
  unfold fX2_begin
  simp only [f_lt_eq]
  rw [← hy1, ← hy2, ← hy3]
  by_cases c1 : (A 10 2).toInt = 1
  · rw [if_neg (fun h9 => h9 c1), bdX_mk]
    exact ⟨_, rfl, Md.up (Md.up (Md.up (Md.up Md.rf rfl) rfl) rfl) rfl, h1, e2, e3, by show (1 : Int32).toInt = c; omega⟩
  · rw [if_pos c1, bdX_mk]
    exact ⟨_, rfl, Md.up (Md.up (Md.up (Md.up Md.rf rfl) rfl) rfl) rfl, h1, e2, e3, by show (0 : Int32).toInt = c; omega⟩
theorem x_copyW21 {I : Nat → Int32} {A : Nat → Nat → Int32} {r : Nat → Int32} {N nq : Nat} {ql : Nat → Nat} {qv : Nat → Nat → Int} {z1 z2 : Int32} {s n : Nat} (h : XW I A r N nq ql qv) (h1 : z1.toInt = (s : Int)) (h2 : z2.toInt = (n : Int)) (hn : n ≤ 16) (hw : wnR r N s n) : ∃ A' : Nat → Nat → Int32, fX6_copyWindow I A z1 z2 = (0, I, A') ∧ Md [21] A A' ∧ ∀ i, i < n → (A' 21 i).toInt = gW r s i := by
  have hN := h.1.1.2.1
  have hsn := hw.2.1
  unfold fX6_copyWindow
  refine run_iIA (Q := fun v => ∃ A' : Nat → Nat → Int32, v = (0, I, A') ∧ Md [21] A A' ∧ ∀ i, i < n → (A' 21 i).toInt = gW r s i) n (fun j x I1 A1 => x.toInt = (j : Int) ∧ I1 = I ∧ Md [21] A A1 ∧ ∀ i, i < j → (A1 21 i).toInt = gW r s i) (fun G j x I1 A1 hj hP => ?_) FU 0 0 I A ⟨rfl, rfl, Md.rf, fun i hi => by omega⟩ (by omega) (fu_lt (by omega))
  obtain ⟨hx, eI, mA, hi⟩ := hP
  unfold bX6_copyWindow_3
  dsimp only [f_lt]
  by_cases c : z2.toInt ≤ x.toInt
  · rw [if_pos c, eI]; right; exact ⟨A1, rfl, mA, fun i h9 => hi i (by omega)⟩
  · rw [if_neg c, if_neg (by omega), clN hx]
    left
    have h' := h.mv (I' := I1) (A' := A1) (by rw [eI]) (by rw [eI]) (by rw [eI]) (mA 7 rfl) (mA 8 rfl) (mA 9 rfl) (mA 10 rfl)
    have hv : fX6_valueAt I1 A1 (z1 + x) = r (1 + (s + j)) := by
      rcases h'.1.2.2 _ _ (i_ad h1 hx (by omega) (by omega)) (by omega) with ⟨a9, -⟩ | ⟨-, b9, -⟩
      · exact absurd a9 (hw.2.2 j (by omega))
      · exact b9
    rw [hv]
    refine ⟨by omega, _, _, _, rfl, i_s hx (by omega), eI, Md.up3 mA rfl, fun i h9 => ?_⟩
    by_cases e : i = j
    · rw [up3_at e, e]; rfl
    · rw [up3_ne e]; exact hi i (by omega)
theorem x_copyQ21 {I : Nat → Int32} {A : Nat → Nat → Int32} {r : Nat → Int32} {N nq : Nat} {ql : Nat → Nat} {qv : Nat → Nat → Int} {z : Int32} {q : Nat} (h : XW I A r N nq ql qv) (hz : z.toInt = (q : Int)) (hq : q < nq) : ∃ A' : Nat → Nat → Int32, fX4_copyQuery I A z = (0, I, A') ∧ Md [21] A A' ∧ ∀ i, i < ql q → (A' 21 i).toInt = qv q i := by
  obtain ⟨-, h19, h5, hqs, -⟩ := h
  obtain ⟨l1, l2, l3, l4⟩ := hqs q hq
  unfold fX4_copyQuery
  refine run_iIA (Q := fun v => ∃ A' : Nat → Nat → Int32, v = (0, I, A') ∧ Md [21] A A' ∧ ∀ i, i < ql q → (A' 21 i).toInt = qv q i) (ql q) (fun j x I1 A1 => x.toInt = (j : Int) ∧ I1 = I ∧ Md [21] A A1 ∧ ∀ i, i < j → (A1 21 i).toInt = qv q i) (fun G j x I1 A1 hj hP => ?_) FU 0 0 I A ⟨rfl, rfl, Md.rf, fun i hi => by omega⟩ (by omega) (fu_lt (by omega))
  obtain ⟨hx, eI, mA, hi⟩ := hP
  have hL : fX4_lengthOf_2 I1 A1 z = (A 9 q, 1) := by
    rw [x_len2 (nq := nq) (by rw [eI]; exact h19) h5 hz hq, mA 9 rfl]
  unfold bX4_copyQuery_2
  rw [hL, ifp]
  dsimp only [f_lt]
  by_cases c : (A 9 q).toInt ≤ x.toInt
  · rw [if_pos c, eI]; right; exact ⟨A1, rfl, mA, fun i h9 => hi i (by omega)⟩
  · rw [if_neg c, clN hx]
    left
    have hv : fX4_valueAt_2 I1 A1 z x = A 8 (16 * q + j) := by
      unfold fX4_valueAt_2
      rw [if_neg (show ¬ x.toInt < 0 by omega), if_neg (show ¬ 16 ≤ x.toInt by omega), hL, ifp]
      dsimp only [f_lt]
      rw [if_neg c, i_16 hz hx (by omega) (by omega), mA 8 rfl]
    rw [hv]
    refine ⟨by omega, _, _, _, rfl, i_s hx (by omega), eI, Md.up3 mA rfl, fun i h9 => ?_⟩
    by_cases e : i = j
    · rw [up3_at e, e]; exact (l4 j (by omega)).1
    · rw [up3_ne e]; exact hi i (by omega)
theorem x_copyW22 {I : Nat → Int32} {A : Nat → Nat → Int32} {r : Nat → Int32} {N nq : Nat} {ql : Nat → Nat} {qv : Nat → Nat → Int} {z1 z2 : Int32} {s n : Nat} (h : XW I A r N nq ql qv) (h1 : z1.toInt = (s : Int)) (h2 : z2.toInt = (n : Int)) (hn : n ≤ 16) (hw : wnR r N s n) : ∃ A' : Nat → Nat → Int32, fX6_copyWindow_2 I A z1 z2 = (0, I, A') ∧ Md [22] A A' ∧ ∀ i, i < n → (A' 22 i).toInt = gW r s i := by
  have hN := h.1.1.2.1
  have hsn := hw.2.1
  unfold fX6_copyWindow_2
  refine run_iIA (Q := fun v => ∃ A' : Nat → Nat → Int32, v = (0, I, A') ∧ Md [22] A A' ∧ ∀ i, i < n → (A' 22 i).toInt = gW r s i) n (fun j x I1 A1 => x.toInt = (j : Int) ∧ I1 = I ∧ Md [22] A A1 ∧ ∀ i, i < j → (A1 22 i).toInt = gW r s i) (fun G j x I1 A1 hj hP => ?_) FU 0 0 I A ⟨rfl, rfl, Md.rf, fun i hi => by omega⟩ (by omega) (fu_lt (by omega))
  obtain ⟨hx, eI, mA, hi⟩ := hP
  unfold bX6_copyWindow_2_3
  dsimp only [f_lt]
  by_cases c : z2.toInt ≤ x.toInt
  · rw [if_pos c, eI]; right; exact ⟨A1, rfl, mA, fun i h9 => hi i (by omega)⟩
  · rw [if_neg c, if_neg (by omega), clN hx]
    left
    have h' := h.mv (I' := I1) (A' := A1) (by rw [eI]) (by rw [eI]) (by rw [eI]) (mA 7 rfl) (mA 8 rfl) (mA 9 rfl) (mA 10 rfl)
    have hv : fX6_valueAt I1 A1 (z1 + x) = r (1 + (s + j)) := by
      rcases h'.1.2.2 _ _ (i_ad h1 hx (by omega) (by omega)) (by omega) with ⟨a9, -⟩ | ⟨-, b9, -⟩
      · exact absurd a9 (hw.2.2 j (by omega))
      · exact b9
    rw [hv]
    refine ⟨by omega, _, _, _, rfl, i_s hx (by omega), eI, Md.up3 mA rfl, fun i h9 => ?_⟩
    by_cases e : i = j
    · rw [up3_at e, e]; rfl
    · rw [up3_ne e]; exact hi i (by omega)
theorem x_copyQ22 {I : Nat → Int32} {A : Nat → Nat → Int32} {r : Nat → Int32} {N nq : Nat} {ql : Nat → Nat} {qv : Nat → Nat → Int} {z : Int32} {q : Nat} (h : XW I A r N nq ql qv) (hz : z.toInt = (q : Int)) (hq : q < nq) : ∃ A' : Nat → Nat → Int32, fX4_copyQuery_2 I A z = (0, I, A') ∧ Md [22] A A' ∧ ∀ i, i < ql q → (A' 22 i).toInt = qv q i := by
  obtain ⟨-, h19, h5, hqs, -⟩ := h
  obtain ⟨l1, l2, l3, l4⟩ := hqs q hq
  unfold fX4_copyQuery_2
  refine run_iIA (Q := fun v => ∃ A' : Nat → Nat → Int32, v = (0, I, A') ∧ Md [22] A A' ∧ ∀ i, i < ql q → (A' 22 i).toInt = qv q i) (ql q) (fun j x I1 A1 => x.toInt = (j : Int) ∧ I1 = I ∧ Md [22] A A1 ∧ ∀ i, i < j → (A1 22 i).toInt = qv q i) (fun G j x I1 A1 hj hP => ?_) FU 0 0 I A ⟨rfl, rfl, Md.rf, fun i hi => by omega⟩ (by omega) (fu_lt (by omega))
  obtain ⟨hx, eI, mA, hi⟩ := hP
  have hL : fX4_lengthOf_2 I1 A1 z = (A 9 q, 1) := by
    rw [x_len2 (nq := nq) (by rw [eI]; exact h19) h5 hz hq, mA 9 rfl]
  unfold bX4_copyQuery_2_2
  rw [hL, ifp]
  dsimp only [f_lt]
  by_cases c : (A 9 q).toInt ≤ x.toInt
  · rw [if_pos c, eI]; right; exact ⟨A1, rfl, mA, fun i h9 => hi i (by omega)⟩
  · rw [if_neg c, clN hx]
    left
    have hv : fX4_valueAt_2 I1 A1 z x = A 8 (16 * q + j) := by
      unfold fX4_valueAt_2
      rw [if_neg (show ¬ x.toInt < 0 by omega), if_neg (show ¬ 16 ≤ x.toInt by omega), hL, ifp]
      dsimp only [f_lt]
      rw [if_neg c, i_16 hz hx (by omega) (by omega), mA 8 rfl]
    rw [hv]
    refine ⟨by omega, _, _, _, rfl, i_s hx (by omega), eI, Md.up3 mA rfl, fun i h9 => ?_⟩
    by_cases e : i = j
    · rw [up3_at e, e]; exact (l4 j (by omega)).1
    · rw [up3_ne e]; exact hi i (by omega)
theorem x_vOf {I : Nat → Int32} {A : Nat → Nat → Int32} {z : Int32} {k : Nat} (hz : z.toInt = (k : Int)) (hk : k < 4) : fX7_valueOf_2 I A z = A 10 k := by
  unfold fX7_valueOf_2
  rw [if_neg (by omega), if_neg (by omega), clN hz]
/-- what is set, as numbers -/
theorem StE.n {S r : Nat → Int32} (h : StE S r) : (S 0).toInt = (r 161).toInt ∧ (S 1).toInt = (r 162).toInt ∧ (S 2).toInt = (r 163).toInt ∧ (S 3).toInt = (r 164).toInt ∧ 0 ≤ (r 161).toInt ∧ (r 161).toInt ≤ 15 ∧ 0 ≤ (r 162).toInt ∧ (r 162).toInt ≤ 3 ∧ 0 ≤ (r 163).toInt ∧ (r 163).toInt ≤ 1 ∧ 1 ≤ (r 164).toInt ∧ (r 164).toInt ≤ 99 := by
  obtain ⟨⟨a, a1, a2⟩, ⟨b, b1, b2⟩, ⟨c, c1, c2⟩, ⟨d, d1, d2⟩⟩ := h
  rw [a, b, c, d]
  exact ⟨rfl, rfl, rfl, rfl, a1, a2, b1, b2, c1, c2, d1, d2⟩
/-- a row lies on the left, at its LEVEL -/
def FL (I : Nat → Int32) (A : Nat → Nat → Int32) (n : Nat) (b c : Int) (lf : Nat → Int) : Prop := (I 28).toInt = (n : Int) ∧ (I 30).toInt = (n : Int) ∧ (I 31).toInt = b ∧ (I 32).toInt = c ∧ ∀ i, i < n → (A 21 i).toInt = lf i
def FR (A : Nat → Nat → Int32) (n : Nat) (rt : Nat → Int) : Prop := ∀ i, i < n → (A 22 i).toInt = rt i
def lvl (r : Nat → Int32) (n : Nat) (g : Nat → Int) : Nat → Int := lvS (r 162).toInt n g
section OPEN
variable {I : Nat → Int32} {A : Nat → Nat → Int32} {r : Nat → Int32} {N nq : Nat} {ql : Nat → Nat} {qv : Nat → Nat → Int}
theorem x_openW (h : XW I A r N nq ql qv) {z1 z2 : Int32} {s n : Nat} (h1 : z1.toInt = (s : Int)) (h2 : z2.toInt = (n : Int)) (hn : n ≤ 16) (hw : wnR r N s n) : ∃ (I' : Nat → Int32) (A' : Nat → Nat → Int32), fX0_openWindow I A z1 z2 = (0, I', A') ∧ Md [28, 30, 31, 32] I I' ∧ Md [21] A A' ∧ FL I' A' n (r 161).toInt (r 163).toInt (lvl r n (gW r s)) := by
  obtain ⟨s0, s1, s2, -, b0, b1, -, -, c0, c1, -, -⟩ := h.2.2.2.2.n
  obtain ⟨I1, e1, m1, f1, f2, f3, f4⟩ := x_begin (I := I) (A := A) (z1 := z2) (z2 := A 10 0) h2 hw.1 hn s0 b0 s2 c0 c1
  have h' := h.mv (I' := I1) (A' := A) (m1 17 rfl) (m1 18 rfl) (m1 19 rfl) rfl rfl rfl rfl
  obtain ⟨A2, e2, m2, f5⟩ := x_copyW21 h' (z2 := I1 28) h1 f1 hn hw
  obtain ⟨A3, e3, m3, f6⟩ := x_level21 (I := I1) (A := A2) (z := A2 10 1) (k := (r 162).toInt) f2 hw.1 hn (gW_raw h.1.1 hw) f5 (by rw [m2 10 rfl]; exact s1)
  unfold fX0_openWindow
  simp only [f_lt_eq]
  rw [x_vOf (z := 0) (k := 0) rfl (by omega), e1, bdX_mk, e2, bdX_mk, x_vOf (z := 1) (k := 1) rfl (by omega), e3, bdX_mk]
  exact ⟨I1, A3, rfl, m1, Md.tr m2 m3 rfl, f1, f2, f3, f4, f6⟩
theorem x_openQ (h : XW I A r N nq ql qv) {z1 z2 : Int32} {q : Nat} {b : Int} (h1 : z1.toInt = (q : Int)) (hq : q < nq) (h2 : z2.toInt = b) (hb : 0 ≤ b) : ∃ (I' : Nat → Int32) (A' : Nat → Nat → Int32), fX0_openQuery I A z1 z2 = (0, I', A') ∧ Md [28, 30, 31, 32] I I' ∧ Md [21] A A' ∧ FL I' A' (ql q) b (r 163).toInt (lvl r (ql q) (qv q)) := by
  obtain ⟨s0, s1, s2, -, b0, b1, -, -, c0, c1, -, -⟩ := h.2.2.2.2.n
  obtain ⟨l1, l2, l3, l4⟩ := h.2.2.2.1 q hq
  have hL : fX4_lengthOf_2 I A z1 = (A 9 q, 1) := x_len2 h.2.1 h.2.2.1 h1 hq
  obtain ⟨I1, e1, m1, f1, f2, f3, f4⟩ := x_begin (I := I) (A := A) (z1 := A 9 q) (z2 := z2) l1 (by omega) l3 h2 hb s2 c0 c1
  have h' := h.mv (I' := I1) (A' := A) (m1 17 rfl) (m1 18 rfl) (m1 19 rfl) rfl rfl rfl rfl
  obtain ⟨A2, e2, m2, f5⟩ := x_copyQ21 h' h1 hq
  obtain ⟨A3, e3, m3, f6⟩ := x_level21 (I := I1) (A := A2) (z := A2 10 1) (k := (r 162).toInt) f2 (by omega) l3 (fun i hi => (l4 i hi).2) f5 (by rw [m2 10 rfl]; exact s1)
  unfold fX0_openQuery
  simp only [f_lt_eq]
  rw [hL, ifp, e1, bdX_mk, e2, bdX_mk, x_vOf (z := 1) (k := 1) rfl (by omega), e3, bdX_mk]
  exact ⟨I1, A3, rfl, m1, Md.tr m2 m3 rfl, f1, f2, f3, f4, f6⟩
theorem x_secW (h : XW I A r N nq ql qv) {z1 : Int32} {s n : Nat} (h1 : z1.toInt = (s : Int)) (h28 : (I 28).toInt = (n : Int)) (h30 : (I 30).toInt = (n : Int)) (hn : n ≤ 16) (hw : wnR r N s n) : ∃ A' : Nat → Nat → Int32, fX0_laySecondWindow I A z1 = (0, I, A') ∧ Md [22] A A' ∧ FR A' n (lvl r n (gW r s)) := by
  obtain ⟨s0, s1, -⟩ := h.2.2.2.2.n
  obtain ⟨A2, e2, m2, f5⟩ := x_copyW22 h (z2 := I 28) h1 h28 hn hw
  obtain ⟨A3, e3, m3, f6⟩ := x_level22 (I := I) (A := A2) (z := A2 10 1) (k := (r 162).toInt) h30 hw.1 hn (gW_raw h.1.1 hw) f5 (by rw [m2 10 rfl]; exact s1)
  unfold fX0_laySecondWindow
  simp only [f_lt_eq]
  rw [e2, bdX_mk, x_vOf (z := 1) (k := 1) rfl (by omega), e3, bdX_mk]
  exact ⟨A3, rfl, Md.tr m2 m3 rfl, f6⟩
theorem x_secQ (h : XW I A r N nq ql qv) {z1 : Int32} {q : Nat} (h1 : z1.toInt = (q : Int)) (hq : q < nq) (h30 : (I 30).toInt = (ql q : Int)) : ∃ A' : Nat → Nat → Int32, fX0_laySecondQuery I A z1 = (0, I, A') ∧ Md [22] A A' ∧ FR A' (ql q) (lvl r (ql q) (qv q)) := by
  obtain ⟨s0, s1, -⟩ := h.2.2.2.2.n
  obtain ⟨l1, l2, l3, l4⟩ := h.2.2.2.1 q hq
  obtain ⟨A2, e2, m2, f5⟩ := x_copyQ22 h h1 hq
  obtain ⟨A3, e3, m3, f6⟩ := x_level22 (I := I) (A := A2) (z := A2 10 1) (k := (r 162).toInt) h30 (by omega) l3 (fun i hi => (l4 i hi).2) f5 (by rw [m2 10 rfl]; exact s1)
  unfold fX0_laySecondQuery
  simp only [f_lt_eq]
  rw [e2, bdX_mk, x_vOf (z := 1) (k := 1) rfl (by omega), e3, bdX_mk]
  exact ⟨A3, rfl, Md.tr m2 m3 rfl, f6⟩
end OPEN
section MLAY
variable {J : Nat → Int32} {B : Nat → Nat → Int32} {L : Nat → Nat → Int64}
theorem m_laysW {r : Nat → Int32} {N s n : Nat} {z1 z2 : Int32} (hr : rok r N) (h18 : ∀ k, k < 165 → B 18 k = r k) (hk0 : 0 ≤ (r 162).toInt) (hk3 : (r 162).toInt ≤ 3) (h1 : z1.toInt = (s : Int)) (h2 : z2.toInt = (n : Int)) (hn : n ≤ 16) (hw : wnR r N s n) : ∃ B' : Nat → Nat → Int32, fM12_laysWindow J B L z1 z2 = (0, J, B', L) ∧ Md [19] B B' ∧ (∀ i, i < n → (B' 19 i).toInt = lvl r n (gW r s) i) := by
  have hsn := hw.2.1
  have hN := hr.2.1
  unfold fM12_laysWindow
  refine run_iIAL (Q := fun v => ∃ B' : Nat → Nat → Int32, v = (0, J, B', L) ∧ Md [19] B B' ∧ (∀ i, i < n → (B' 19 i).toInt = lvl r n (gW r s) i)) n (fun j x J1 B1 L1 => x.toInt = (j : Int) ∧ J1 = J ∧ L1 = L ∧ Md [19] B B1 ∧ ∀ i, i < j → (B1 19 i).toInt = gW r s i) (fun G j x J1 B1 L1 hj hP => ?_) FU 0 0 J B L ⟨rfl, rfl, rfl, Md.rf, fun i hi => by omega⟩ (by omega) (fu_lt (by omega))
  obtain ⟨hx, eJ, eL, mB, hi⟩ := hP
  unfold bM12_laysWindow_2
  dsimp only [f_lt]
  by_cases c : z2.toInt ≤ x.toInt
  · rw [if_pos c, eJ, eL]
    right
    obtain ⟨B', e, m, f, -⟩ := m_level (J := J) (B := B1) (L := L) (z := z2) (k := (r 162).toInt) h2 hw.1 hn (gW_raw hr hw) (fun i h9 => hi i (by omega)) (by rw [mB 18 rfl, h18 162 (by omega)]) hk0 hk3
    rw [e, bdM_mk]
    exact ⟨B', rfl, Md.tr mB m rfl, f⟩
  · rw [if_neg c, clN hx]
    left
    have e1 : (1 + z1).toInt = ((1 + s : Nat) : Int) := by
      have := i32_add (x := 1) (y := z1) (a := 1) rfl rfl h1 (by omega) (by omega)
      omega
    have e2 := i_ad e1 hx (by omega) (by omega)
    rw [clN e2]
    refine ⟨by omega, _, _, _, _, rfl, i_s hx (by omega), eJ, eL, Md.up3 mB rfl, fun i h9 => ?_⟩
    by_cases e : i = j
    · rw [up3_at e, e, h18 _ (by omega)]
      unfold gW
      rw [show 1 + s + j = 1 + (s + j) by omega]
    · rw [up3_ne e]; exact hi i (by omega)
theorem m_changes {n : Nat} {z : Int32} (hz : z.toInt = (n : Int)) (hn : n ≤ 16) : ∃ B' : Nat → Nat → Int32, fM12_changesBoth J B L z = (0, J, B', L) ∧ Md [19, 20] B B' ∧ (∀ i, i < n → B' 19 i = B 20 i) ∧ ∀ i, i < n → B' 20 i = B 19 i := by
  unfold fM12_changesBoth
  refine run_iIAL (Q := fun v => ∃ B' : Nat → Nat → Int32, v = (0, J, B', L) ∧ Md [19, 20] B B' ∧ (∀ i, i < n → B' 19 i = B 20 i) ∧ ∀ i, i < n → B' 20 i = B 19 i) n (fun j x J1 B1 L1 => x.toInt = (j : Int) ∧ J1 = J ∧ L1 = L ∧ Md [19, 20] B B1 ∧ (∀ i, i < j → B1 19 i = B 20 i) ∧ (∀ i, i < j → B1 20 i = B 19 i) ∧ (∀ i, j ≤ i → B1 19 i = B 19 i) ∧ ∀ i, j ≤ i → B1 20 i = B 20 i) (fun G j x J1 B1 L1 hj hP => ?_) FU 0 0 J B L ⟨rfl, rfl, rfl, Md.rf, fun i hi => by omega, fun i hi => by omega, fun i _ => rfl, fun i _ => rfl⟩ (by omega) (fu_lt (by omega))
  obtain ⟨hx, eJ, eL, mB, h1, h2, h3, h4⟩ := hP
  unfold bM12_changesBoth_2
  dsimp only [f_lt]
  by_cases c : z.toInt ≤ x.toInt
  · rw [if_pos c, eJ, eL]; right; exact ⟨B1, rfl, mB, fun i hi => h1 i (by omega), fun i hi => h2 i (by omega)⟩
  · rw [if_neg c, clN hx]
    left
    refine ⟨by omega, _, _, _, _, rfl, i_s hx (by omega), eJ, eL, Md.up3 (Md.up3 mB rfl) rfl, fun i hi => ?_, fun i hi => ?_, fun i hi => ?_, fun i hi => ?_⟩
    · rw [up3_o (by decide)]
      by_cases e : i = j
      · rw [up3_at e, e]; exact h4 j (Nat.le_refl j)
      · rw [up3_ne e]; exact h1 i (by omega)
    · by_cases e : i = j
      · rw [up3_at e, e]; exact h3 j (Nat.le_refl j)
      · rw [up3_ne e, up3_o (by decide)]; exact h2 i (by omega)
    · rw [up3_o (by decide), up3_ne (by omega)]; exact h3 i (by omega)
    · rw [up3_ne (by omega), up3_o (by decide)]; exact h4 i (by omega)
theorem m_laysQ {σ N nq : Nat} {ql : Nat → Nat} {qv : Nat → Nat → Int} {k : Int} {z : Int32} {q : Nat} (h : MW J B σ N nq ql qv) (hk : (B 18 162).toInt = k) (hk0 : 0 ≤ k) (hk3 : k ≤ 3) (hz : z.toInt = (q : Int)) (hq : q < nq) : ∃ B' : Nat → Nat → Int32, fM12_laysQuery J B L z = (0, J, B', L) ∧ Md [19] B B' ∧ (∀ i, i < ql q → (B' 19 i).toInt = lvS k (ql q) (qv q) i) := by
  obtain ⟨-, h15, hσ, h10, h5, hqs⟩ := h
  obtain ⟨l1, l2, l3, l4⟩ := hqs q hq
  have e5 := i_5 h15 hσ hz (by omega)
  unfold fM12_laysQuery
  refine run_iIAL (Q := fun v => ∃ B' : Nat → Nat → Int32, v = (0, J, B', L) ∧ Md [19] B B' ∧ (∀ i, i < ql q → (B' 19 i).toInt = lvS k (ql q) (qv q) i)) (ql q) (fun j x J1 B1 L1 => x.toInt = (j : Int) ∧ J1 = J ∧ L1 = L ∧ Md [19] B B1 ∧ ∀ i, i < j → (B1 19 i).toInt = qv q i) (fun G j x J1 B1 L1 hj hP => ?_) FU 0 0 J B L ⟨rfl, rfl, rfl, Md.rf, fun i hi => by omega⟩ (by omega) (fu_lt (by omega))
  obtain ⟨hx, eJ, eL, mB, hi⟩ := hP
  unfold bM12_laysQuery_2
  dsimp only [f_lt]
  rw [clN e5]
  by_cases c : (B 11 (5 * σ + q)).toInt ≤ x.toInt
  · rw [if_pos c, eJ, eL]
    right
    obtain ⟨B', e, m, f, -⟩ := m_level (J := J) (B := B1) (L := L) (z := B 11 (5 * σ + q)) (k := k) (g := qv q) l1 (by omega) l3 (fun i h9 => (l4 i h9).2) (fun i h9 => hi i (by omega)) (by rw [mB 18 rfl]; exact hk) hk0 hk3
    rw [e, bdM_mk]
    exact ⟨B', rfl, Md.tr mB m rfl, f⟩
  · rw [if_neg c, clN hx]
    left
    have e6 := i32_mul (x := 16) (y := 5 * J 15 + z) (a := 16) rfl rfl e5 (by omega) (by omega)
    have e7 : (16 * (5 * J 15 + z) + x).toInt = ((80 * σ + (16 * q + j) : Nat) : Int) := by
      have := i32_add (x := 16 * (5 * J 15 + z)) (y := x) rfl e6 hx (by omega) (by omega)
      omega
    rw [clN e7]
    refine ⟨by omega, _, _, _, _, rfl, i_s hx (by omega), eJ, eL, Md.up3 mB rfl, fun i h9 => ?_⟩
    by_cases e : i = j
    · rw [up3_at e, e]; exact (l4 j (by omega)).1
    · rw [up3_ne e]; exact hi i (by omega)
/-- first and other row lie side by side -/
def ML (J : Nat → Int32) (B : Nat → Nat → Int32) (n : Nat) (lf rt : Nat → Int) : Prop := (J 18).toInt = (n : Int) ∧ (∀ i, i < n → (B 19 i).toInt = lf i) ∧ ∀ i, i < n → (B 20 i).toInt = rt i
theorem m_laysBoth {σ N nq : Nat} {ql : Nat → Nat} {qv : Nat → Nat → Int} {z1 z2 : Int32} {q s : Nat} {r : Nat → Int32} (h : MW J B σ N nq ql qv) (hr : rok r N) (h18 : ∀ k, k < 165 → B 18 k = r k) (hk0 : 0 ≤ (r 162).toInt) (hk3 : (r 162).toInt ≤ 3) (h1 : z1.toInt = (q : Int)) (hq : q < nq) (h2 : z2.toInt = (s : Int)) (hw : wnR r N s (ql q)) : ∃ (J' : Nat → Int32) (B' : Nat → Nat → Int32), fM12_laysBoth J B L z1 z2 = (0, J', B', L) ∧ Md [18] J J' ∧ Md [19, 20] B B' ∧ ML J' B' (ql q) (lvl r (ql q) (qv q)) (lvl r (ql q) (gW r s)) := by
  obtain ⟨l1, l2, l3, l4⟩ := h.2.2.2.2.2 q hq
  have e5 := i_5 h.2.1 h.2.2.1 h1 (by have := h.2.2.2.2.1; omega)
  obtain ⟨B1, a1, a2, a3⟩ := m_laysW (J := upd J 18 (B 11 (5 * σ + q))) (B := B) (L := L) hr h18 hk0 hk3 h2 l1 l3 hw
  obtain ⟨B2, b1, b2, b3, b4⟩ := m_changes (J := upd J 18 (B 11 (5 * σ + q))) (B := B1) (L := L) l1 l3
  have h' := h.mv (J' := upd J 18 (B 11 (5 * σ + q))) (B' := B2) rfl ((b2 10 rfl).trans (a2 10 rfl)) ((b2 11 rfl).trans (a2 11 rfl)) ((b2 12 rfl).trans (a2 12 rfl)) ((b2 17 rfl).trans (a2 17 rfl))
  obtain ⟨B3, c1, c2, c3⟩ := m_laysQ (J := upd J 18 (B 11 (5 * σ + q))) (B := B2) (L := L) (k := (r 162).toInt) h' (by rw [b2 18 rfl, a2 18 rfl, h18 162 (by omega)]) hk0 hk3 h1 hq
  unfold fM12_laysBoth
  rw [clN e5, a1, bdM_mk, b1, bdM_mk, c1, bdM_mk]
  refine ⟨_, B3, rfl, Md.up Md.rf rfl, Md.tr (Md.tr (Md.tr Md.rf a2 rfl) b2 rfl) c2 rfl, l1, c3, fun i hi => ?_⟩
  rw [c2 20 rfl, b4 i hi]; exact a3 i hi
theorem m_laysWs {N : Nat} {z1 z2 z3 : Int32} {s o n : Nat} {r : Nat → Int32} (hr : rok r N) (h18 : ∀ k, k < 165 → B 18 k = r k) (hk0 : 0 ≤ (r 162).toInt) (hk3 : (r 162).toInt ≤ 3) (h1 : z1.toInt = (s : Int)) (h2 : z2.toInt = (o : Int)) (h3 : z3.toInt = (n : Int)) (hn : n ≤ 16) (hw : wnR r N s n) (hw2 : wnR r N o n) : ∃ (J' : Nat → Int32) (B' : Nat → Nat → Int32), fM12_laysWindows J B L z1 z2 z3 = (0, J', B', L) ∧ Md [18] J J' ∧ Md [19, 20] B B' ∧ ML J' B' n (lvl r n (gW r s)) (lvl r n (gW r o)) := by
  obtain ⟨B1, a1, a2, a3⟩ := m_laysW (J := upd J 18 z3) (B := B) (L := L) hr h18 hk0 hk3 h2 h3 hn hw2
  obtain ⟨B2, b1, b2, b3, b4⟩ := m_changes (J := upd J 18 z3) (B := B1) (L := L) h3 hn
  obtain ⟨B3, c1, c2, c3⟩ := m_laysW (J := upd J 18 z3) (B := B2) (L := L) hr (fun k hk => by rw [b2 18 rfl, a2 18 rfl]; exact h18 k hk) hk0 hk3 h1 h3 hn hw
  unfold fM12_laysWindows
  rw [a1, bdM_mk, b1, bdM_mk, c1, bdM_mk]
  refine ⟨_, B3, rfl, Md.up Md.rf rfl, Md.tr (Md.tr (Md.tr Md.rf a2 rfl) b2 rfl) c2 rfl, h3, c3, fun i hi => ?_⟩
  rw [c2 20 rfl, b4 i hi]; exact a3 i hi
end MLAY
