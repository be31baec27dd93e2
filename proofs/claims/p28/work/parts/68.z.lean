section
/-- what is known of a place: the DISTANCE of the WINDOW there, or that there is none -/
def fdR (r : Nat → Int32) (N : Nat) (ql : Nat → Nat) (qv : Nat → Nat → Int) (b : Int) (q s : Nat) (x : Int) : Prop := (wnR r N s (ql q) ∧ x = dQ r ql qv b q s) ∨ (¬ wnR r N s (ql q) ∧ x = -1)
theorem fdR.uq {r : Nat → Int32} {N : Nat} {ql : Nat → Nat} {qv : Nat → Nat → Int} {b : Int} {q s : Nat} {x y : Int} (h : fdR r N ql qv b q s x) (h' : fdR r N ql qv b q s y) : x = y := by
  rcases h with ⟨a, b⟩ | ⟨a, b⟩ <;> rcases h' with ⟨c, d⟩ | ⟨c, d⟩
  · omega
  · exact absurd a c
  · exact absurd c a
  · omega
theorem dQ_b {I : Nat → Int32} {A : Nat → Nat → Int32} {r : Nat → Int32} {N nq : Nat} {ql : Nat → Nat} {qv : Nat → Nat → Int} (hx : XW I A r N nq ql qv) {q s : Nat} {b : Int} (hq : q < nq) (hw : wnR r N s (ql q)) (hb : 0 ≤ b) : 0 ≤ dQ r ql qv b q s ∧ dQ r ql qv b q s ≤ 500000000 := by
  obtain ⟨-, l2, l3, -⟩ := hx.2.2.2.1 q hq
  exact dT_b hb (fun i j hi hj => csT_b (lvl_b (hx.qraw hq) i hi) (lvl_b (gW_raw hx.1.1 hw) j hj)) (by omega) l3
theorem fdR.b {I : Nat → Int32} {A : Nat → Nat → Int32} {r : Nat → Int32} {N nq : Nat} {ql : Nat → Nat} {qv : Nat → Nat → Int} (hx : XW I A r N nq ql qv) {q s : Nat} {b x : Int} (hq : q < nq) (hb : 0 ≤ b) (h : fdR r N ql qv b q s x) : -1 ≤ x ∧ x ≤ 500000000 := by
  rcases h with ⟨a, e⟩ | ⟨a, e⟩
  · have := dQ_b hx hq a hb; omega
  · omega
section SCAN
variable {I J : Nat → Int32} {A B : Nat → Nat → Int32} {L : Nat → Nat → Int64} {r : Nat → Int32} {σ N nq : Nat} {ql : Nat → Nat} {qv : Nat → Nat → Int}
theorem x_winQ (hx : XW I A r N nq ql qv) {x : Int32} {q s : Nat} (hq : q < nq) (hs : x.toInt = (s : Int)) : (fX6_hasWindow I A x (A 9 q) = 0 ∧ ¬ wnR r N s (ql q)) ∨ (fX6_hasWindow I A x (A 9 q) = 1 ∧ wnR r N s (ql q)) := by
  obtain ⟨l1, l2, l3, -⟩ := hx.2.2.2.1 q hq
  rcases x_win hx.1 (z1 := x) (z2 := A 9 q) with ⟨a, b⟩ | ⟨a, s2, k2, b, c, d⟩
  · exact Or.inl ⟨a, b s (ql q) hs l1⟩
  · refine Or.inr ⟨a, ?_⟩
    rw [show s = s2 by omega, show ql q = k2 by omega]; exact d
theorem x_scan (hx : XW I A r N nq ql qv) {z : Int32} {q : Nat} (hz : z.toInt = (q : Int)) (hq : q < nq) : ∃ (I' : Nat → Int32) (A' : Nat → Nat → Int32), fX1_scan I A z = (0, I', A') ∧ Md [28, 30, 31, 32, 33, 34] I I' ∧ Md [21, 22, 23, 26] A A' ∧ ∀ s, s < 160 → fdR r N ql qv (r 161).toInt q s (A' 26 s).toInt := by
  have hs := hx.2.2.2.2.n
  obtain ⟨l1, l2, l3, -⟩ := hx.2.2.2.1 q hq
  obtain ⟨I1, A1, a1, a2, a3, a4⟩ := x_openQ hx (z2 := A 10 0) (b := (r 161).toInt) hz hq hs.1 hs.2.2.2.2.1
  unfold fX1_scan
  rw [f_lt_eq, x_vOf (z := 0) (k := 0) rfl (by omega), a1, bdX_mk]
  refine run_iIA (Q := fun v => ∃ (I' : Nat → Int32) (A' : Nat → Nat → Int32), v = (0, I', A') ∧ Md [28, 30, 31, 32, 33, 34] I I' ∧ Md [21, 22, 23, 26] A A' ∧ ∀ s, s < 160 → fdR r N ql qv (r 161).toInt q s (A' 26 s).toInt) 160 (fun k x I2 A2 => x.toInt = (k : Int) ∧ Md [28, 30, 31, 32, 33, 34] I I2 ∧ Md [21, 22, 23, 26] A A2 ∧ FL I2 A2 (ql q) (r 161).toInt (r 163).toInt (lvl r (ql q) (qv q)) ∧ ∀ s, s < k → fdR r N ql qv (r 161).toInt q s (A2 26 s).toInt) (fun G k x I2 A2 hk hP => ?_) FU 0 0 I1 A1 ⟨rfl, Md.tr Md.rf a2 rfl, Md.tr Md.rf a3 rfl, a4, fun s h9 => by omega⟩ (by omega) (fu_lt (by omega))
  obtain ⟨hxk, mI, mA, fl, hf⟩ := hP
  unfold bX1_scan_21
  dsimp only [f_lt]
  by_cases c : 160 ≤ x.toInt
  · rw [if_pos c]; right; exact ⟨I2, A2, rfl, mI, mA, fun s h9 => hf s (by omega)⟩
  · rw [if_neg c, clN hxk]
    left
    refine ⟨by omega, ?_⟩
    obtain ⟨A3, hA3⟩ : ∃ A3, A3 = up3 A2 26 k (-1) := ⟨_, rfl⟩
    have mA3 : Md [21, 22, 23, 26] A A3 := by rw [hA3]; exact Md.up3 mA rfl
    have a3o : ∀ j, j ≠ 26 → A3 j = A2 j := fun j hj => by rw [hA3]; exact up3_o hj
    rw [← hA3]
    have hx3 := hx.mv (I' := I2) (A' := A3) (mI 17 rfl) (mI 18 rfl) (mI 19 rfl) (mA3 7 rfl) (mA3 8 rfl) (mA3 9 rfl) (mA3 10 rfl)
    rw [x_len2 hx3.2.1 hx3.2.2.1 hz hq, ifp]
    have f26 : ∀ s, s < k → fdR r N ql qv (r 161).toInt q s (A3 26 s).toInt := fun s h9 => by rw [hA3, up3_ne (by omega)]; exact hf s h9
    show ∃ x' I' A', (if fX6_hasWindow I2 A3 x (A3 9 q) = 0 then _ else _) = G x' I' A' ∧ _
    rcases x_winQ hx3 hq hxk with ⟨e, w⟩ | ⟨e, w⟩
    · rw [e, if_pos rfl]
      refine ⟨_, _, _, rfl, i_s hxk (by omega), mI, mA3, ⟨fl.1, fl.2.1, fl.2.2.1, fl.2.2.2.1, fun i hi => by rw [a3o 21 (by decide)]; exact fl.2.2.2.2 i hi⟩, fun s h9 => ?_⟩
      by_cases es : s = k
      · right; rw [es, hA3, up3_at rfl]; exact ⟨w, rfl⟩
      · exact f26 s (by omega)
    · rw [e, if_neg (by decide)]
      obtain ⟨A4, b1, b2, b3⟩ := x_secW hx3 hxk fl.1 fl.2.1 l3 w
      rw [b1, bdX_mk]
      have fl4 : FL I2 A4 (ql q) (r 161).toInt (r 163).toInt (lvl r (ql q) (qv q)) := ⟨fl.1, fl.2.1, fl.2.2.1, fl.2.2.2.1, fun i hi => by rw [b2 21 rfl, a3o 21 (by decide)]; exact fl.2.2.2.2 i hi⟩
      have hx4 := hx3.mv (I' := I2) (A' := A4) rfl rfl rfl (b2 7 rfl) (b2 8 rfl) (b2 9 rfl) (b2 10 rfl)
      obtain ⟨v, I5, A5, d1, d2, d3, d4, -⟩ := x_whole (x_TB hx4 hq w ⟨hs.2.2.2.2.1, by omega⟩ fl4 b3)
      rw [d1, bdX_mk]
      refine ⟨_, _, _, rfl, i_s hxk (by omega), Md.tr mI d3 rfl, Md.up3 (Md.tr (Md.tr mA3 b2 rfl) d4 rfl) rfl, ⟨by rw [d3 28 rfl]; exact fl.1, by rw [d3 30 rfl]; exact fl.2.1, by rw [d3 31 rfl]; exact fl.2.2.1, by rw [d3 32 rfl]; exact fl.2.2.2.1, fun i hi => ?_⟩, fun s h9 => ?_⟩
      · rw [up3_o (by decide), d4 21 rfl]; exact fl4.2.2.2.2 i hi
      · by_cases es : s = k
        · left; rw [es, up3_at rfl]; exact ⟨w, d2⟩
        · rw [up3_ne es, d4 26 rfl, b2 26 rfl]; exact f26 s (by omega)
theorem m_isOfQ (hm : MW J B σ N nq ql qv) {z x : Int32} {q s : Nat} (hz : z.toInt = (q : Int)) (hq : q < nq) (hs : x.toInt = (s : Int)) : (fM12_isOf J B L z x = 0 ∧ ¬ wnR (B 17) N s (ql q)) ∨ (fM12_isOf J B L z x = 1 ∧ wnR (B 17) N s (ql q)) := by
  obtain ⟨k1, k2, k3, -⟩ := hm.2.2.2.2.2 q hq
  unfold fM12_isOf
  rw [m_isQuery hm.2.1 hm.2.2.1 hm.2.2.2.1 hm.2.2.2.2.1, if10, if_pos (by omega), clN (i_5 hm.2.1 hm.2.2.1 hz (by have := hm.2.2.2.2.1; omega))]
  rcases m_win (J := J) (L := L) hm.1 (z1 := x) (z2 := B 11 (5 * σ + q)) with ⟨a, b⟩ | ⟨a, s2, k9, b, c, d⟩
  · rw [a, if_pos rfl]; exact Or.inl ⟨rfl, b s (ql q) hs k1⟩
  · rw [a, if_neg (by decide)]
    refine Or.inr ⟨rfl, ?_⟩
    rw [show s = s2 by omega, show ql q = k9 by omega]; exact d
theorem m_far (hm : MW J B σ N nq ql qv) (hk0 : 0 ≤ (B 17 162).toInt) (hk3 : (B 17 162).toInt ≤ 3) (hb0 : 0 ≤ (B 17 161).toInt ∧ (B 17 161).toInt ≤ 1000) {z : Int32} {q : Nat} (hz : z.toInt = (q : Int)) (hq : q < nq) : ∃ (J' : Nat → Int32) (B' : Nat → Nat → Int32), fM12_fillsFar J B L z = (0, J', B', L) ∧ Md [18, 19, 20] J J' ∧ Md [18, 19, 20, 21, 24] B B' ∧ (∀ k, k < 165 → B' 18 k = B 17 k) ∧ ∀ s, s < 160 → fdR (B 17) N ql qv (B 17 161).toInt q s (B' 24 s).toInt := by
  unfold fM12_fillsFar fM12_copies
  rw [bdM_mk]
  refine run_iIAL (Q := fun v => ∃ (J' : Nat → Int32) (B' : Nat → Nat → Int32), v = (0, J', B', L) ∧ Md [18, 19, 20] J J' ∧ Md [18, 19, 20, 21, 24] B B' ∧ (∀ k, k < 165 → B' 18 k = B 17 k) ∧ ∀ s, s < 160 → fdR (B 17) N ql qv (B 17 161).toInt q s (B' 24 s).toInt) 160 (fun k x J1 B1 L1 => x.toInt = (k : Int) ∧ L1 = L ∧ Md [18, 19, 20] J J1 ∧ Md [18, 19, 20, 21, 24] B B1 ∧ (∀ k, k < 165 → B1 18 k = B 17 k) ∧ ∀ s, s < k → fdR (B 17) N ql qv (B 17 161).toInt q s (B1 24 s).toInt) (fun G k x J1 B1 L1 hk hP => ?_) FU 0 0 J _ L ⟨rfl, rfl, Md.rf, Md.up2 Md.rf rfl, m_cp, fun s h9 => by omega⟩ (by omega) (fu_lt (by omega))
  obtain ⟨hxk, eL, mJ, mB, h18, hf⟩ := hP
  unfold bM12_fillsFar_6
  dsimp only [f_lt]
  by_cases c : 160 ≤ x.toInt
  · rw [if_pos c]; right; exact ⟨J1, B1, by rw [eL], mJ, mB, h18, fun s h9 => hf s (by omega)⟩
  · rw [if_neg c, clN hxk]
    left
    refine ⟨by omega, ?_⟩
    have hm1 := hm.mv (J' := J1) (B' := B1) (mJ 15 rfl) (mB 10 rfl) (mB 11 rfl) (mB 12 rfl) (mB 17 rfl)
    rcases m_isOfQ (L := L1) hm1 hz hq hxk with ⟨e, w⟩ | ⟨e, w⟩
    · rw [mB 17 rfl] at w
      rw [e, if_pos rfl]
      refine ⟨_, _, _, _, rfl, i_s hxk (by omega), eL, mJ, Md.up3 mB rfl, fun k9 h9 => by rw [up3_o (by decide)]; exact h18 k9 h9, fun s h9 => ?_⟩
      by_cases es : s = k
      · right; rw [es, up3_at rfl]; exact ⟨w, rfl⟩
      · rw [up3_ne es]; exact hf s (by omega)
    · rw [mB 17 rfl] at w
      rw [e, if_neg (by decide)]
      obtain ⟨v, J2, B2, d1, d2, d3, d4, -, -⟩ := m_dist (L := L1) hm1 hm.1 h18 hk0 hk3 hb0 hz hq hxk w
      rw [d1, bdM_mk]
      refine ⟨_, _, _, _, rfl, i_s hxk (by omega), eL, Md.tr mJ d3 rfl, Md.up3 (Md.tr mB d4 rfl) rfl, fun k9 h9 => by rw [up3_o (by decide), d4 18 rfl]; exact h18 k9 h9, fun s h9 => ?_⟩
      by_cases es : s = k
      · left; rw [es, up3_at rfl]; exact ⟨w, d2⟩
      · rw [up3_ne es, d4 24 rfl]; exact hf s (by omega)
end SCAN
/-- which place is ahead of another: by the DISTANCE, then by the place -/
def aheadP (f : Nat → Int) (own : Int) (s t : Nat) : Prop := 0 ≤ f t ∧ (f t < own ∨ (f t = own ∧ t < s))
theorem x_rankR {I : Nat → Int32} {A : Nat → Nat → Int32} {z : Int32} {s : Nat} (hz : z.toInt = (s : Int)) (hs : s < 160) : (fX1_rankOf I A z).toInt = (cnR (aheadP (fun t => (A 26 t).toInt) (A 26 s).toInt s) 160 : Int) := by
  unfold fX1_rankOf fX1_scannedDistance
  rw [f_lt_eq, if_neg (by omega), if_neg (by omega), clN hz]
  obtain ⟨p, hp⟩ : ∃ p, p = aheadP (fun t => (A 26 t).toInt) (A 26 s).toInt s := ⟨_, rfl⟩
  rw [← hp]
  refine run_ii (Q := fun (w : Int32) => w.toInt = (cnR p 160 : Int)) 160 (fun k x y => x.toInt = (k : Int) ∧ y.toInt = (cnR p k : Int)) (fun G k x y hk hP => ?_) FU 0 0 0 ⟨rfl, rfl⟩ (by omega) (fu_lt (by omega))
  obtain ⟨hx, hy⟩ := hP
  have cl := cnR_le (p := p) k
  have pk : p k ↔ 0 ≤ (A 26 k).toInt ∧ ((A 26 k).toInt < (A 26 s).toInt ∨ ((A 26 k).toInt = (A 26 s).toInt ∧ k < s)) := by rw [hp]; exact Iff.rfl
  unfold bX1_rankOf_11
  dsimp only [f_lt]
  by_cases c : 160 ≤ x.toInt
  · rw [if_pos c]; right; rw [hy, show k = 160 by omega]
  · rw [if_neg c, clN hx]
    left
    refine ⟨by omega, ?_⟩
    have ft : ¬ p k → ∃ x0' x1' : Int32, G (x + Int32.ofInt 1) y = G x0' x1' ∧ x0'.toInt = ((k + 1 : Nat) : Int) ∧ x1'.toInt = (cnR p (k + 1) : Int) := fun h9 => ⟨_, _, rfl, i_s hx (by omega), by rw [cnR_f h9]; exact hy⟩
    have tt : p k → ∃ x0' x1' : Int32, G (x + Int32.ofInt 1) (y + Int32.ofInt 1) = G x0' x1' ∧ x0'.toInt = ((k + 1 : Nat) : Int) ∧ x1'.toInt = (cnR p (k + 1) : Int) := fun h9 => ⟨_, _, rfl, i_s hx (by omega), by rw [cnR_t h9]; exact i_s hy (by omega)⟩
    by_cases c1 : (A 26 k).toInt < 0
    · rw [if_pos c1]; exact ft (fun h9 => by have := pk.mp h9; omega)
    · rw [if_neg c1]
      by_cases c2 : (A 26 k).toInt < (A 26 s).toInt
      · rw [if_pos c2]; exact tt (pk.mpr ⟨by omega, Or.inl c2⟩)
      · rw [if_neg c2]
        by_cases c3 : (A 26 k).toInt = (A 26 s).toInt
        · rw [if_neg (fun h9 => h9 c3)]
          by_cases c4 : z.toInt ≤ x.toInt
          · rw [if_pos c4]; exact ft (fun h9 => by have := pk.mp h9; omega)
          · rw [if_neg c4]; exact tt (pk.mpr ⟨by omega, Or.inr ⟨c3, by omega⟩⟩)
        · rw [if_pos c3]; exact ft (fun h9 => by have := pk.mp h9; omega)
theorem m_rankR {J : Nat → Int32} {B : Nat → Nat → Int32} {L : Nat → Nat → Int64} {z : Int32} {s : Nat} (hz : z.toInt = (s : Int)) (hs : s < 160) : (fM12_rankOf J B L z).toInt = (cnR (aheadP (fun t => (B 24 t).toInt) (B 24 s).toInt s) 160 : Int) := by
  unfold fM12_rankOf
  obtain ⟨p, hp⟩ : ∃ p, p = aheadP (fun t => (B 24 t).toInt) (B 24 s).toInt s := ⟨_, rfl⟩
  rw [← hp]
  refine run_ii (Q := fun (w : Int32) => w.toInt = (cnR p 160 : Int)) 160 (fun k x y => x.toInt = (k : Int) ∧ y.toInt = (cnR p k : Int)) (fun G k x y hk hP => ?_) FU 0 0 0 ⟨rfl, rfl⟩ (by omega) (fu_lt (by omega))
  obtain ⟨hx, hy⟩ := hP
  have cl := cnR_le (p := p) k
  have pk : p k ↔ 0 ≤ (B 24 k).toInt ∧ ((B 24 k).toInt < (B 24 s).toInt ∨ ((B 24 k).toInt = (B 24 s).toInt ∧ k < s)) := by rw [hp]; exact Iff.rfl
  unfold bM12_rankOf_4
  dsimp only [f_lt]
  by_cases c : 160 ≤ x.toInt
  · rw [if_pos c]; right; rw [hy, show k = 160 by omega]
  · rw [if_neg c, clN hx, clN hz]
    left
    refine ⟨by omega, ?_⟩
    have ft : ¬ p k → ∃ x0' x1' : Int32, G (x + Int32.ofInt 1) y = G x0' x1' ∧ x0'.toInt = ((k + 1 : Nat) : Int) ∧ x1'.toInt = (cnR p (k + 1) : Int) := fun h9 => ⟨_, _, rfl, i_s hx (by omega), by rw [cnR_f h9]; exact hy⟩
    have tt : p k → ∃ x0' x1' : Int32, G (x + Int32.ofInt 1) (y + Int32.ofInt 1) = G x0' x1' ∧ x0'.toInt = ((k + 1 : Nat) : Int) ∧ x1'.toInt = (cnR p (k + 1) : Int) := fun h9 => ⟨_, _, rfl, i_s hx (by omega), by rw [cnR_t h9]; exact i_s hy (by omega)⟩
    by_cases c1 : (B 24 k).toInt < 0
    · rw [if_pos c1]; exact ft (fun h9 => by have := pk.mp h9; omega)
    · rw [if_neg c1]
      by_cases c2 : (B 24 k).toInt < (B 24 s).toInt
      · rw [if_pos c2]; exact tt (pk.mpr ⟨by omega, Or.inl c2⟩)
      · rw [if_neg c2]
        by_cases c3 : (B 24 k).toInt = (B 24 s).toInt
        · rw [if_neg (fun h9 => h9 c3)]
          by_cases c4 : z.toInt ≤ x.toInt
          · rw [if_pos c4]; exact ft (fun h9 => by have := pk.mp h9; omega)
          · rw [if_neg c4]; exact tt (pk.mpr ⟨by omega, Or.inr ⟨c3, by omega⟩⟩)
        · rw [if_pos c3]; exact ft (fun h9 => by have := pk.mp h9; omega)
/-- class and reference know the same of all places -/
def SAME (A B : Nat → Nat → Int32) : Prop := ∀ s, s < 160 → A 26 s = B 24 s
theorem SAME.rank {I J : Nat → Int32} {A B : Nat → Nat → Int32} {L : Nat → Nat → Int64} (h : SAME A B) {z : Int32} {s : Nat} (hz : z.toInt = (s : Int)) (hs : s < 160) : fX1_rankOf I A z = fM12_rankOf J B L z := by
  apply Int32.toInt_inj.mp
  rw [x_rankR hz hs, m_rankR hz hs]
  refine congrArg (fun n : Nat => (n : Int)) (cnR_cg 160 (fun i hi => ?_))
  unfold aheadP
  dsimp only
  rw [h i hi, h s hs]
section SCAN2
variable {I J : Nat → Int32} {A B : Nat → Nat → Int32} {M : Nat → Nat → Int64} {z : Int32}
theorem scan_eq (h : RA I A J B M) {q : Nat} {σ N nq : Nat} {ql : Nat → Nat} {qv : Nat → Nat → Int} (hx : XW I A (B 17) N nq ql qv) (hm : MW J B σ N nq ql qv) (hz : z.toInt = (q : Int)) (hq : q < nq) : ∃ (I' : Nat → Int32) (A' : Nat → Nat → Int32) (J' : Nat → Int32) (B' : Nat → Nat → Int32), fX1_scan I A z = (0, I', A') ∧ fM12_fillsFar J B M z = (0, J', B', M) ∧ Md [28, 30, 31, 32, 33, 34] I I' ∧ Md [21, 22, 23, 26] A A' ∧ Md [18, 19, 20] J J' ∧ Md [18, 19, 20, 21, 24] B B' ∧ (∀ k, k < 165 → B' 18 k = B 17 k) ∧ SAME A' B' ∧ ∀ s, s < 160 → fdR (B 17) N ql qv (B 17 161).toInt q s (A' 26 s).toInt := by
  have hs := hx.2.2.2.2.n
  obtain ⟨I1, A1, a1, a2, a3, a4⟩ := x_scan hx hz hq
  obtain ⟨J1, B1, b1, b2, b3, b4, b5⟩ := m_far (L := M) hm hs.2.2.2.2.2.2.1 hs.2.2.2.2.2.2.2.1 ⟨hs.2.2.2.2.1, by omega⟩ hz hq
  exact ⟨I1, A1, J1, B1, a1, b1, a2, a3, b2, b3, b4, fun s h9 => Int32.toInt_inj.mp ((a4 s h9).uq (b5 s h9)), a4⟩
end SCAN2
section ANS7
variable {I I' J J' : Nat → Int32} {A A' B B' : Nat → Nat → Int32} {M M' : Nat → Nat → Int64} {z z1 z2 z3 z4 v w : Int32}
theorem ans_rank (h : RA I A J B M) (_ : IvX I A) (_ : IvM J B) (eX : FE (fX11_rank I A z1 z2) (v, I', A')) (eM : FE (fM12_rank J B M z1 z2) (w, J', B', M')) : v = w := by
  have eX2 : fX11_rank I A z1 z2 = (v, I', A') := eX
  have eM2 : fM12_rank J B M z1 z2 = (w, J', B', M') := eM
  obtain ⟨σ, N, nq, ql, qv, hx, hm⟩ := h.xm
  unfold fX11_rank at eX2
  unfold fM12_rank at eM2
  rcases both_eq (L := M) hx hm (fun _ _ => rfl) z1 z2 with ⟨a, b⟩ | ⟨a, b, q, s, h1, h2, hq, hw⟩
  · rw [a, if_pos rfl] at eX2
    rw [b, if_pos rfl] at eM2
    cases eX2; cases eM2; rfl
  · obtain ⟨I1, A1, J1, B1, c1, c2, -, -, -, -, -, c8, -⟩ := scan_eq h hx hm h1 hq
    rw [a, if_neg (by decide), c1, bdX_mk, f_lt_eq] at eX2
    rw [b, if_neg (by decide), c2, bdM_mk, f_lt_eq] at eM2
    have hsb : s < 160 := by have := hw.1; have := hw.2.1; have := hx.1.1.2.1; omega
    rw [c8.rank (J := J1) (L := M) h2 hsb] at eX2
    cases eX2; cases eM2; rfl
theorem ans_kth (h : RA I A J B M) (_ : IvX I A) (_ : IvM J B) (eX : FE (fX11_kth I A z1 z2 z3) (v, I', A')) (eM : FE (fM12_kth J B M z1 z2 z3) (w, J', B', M')) : v = w := by
  have eX2 : fX11_kth I A z1 z2 z3 = (v, I', A') := eX
  have eM2 : fM12_kth J B M z1 z2 z3 = (w, J', B', M') := eM
  obtain ⟨σ, N, nq, ql, qv, hx, hm⟩ := h.xm
  have t0 : (0 : Int32).toInt = 0 := rfl
  have t1 : (1 : Int32).toInt = 1 := rfl
  unfold fX11_kth at eX2
  unfold fM12_kth at eM2
  rw [m_isQuery hm.2.1 hm.2.2.1 hm.2.2.2.1 hm.2.2.2.2.1, m_in, if10, if10] at eM2
  rw [x_hasQ hx.2.1 hx.2.2.1, if10] at eX2
  have no : (z2.toInt < 0 ∨ z3.toInt < 0 ∨ 1 < z3.toInt ∨ ¬ (0 ≤ z1.toInt ∧ z1.toInt < (nq : Int))) → v = -1 ∧ w = -1 := fun c => by
    constructor
    · by_cases c1 : z2.toInt < 0
      · rw [if_pos c1] at eX2; cases eX2; rfl
      · rw [if_neg c1] at eX2
        by_cases c2 : z3.toInt < 0
        · rw [if_pos c2] at eX2; cases eX2; rfl
        · rw [if_neg c2] at eX2
          by_cases c3 : 1 < z3.toInt
          · rw [if_pos c3] at eX2; cases eX2; rfl
          · rw [if_neg c3, if_neg (by omega)] at eX2; cases eX2; rfl
    · by_cases c0 : 0 ≤ z1.toInt ∧ z1.toInt < (nq : Int)
      · rw [if_pos c0] at eM2
        by_cases c1 : z2.toInt < 0
        · rw [if_pos c1] at eM2; cases eM2; rfl
        · rw [if_neg c1, if_neg (by omega)] at eM2; cases eM2; rfl
      · rw [if_neg c0] at eM2; cases eM2; rfl
  by_cases c : z2.toInt < 0 ∨ z3.toInt < 0 ∨ 1 < z3.toInt ∨ ¬ (0 ≤ z1.toInt ∧ z1.toInt < (nq : Int))
  · obtain ⟨p, q⟩ := no c
    rw [p, q]
  · have cq : 0 ≤ z1.toInt ∧ z1.toInt < (nq : Int) := by omega
    rw [if_neg (by omega), if_neg (by omega), if_neg (by omega), if_pos cq] at eX2
    rw [if_pos cq, if_neg (by omega), if_pos (show (0 : Int32).toInt ≤ z3.toInt ∧ z3.toInt ≤ (1 : Int32).toInt by omega)] at eM2
    obtain ⟨q, hq⟩ : ∃ q : Nat, z1.toInt = (q : Int) := ⟨z1.toInt.toNat, by omega⟩
    obtain ⟨I1, A1, J1, B1, c1, c2, -, -, -, -, -, c8, -⟩ := scan_eq h hx hm hq (by omega)
    rw [c1, bdX_mk, f_lt_eq] at eX2
    rw [c2, bdM_mk] at eM2
    -- the first place of that rank
    have hX : (fX1_windowOfRank I1 A1 z2 = -2 ∧ ∀ s, s < 160 → 0 ≤ (A1 26 s).toInt → (fX1_rankOf I1 A1 (nI s)).toInt ≠ z2.toInt) ∨ ∃ s, s < 160 ∧ fX1_windowOfRank I1 A1 z2 = nI s ∧ 0 ≤ (A1 26 s).toInt ∧ (fX1_rankOf I1 A1 (nI s)).toInt = z2.toInt ∧ ∀ t, t < s → 0 ≤ (A1 26 t).toInt → (fX1_rankOf I1 A1 (nI t)).toInt ≠ z2.toInt := by
      unfold fX1_windowOfRank
      refine run_i (Q := fun (u : Int32) => (u = -2 ∧ ∀ s, s < 160 → 0 ≤ (A1 26 s).toInt → (fX1_rankOf I1 A1 (nI s)).toInt ≠ z2.toInt) ∨ ∃ s, s < 160 ∧ u = nI s ∧ 0 ≤ (A1 26 s).toInt ∧ (fX1_rankOf I1 A1 (nI s)).toInt = z2.toInt ∧ ∀ t, t < s → 0 ≤ (A1 26 t).toInt → (fX1_rankOf I1 A1 (nI t)).toInt ≠ z2.toInt) 160 (fun k x => x.toInt = (k : Int) ∧ ∀ t, t < k → 0 ≤ (A1 26 t).toInt → (fX1_rankOf I1 A1 (nI t)).toInt ≠ z2.toInt) (fun G k x hk hP => ?_) FU 0 0 ⟨rfl, fun t h9 => by omega⟩ (by omega) (fu_lt (by omega))
      obtain ⟨hxk, hn⟩ := hP
      have ex : k ≤ 160 → x = nI k := fun _ => Int32.toInt_inj.mp (by rw [hxk, nI_toInt (by omega)])
      unfold bX1_windowOfRank_2
      dsimp only [f_lt]
      by_cases d : 160 ≤ x.toInt
      · rw [if_pos d]; right; left; exact ⟨rfl, fun s h9 => hn s (by omega)⟩
      · rw [if_neg d, clN hxk]
        by_cases d1 : (A1 26 k).toInt < 0
        · rw [if_pos d1]
          left
          refine ⟨by omega, _, rfl, i_s hxk (by omega), fun t h9 h8 => ?_⟩
          by_cases et : t = k
          · rw [et] at h8; omega
          · exact hn t (by omega) h8
        · rw [if_neg d1]
          by_cases d2 : (fX1_rankOf I1 A1 x).toInt = z2.toInt
          · rw [if_neg (fun h9 => h9 d2)]
            right; right
            exact ⟨k, by omega, ex hk, by omega, by rw [← ex hk]; exact d2, hn⟩
          · rw [if_pos d2]
            left
            refine ⟨by omega, _, rfl, i_s hxk (by omega), fun t h9 h8 => ?_⟩
            by_cases et : t = k
            · rw [et, ← ex hk]; exact d2
            · exact hn t (by omega) h8
    have hM : ∀ u : Int32 × (Nat → Int32) × (Nat → Nat → Int32) × (Nat → Nat → Int64), itr_i dfM (bM12_kth_31 J1 B1 M z2 z3) FU 0 = u → (u.1 = -2 ∧ ∀ s, s < 160 → 0 ≤ (A1 26 s).toInt → (fX1_rankOf I1 A1 (nI s)).toInt ≠ z2.toInt) ∨ ∃ s, s < 160 ∧ (u.1 = if z3.toInt ≠ 0 then B1 24 s else nI s) ∧ 0 ≤ (A1 26 s).toInt ∧ (fX1_rankOf I1 A1 (nI s)).toInt = z2.toInt ∧ ∀ t, t < s → 0 ≤ (A1 26 t).toInt → (fX1_rankOf I1 A1 (nI t)).toInt ≠ z2.toInt := by
      intro u hu
      rw [← hu]
      refine run_i (Q := fun (u : Int32 × (Nat → Int32) × (Nat → Nat → Int32) × (Nat → Nat → Int64)) => (u.1 = -2 ∧ ∀ s, s < 160 → 0 ≤ (A1 26 s).toInt → (fX1_rankOf I1 A1 (nI s)).toInt ≠ z2.toInt) ∨ ∃ s, s < 160 ∧ (u.1 = if z3.toInt ≠ 0 then B1 24 s else nI s) ∧ 0 ≤ (A1 26 s).toInt ∧ (fX1_rankOf I1 A1 (nI s)).toInt = z2.toInt ∧ ∀ t, t < s → 0 ≤ (A1 26 t).toInt → (fX1_rankOf I1 A1 (nI t)).toInt ≠ z2.toInt) 160 (fun k x => x.toInt = (k : Int) ∧ ∀ t, t < k → 0 ≤ (A1 26 t).toInt → (fX1_rankOf I1 A1 (nI t)).toInt ≠ z2.toInt) (fun G k x hk hP => ?_) FU 0 0 ⟨rfl, fun t h9 => by omega⟩ (by omega) (fu_lt (by omega))
      obtain ⟨hxk, hn⟩ := hP
      have ex : k ≤ 160 → x = nI k := fun _ => Int32.toInt_inj.mp (by rw [hxk, nI_toInt (by omega)])
      unfold bM12_kth_31
      dsimp only [f_lt]
      by_cases d : 160 ≤ x.toInt
      · rw [if_pos d]; right; left; exact ⟨rfl, fun s h9 => hn s (by omega)⟩
      · rw [if_neg d, clN hxk, ← c8 k (by omega), ← c8.rank (I := I1) (J := J1) (L := M) hxk (by omega)]
        by_cases d1 : (A1 26 k).toInt < 0
        · rw [if_pos d1]
          left
          refine ⟨by omega, _, rfl, i_s hxk (by omega), fun t h9 h8 => ?_⟩
          by_cases et : t = k
          · rw [et] at h8; omega
          · exact hn t (by omega) h8
        · rw [if_neg d1]
          by_cases d2 : (fX1_rankOf I1 A1 x).toInt = z2.toInt
          · rw [if_neg (fun h9 => h9 d2)]
            right; right
            refine ⟨k, by omega, ?_, by omega, by rw [← ex hk]; exact d2, hn⟩
            rw [c8 k (by omega), ← ex hk]
            split <;> rfl
          · rw [if_pos d2]
            left
            refine ⟨by omega, _, rfl, i_s hxk (by omega), fun t h9 h8 => ?_⟩
            by_cases et : t = k
            · rw [et, ← ex hk]; exact d2
            · exact hn t (by omega) h8
    have hM2 := hM _ eM2
    rcases hX with ⟨x1, x2⟩ | ⟨s, x1, x2, x3, x4, x5⟩
    · have mw : w = -2 := by
        rcases hM2 with ⟨m1, -⟩ | ⟨s, m1, -, m3, m4, -⟩
        · exact m1
        · exact absurd m4 (x2 s m1 m3)
      rw [x1] at eX2
      have sd : fX1_scannedDistance I1 A1 (-2) = -2 := by
        unfold fX1_scannedDistance
        rw [if_pos (by decide)]
      rw [f_lt_eq, sd] at eX2
      rw [mw]
      by_cases k0 : z3.toInt = 0
      · rw [if_neg (fun h9 => h9 k0)] at eX2; cases eX2; rfl
      · rw [if_pos k0] at eX2; cases eX2; rfl
    · have ms : w = if z3.toInt ≠ 0 then B1 24 s else nI s := by
        rcases hM2 with ⟨-, m2⟩ | ⟨s2, m1, m2, m3, m4, m5⟩
        · exact absurd x4 (m2 s x1 x3)
        · have es : s = s2 := by
            by_cases l1 : s < s2
            · exact absurd x4 (m5 s l1 x3)
            · by_cases l2 : s2 < s
              · exact absurd m4 (x5 s2 l2 m3)
              · omega
          rw [es]; exact m2
      have ns : (nI s).toInt = (s : Int) := nI_toInt (by omega)
      have sd : fX1_scannedDistance I1 A1 (nI s) = A1 26 s := by
        unfold fX1_scannedDistance
        rw [if_neg (by omega), if_neg (by omega), clN ns]
      rw [x2, f_lt_eq, sd] at eX2
      rw [ms]
      by_cases k0 : z3.toInt = 0
      · rw [if_neg (fun h9 => h9 k0)] at eX2 ⊢; cases eX2; rfl
      · rw [if_pos k0] at eX2 ⊢; cases eX2; exact c8 s x1
theorem ans_turns (h : RA I A J B M) (_ : IvX I A) (_ : IvM J B) (eX : FE (fX11_turns I A z) (v, I', A')) (eM : FE (fM12_turns J B M z) (w, J', B', M')) : v = w := by
  have eX2 : fX11_turns I A z = (v, I', A') := eX
  have eM2 : fM12_turns J B M z = (w, J', B', M') := eM
  obtain ⟨σ, N, nq, ql, qv, hx, hm⟩ := h.xm
  unfold fX11_turns at eX2
  unfold fM12_turns at eM2
  rw [m_isQuery hm.2.1 hm.2.2.1 hm.2.2.2.1 hm.2.2.2.2.1, if10] at eM2
  rw [x_hasQ hx.2.1 hx.2.2.1, if10] at eX2
  by_cases c : 0 ≤ z.toInt ∧ z.toInt < (nq : Int)
  · rw [if_pos c] at eX2 eM2
    obtain ⟨q, hq⟩ : ∃ q : Nat, z.toInt = (q : Int) := ⟨z.toInt.toNat, by omega⟩
    obtain ⟨I1, A1, J1, B1, c1, c2, -, -, -, -, -, c8, -⟩ := scan_eq h hx hm hq (by omega)
    rw [c1, bdX_mk, f_lt_eq] at eX2
    rw [c2, bdM_mk] at eM2
    -- both loops side by side
    have sim : ∀ (m k : Nat) (x fl la n : Int32), x.toInt = (k : Int) → k ≤ 160 → 160 - k < m → itr_iiii dfM (bM12_turns_25 J1 B1 M) m x n fl la = (itr_iiii (0 : Int32) (bX1_turnCount_9 I1 A1) m x fl la n, J1, B1, M) := by
      intro m
      induction m with
      | zero => intro k x fl la n _ _ h9; omega
      | succ m ih =>
        intro k x fl la n hxk hk hm9
        show bM12_turns_25 J1 B1 M (itr_iiii dfM (bM12_turns_25 J1 B1 M) m) x n fl la = (bX1_turnCount_9 I1 A1 (itr_iiii (0 : Int32) (bX1_turnCount_9 I1 A1) m) x fl la n, J1, B1, M)
        obtain ⟨GM, hGM⟩ : ∃ G, G = itr_iiii dfM (bM12_turns_25 J1 B1 M) m := ⟨_, rfl⟩
        obtain ⟨GX, hGX⟩ : ∃ G, G = itr_iiii (0 : Int32) (bX1_turnCount_9 I1 A1) m := ⟨_, rfl⟩
        rw [← hGM, ← hGX] at ih ⊢
        unfold bM12_turns_25 bX1_turnCount_9
        dsimp only [f_lt]
        by_cases d : 160 ≤ x.toInt
        · rw [if_pos d, if_pos d]
        · rw [if_neg d, if_neg d, clN hxk, ← c8 k (by omega)]
          have nx := fun fl la n => ih (k + 1) (x + Int32.ofInt 1) fl la n (i_s hxk (by omega)) (by omega) (by omega)
          by_cases d1 : 0 ≤ (A1 26 k).toInt
          · rw [if_pos d1, if_pos d1]
            by_cases d2 : la.toInt < 0
            · rw [if_pos d2, if_pos d2]; exact nx _ _ _
            · rw [if_neg d2, if_neg d2]
              by_cases d3 : la.toInt ≤ (A1 26 k).toInt
              · rw [if_pos d3, if_pos d3]
                by_cases d4 : (A1 26 k).toInt ≤ la.toInt
                · rw [if_pos d4, if_pos d4]; exact nx _ _ _
                · rw [if_neg d4, if_neg d4]
                  by_cases d5 : fl.toInt = 0
                  · rw [if_pos d5, if_pos d5, show n + 0 = n from Int32.add_zero n]; exact nx _ _ _
                  · rw [if_neg d5, if_neg d5]; exact nx _ _ _
              · rw [if_neg d3, if_neg d3, if_pos (by omega)]; exact nx _ _ _
          · rw [if_neg d1, if_neg d1]; exact nx _ _ _
    rw [sim FU 0 0 0 (-1) 0 rfl (by omega) (fu_lt (by omega))] at eM2
    cases eX2; cases eM2; rfl
  · rw [if_neg c] at eX2 eM2
    cases eX2; cases eM2; rfl
end ANS7
end
section
/-- is the DISTANCE below the limit? -/
theorem x_isLess {I : Nat → Int32} {A : Nat → Nat → Int32} {n : Nat} {b c : Int} {lf rt : Nat → Int} (h : TB I A n b c lf rt) (hn2 : 2 ≤ n) {z : Int32} {lim : Int} (hz : z.toInt = lim) : ∃ (y : Int32) (I' : Nat → Int32) (A' : Nat → Nat → Int32), fX2_isLess I A z = (y, I', A') ∧ Md [33, 34] I I' ∧ Md [23] A A' ∧ ((y.toInt = 1 ∧ dT b (cC c lf rt) n < lim ∧ (fX2_laidDistance I' A').toInt = dT b (cC c lf rt) n) ∨ (y.toInt = 0 ∧ lim ≤ dT b (cC c lf rt) n)) := by
  have e1 := x_ends h
  have de := dT_ends (b := b) h.2.2.1.1 h.cok hn2 h.1.2
  unfold fX2_isLess
  simp only [f_lt_eq]
  by_cases c1 : (fX2_endsBound I A).toInt < z.toInt
  · rw [if_pos c1]
    obtain ⟨I2, A2, t1, t2, t3, t4⟩ := x_table h hz
    rw [t1, bdX_mk]
    rcases t4 with ⟨w1, w2, w3, w4⟩ | ⟨i0, w1, w2, w3⟩
    · have ld := x_laid (I := I2) (A := A2) (by rw [t2 30 rfl]; exact h.2.1.1) h.1.1 h.1.2 h.2.2.1.1 w4
      rw [if_neg (fun h9 => h9 w2)]
      by_cases c4 : z.toInt ≤ (fX2_laidDistance I2 A2).toInt
      · rw [if_pos c4]; exact ⟨0, I2, A2, rfl, t2, t3, Or.inr ⟨rfl, by omega⟩⟩
      · rw [if_neg c4]; exact ⟨1, I2, A2, rfl, t2, t3, Or.inl ⟨rfl, by omega, ld⟩⟩
    · rw [if_pos (show (I2 34).toInt ≠ -2 by omega)]
      exact ⟨0, I2, A2, rfl, t2, t3, Or.inr ⟨rfl, dT_row h.2.2.1.1 h.cok w1.1 w1.2.2⟩⟩
  · rw [if_neg c1]
    exact ⟨0, I, A, rfl, Md.rf, Md.rf, Or.inr ⟨rfl, by omega⟩⟩
/-- what is known of a place, as a number -/
noncomputable def fB (r : Nat → Int32) (N : Nat) (ql : Nat → Nat) (qv : Nat → Nat → Int) (b : Int) (q s : Nat) : Int := @ite Int (wnR r N s (ql q)) (Classical.propDecidable _) (dQ r ql qv b q s) (-1)
theorem fB_t {r : Nat → Int32} {N : Nat} {ql : Nat → Nat} {qv : Nat → Nat → Int} {b : Int} {q s : Nat} (h : wnR r N s (ql q)) : fB r N ql qv b q s = dQ r ql qv b q s := if_pos h
theorem fB_f {r : Nat → Int32} {N : Nat} {ql : Nat → Nat} {qv : Nat → Nat → Int} {b : Int} {q s : Nat} (h : ¬ wnR r N s (ql q)) : fB r N ql qv b q s = -1 := if_neg h
theorem fdR.eq {r : Nat → Int32} {N : Nat} {ql : Nat → Nat} {qv : Nat → Nat → Int} {b : Int} {q s : Nat} {x : Int} (h : fdR r N ql qv b q s x) : x = fB r N ql qv b q s := by
  rcases h with ⟨a, e⟩ | ⟨a, e⟩
  · rw [fB_t a, e]
  · rw [fB_f a, e]
/-- the best so far -/
def bwR (f : Nat → Int) : Nat → Int
  | 0 => -2
  | k + 1 => if 0 ≤ f k ∧ (bwR f k < 0 ∨ f k < f (bwR f k).toNat) then (k : Int) else bwR f k
theorem bwR_ok {f : Nat → Int} : ∀ k, bwR f k = -2 ∨ (0 ≤ bwR f k ∧ bwR f k < (k : Int) ∧ 0 ≤ f (bwR f k).toNat) := by
  intro k
  induction k with
  | zero => exact Or.inl rfl
  | succ k ih =>
    have e : bwR f (k + 1) = if 0 ≤ f k ∧ (bwR f k < 0 ∨ f k < f (bwR f k).toNat) then (k : Int) else bwR f k := rfl
    by_cases c : 0 ≤ f k ∧ (bwR f k < 0 ∨ f k < f (bwR f k).toNat)
    · rw [e, if_pos c]
      right
      refine ⟨by omega, by omega, ?_⟩
      rw [show ((k : Int)).toNat = k by omega]; exact c.1
    · rw [e, if_neg c]
      rcases ih with h | ⟨h1, h2, h3⟩
      · exact Or.inl h
      · exact Or.inr ⟨h1, by omega, h3⟩
theorem bwR_s {f : Nat → Int} {k : Nat} (h : f k < 0) : bwR f (k + 1) = bwR f k := if_neg (fun h9 => by have := h9.1; omega)
theorem bwR_tail {f : Nat → Int} {k : Nat} : ∀ m, (∀ i, k ≤ i → i < k + m → f i < 0) → bwR f (k + m) = bwR f k := by
  intro m
  induction m with
  | zero => intro _; rfl
  | succ m ih =>
    intro h
    rw [← Nat.add_assoc, bwR_s (h (k + m) (by omega) (by omega))]
    exact ih (fun i h1 h2 => h i h1 (by omega))
theorem bwR_cg {f g : Nat → Int} : ∀ k, (∀ i, i < k → f i = g i) → bwR f k = bwR g k := by
  intro k
  induction k with
  | zero => intro _; rfl
  | succ k ih =>
    intro h
    have e := ih (fun i hi => h i (by omega))
    have o := bwR_ok (f := g) k
    show (if 0 ≤ f k ∧ (bwR f k < 0 ∨ f k < f (bwR f k).toNat) then (k : Int) else bwR f k) = if 0 ≤ g k ∧ (bwR g k < 0 ∨ g k < g (bwR g k).toNat) then (k : Int) else bwR g k
    rw [e, h k (by omega)]
    rcases o with o | ⟨o1, o2, -⟩
    · rw [o]
      by_cases c : 0 ≤ g k
      · rw [if_pos ⟨c, Or.inl (by omega)⟩, if_pos ⟨c, Or.inl (by omega)⟩]
      · rw [if_neg (fun h9 => c h9.1), if_neg (fun h9 => c h9.1)]
    · rw [h (bwR g k).toNat (by omega)]
theorem m_bestW {J : Nat → Int32} {B : Nat → Nat → Int32} {L : Nat → Nat → Int64} : (fM12_bestWindow J B L).toInt = bwR (fun s => (B 24 s).toInt) 160 := by
  unfold fM12_bestWindow
  obtain ⟨f, hf⟩ : ∃ f : Nat → Int, f = fun s => (B 24 s).toInt := ⟨_, rfl⟩
  have fv : ∀ s, f s = (B 24 s).toInt := fun s => by rw [hf]
  rw [← hf]
  refine run_ii (Q := fun (w : Int32) => w.toInt = bwR f 160) 160 (fun k x y => x.toInt = (k : Int) ∧ y.toInt = bwR f k) (fun G k x y hk hP => ?_) FU 0 0 (-2) ⟨rfl, rfl⟩ (by omega) (fu_lt (by omega))
  obtain ⟨hx, hy⟩ := hP
  have o := bwR_ok (f := f) k
  have e : bwR f (k + 1) = if 0 ≤ f k ∧ (bwR f k < 0 ∨ f k < f (bwR f k).toNat) then (k : Int) else bwR f k := rfl
  unfold bM12_bestWindow_5
  dsimp only [f_lt]
  by_cases c : 160 ≤ x.toInt
  · rw [if_pos c]; right; rw [hy, show k = 160 by omega]
  · rw [if_neg c, clN hx]
    left
    refine ⟨by omega, ?_⟩
    by_cases c1 : (B 24 k).toInt < 0
    · rw [if_pos c1]
      exact ⟨_, _, rfl, i_s hx (by omega), by rw [bwR_s (by rw [fv]; exact c1)]; exact hy⟩
    · rw [if_neg c1]
      by_cases c2 : y.toInt < 0
      · rw [if_pos c2]
        exact ⟨_, _, rfl, i_s hx (by omega), by rw [e, if_pos ⟨by rw [fv]; omega, Or.inl (by omega)⟩]; exact hx⟩
      · rw [if_neg c2]
        obtain ⟨u, hu⟩ : ∃ u : Nat, y.toInt = (u : Int) := ⟨y.toInt.toNat, by omega⟩
        have ub : (bwR f k).toNat = u := by omega
        rw [clN hu]
        by_cases c3 : (B 24 u).toInt ≤ (B 24 k).toInt
        · rw [if_pos c3]
          exact ⟨_, _, rfl, i_s hx (by omega), by rw [e, if_neg (fun h9 => by rw [ub, fv, fv] at h9; omega)]; exact hy⟩
        · rw [if_neg c3]
          exact ⟨_, _, rfl, i_s hx (by omega), by rw [e, if_pos ⟨by rw [fv]; omega, Or.inr (by rw [ub, fv, fv]; omega)⟩]; exact hx⟩
section BEST
variable {I J : Nat → Int32} {A B : Nat → Nat → Int32} {L : Nat → Nat → Int64} {r : Nat → Int32} {σ N nq : Nat} {ql : Nat → Nat} {qv : Nat → Nat → Int}
theorem fB_tail {b : Int} {q : Nat} : ∀ i, N ≤ i → fB r N ql qv b q i < 0 := fun i hi => by
  rw [fB_f (fun h9 => by have := h9.1; have := h9.2.1; omega)]; omega
theorem x_best (hx : XW I A r N nq ql qv) {z1 z2 : Int32} {q : Nat} {b : Int} (hz : z1.toInt = (q : Int)) (hq : q < nq) (hz2 : z2.toInt = b) (hb : 0 ≤ b ∧ b ≤ 1000) : ∃ (I' : Nat → Int32) (A' : Nat → Nat → Int32), fX1_findBest I A z1 z2 = (0, I', A') ∧ Md [28, 30, 31, 32, 33, 34, 35, 36] I I' ∧ Md [21, 22, 23] A A' ∧ (I' 35).toInt = bwR (fB r N ql qv b q) 160 ∧ (I' 36).toInt = (if bwR (fB r N ql qv b q) 160 < 0 then -2 else fB r N ql qv b q (bwR (fB r N ql qv b q) 160).toNat) := by
  obtain ⟨l1, l2, l3, -⟩ := hx.2.2.2.1 q hq
  have hN := hx.1.1.2.1
  have h18 := hx.1.2.1
  obtain ⟨f, hf⟩ : ∃ f, f = fB r N ql qv b q := ⟨_, rfl⟩
  have e160 : bwR f 160 = bwR f N := by
    have := bwR_tail (f := f) (k := N) (160 - N) (fun i h1 h2 => by rw [hf]; exact fB_tail i h1)
    rwa [show N + (160 - N) = 160 by omega] at this
  rw [← hf, e160]
  have hx0 := hx.mv (I' := upd (upd I 35 (-2)) 36 (-2)) (A' := A) rfl rfl rfl rfl rfl rfl rfl
  obtain ⟨I1, A1, a1, a2, a3, a4⟩ := x_openQ hx0 (z2 := z2) (b := b) hz hq hz2 hb.1
  unfold fX1_findBest
  rw [a1, bdX_mk]
  have m1 : Md [28, 30, 31, 32, 33, 34, 35, 36] I I1 := Md.tr (Md.up (Md.up Md.rf rfl) rfl) a2 rfl
  refine run_iiIA (Q := fun v => ∃ (I' : Nat → Int32) (A' : Nat → Nat → Int32), v = (0, I', A') ∧ Md [28, 30, 31, 32, 33, 34, 35, 36] I I' ∧ Md [21, 22, 23] A A' ∧ (I' 35).toInt = bwR f N ∧ (I' 36).toInt = (if bwR f N < 0 then -2 else f (bwR f N).toNat)) N (fun k x y I2 A2 => x.toInt = (k : Int) ∧ (y.toInt = if bwR f k < 0 then 2147483647 else f (bwR f k).toNat) ∧ Md [28, 30, 31, 32, 33, 34, 35, 36] I I2 ∧ Md [21, 22, 23] A A2 ∧ FL I2 A2 (ql q) b (r 163).toInt (lvl r (ql q) (qv q)) ∧ (I2 35).toInt = bwR f k ∧ (I2 36).toInt = (if bwR f k < 0 then -2 else f (bwR f k).toNat)) (fun G k x y I2 A2 hk hP => ?_) FU 0 0 2147483647 I1 A1 ⟨rfl, rfl, m1, Md.tr Md.rf a3 rfl, a4, by rw [a2 35 rfl]; rfl, by rw [a2 36 rfl]; rfl⟩ (by omega) (fu_lt (by omega))
  obtain ⟨hxk, hy, mI, mA, fl, h35, h36⟩ := hP
  have o := bwR_ok (f := f) k
  have e : bwR f (k + 1) = if 0 ≤ f k ∧ (bwR f k < 0 ∨ f k < f (bwR f k).toNat) then (k : Int) else bwR f k := rfl
  unfold bX1_findBest_27
  dsimp only [f_lt]
  by_cases c : (I 18).toInt ≤ x.toInt
  · rw [if_pos c]
    right
    have ek : k = N := by omega
    subst ek
    exact ⟨I2, A2, rfl, mI, mA, h35, h36⟩
  · rw [if_neg c]
    left
    refine ⟨by omega, ?_⟩
    have hx2 := hx.mv (I' := I2) (A' := A2) (mI 17 rfl) (mI 18 rfl) (mI 19 rfl) (mA 7 rfl) (mA 8 rfl) (mA 9 rfl) (mA 10 rfl)
    rw [x_len2 hx2.2.1 hx2.2.2.1 hz hq, ifp]
    show ∃ x' y' I' A', (if fX6_hasWindow I2 A2 x (A2 9 q) = 0 then _ else _) = G x' y' I' A' ∧ _
    rcases x_winQ hx2 hq hxk with ⟨ew, w⟩ | ⟨ew, w⟩
    · rw [ew, if_pos rfl]
      have fk : f k < 0 := by rw [hf, fB_f w]; omega
      refine ⟨_, _, _, _, rfl, i_s hxk (by omega), ?_, mI, mA, fl, ?_, ?_⟩
      · rw [bwR_s fk]; exact hy
      · rw [bwR_s fk]; exact h35
      · rw [bwR_s fk]; exact h36
    · rw [ew, if_neg (by decide)]
      have fk : f k = dQ r ql qv b q k := by rw [hf, fB_t w]
      have db := dQ_b hx hq w hb.1
      obtain ⟨A3, b1, b2, b3⟩ := x_secW hx2 hxk fl.1 fl.2.1 l3 w
      rw [b1, bdX_mk]
      have fl3 : FL I2 A3 (ql q) b (r 163).toInt (lvl r (ql q) (qv q)) := ⟨fl.1, fl.2.1, fl.2.2.1, fl.2.2.2.1, fun i hi => by rw [b2 21 rfl]; exact fl.2.2.2.2 i hi⟩
      have hx3 := hx2.mv (I' := I2) (A' := A3) rfl rfl rfl (b2 7 rfl) (b2 8 rfl) (b2 9 rfl) (b2 10 rfl)
      obtain ⟨u, I4, A4, d1, d2, d3, d4⟩ := x_isLess (x_TB hx3 hq w hb fl3 b3) l2 (z := y) rfl
      rw [d1, bdX_mk]
      have fl4 : FL I4 A4 (ql q) b (r 163).toInt (lvl r (ql q) (qv q)) := ⟨by rw [d2 28 rfl]; exact fl.1, by rw [d2 30 rfl]; exact fl.2.1, by rw [d2 31 rfl]; exact fl.2.2.1, by rw [d2 32 rfl]; exact fl.2.2.2.1, fun i hi => by rw [d3 21 rfl]; exact fl3.2.2.2.2 i hi⟩
      have mI4 : Md [28, 30, 31, 32, 33, 34, 35, 36] I I4 := Md.tr mI d2 rfl
      have mA4 : Md [21, 22, 23] A A4 := Md.tr (Md.tr mA b2 rfl) d3 rfl
      have dd : dT b (cC (r 163).toInt (lvl r (ql q) (qv q)) (lvl r (ql q) (gW r k))) (ql q) = f k := by rw [fk]; rfl
      rw [dd] at d4
      rcases d4 with ⟨u1, u2, u3⟩ | ⟨u1, u2⟩
      · rw [if_neg (by omega)]
        have cc : 0 ≤ f k ∧ (bwR f k < 0 ∨ f k < f (bwR f k).toNat) := by
          refine ⟨by omega, ?_⟩
          by_cases cb : bwR f k < 0
          · exact Or.inl cb
          · rw [if_neg cb] at hy; exact Or.inr (by omega)
        have e2 : bwR f (k + 1) = (k : Int) := by rw [e, if_pos cc]
        refine ⟨_, _, _, _, rfl, i_s hxk (by omega), ?_, Md.up (Md.up mI4 rfl) rfl, mA4, ⟨fl4.1, fl4.2.1, fl4.2.2.1, fl4.2.2.2.1, fl4.2.2.2.2⟩, ?_, ?_⟩
        · rw [e2, if_neg (by omega), show ((k : Int)).toNat = k by omega]; exact u3
        · rw [e2]; exact hxk
        · rw [e2, if_neg (by omega), show ((k : Int)).toNat = k by omega]; exact u3
      · rw [if_pos u1]
        have cc : ¬ (0 ≤ f k ∧ (bwR f k < 0 ∨ f k < f (bwR f k).toNat)) := fun h9 => by
          by_cases cb : bwR f k < 0
          · rw [if_pos cb] at hy; omega
          · rw [if_neg cb] at hy
            rcases h9.2 with h8 | h8 <;> omega
        have e2 : bwR f (k + 1) = bwR f k := by rw [e, if_neg cc]
        refine ⟨_, _, _, _, rfl, i_s hxk (by omega), ?_, mI4, mA4, fl4, ?_, ?_⟩
        · rw [e2]; exact hy
        · rw [e2, d2 35 rfl]; exact h35
        · rw [e2, d2 36 rfl]; exact h36
end BEST
section ANS8
variable {I I' J J' : Nat → Int32} {A A' B B' : Nat → Nat → Int32} {M M' : Nat → Nat → Int64} {z z1 z2 z3 z4 v w : Int32}
theorem ans_best (h : RA I A J B M) (_ : IvX I A) (_ : IvM J B) (eX : FE (fX11_best I A z1 z2) (v, I', A')) (eM : FE (fM12_best J B M z1 z2) (w, J', B', M')) : v = w := by
  have eX2 : fX11_best I A z1 z2 = (v, I', A') := eX
  have eM2 : fM12_best J B M z1 z2 = (w, J', B', M') := eM
  obtain ⟨σ, N, nq, ql, qv, hx, hm⟩ := h.xm
  have hs := hx.2.2.2.2.n
  have t0 : (0 : Int32).toInt = 0 := rfl
  have t1 : (1 : Int32).toInt = 1 := rfl
  unfold fX11_best at eX2
  unfold fM12_best at eM2
  rw [m_isQuery hm.2.1 hm.2.2.1 hm.2.2.2.1 hm.2.2.2.2.1, m_in, if10, if10] at eM2
  rw [x_hasQ hx.2.1 hx.2.2.1, if10] at eX2
  have no : (z2.toInt < 0 ∨ 1 < z2.toInt ∨ ¬ (0 ≤ z1.toInt ∧ z1.toInt < (nq : Int))) → v = -1 ∧ w = -1 := fun c => by
    constructor
    · by_cases c1 : z2.toInt < 0
      · rw [if_pos c1] at eX2; cases eX2; rfl
      · rw [if_neg c1] at eX2
        by_cases c2 : 1 < z2.toInt
        · rw [if_pos c2] at eX2; cases eX2; rfl
        · rw [if_neg c2, if_neg (by omega)] at eX2; cases eX2; rfl
    · by_cases c0 : 0 ≤ z1.toInt ∧ z1.toInt < (nq : Int)
      · rw [if_pos c0, if_neg (by omega)] at eM2; cases eM2; rfl
      · rw [if_neg c0] at eM2; cases eM2; rfl
  by_cases c : z2.toInt < 0 ∨ 1 < z2.toInt ∨ ¬ (0 ≤ z1.toInt ∧ z1.toInt < (nq : Int))
  · obtain ⟨p, q⟩ := no c
    rw [p, q]
  · have cq : 0 ≤ z1.toInt ∧ z1.toInt < (nq : Int) := by omega
    obtain ⟨q, hq⟩ : ∃ q : Nat, z1.toInt = (q : Int) := ⟨z1.toInt.toNat, by omega⟩
    obtain ⟨I1, A1, a1, -, -, a4, a5⟩ := x_best hx (z2 := A 10 0) hq (by omega) hs.1 ⟨hs.2.2.2.2.1, by omega⟩
    obtain ⟨J1, B1, b1, -, -, -, b5⟩ := m_far (L := M) hm hs.2.2.2.2.2.2.1 hs.2.2.2.2.2.2.2.1 ⟨hs.2.2.2.2.1, by omega⟩ hq (by omega)
    rw [if_neg (by omega), if_neg (by omega), if_pos cq, f_lt_eq, x_vOf (z := 0) (k := 0) rfl (by omega), a1, bdX_mk] at eX2
    rw [if_pos cq, if_pos (show (0 : Int32).toInt ≤ z2.toInt ∧ z2.toInt ≤ (1 : Int32).toInt by omega), b1, bdM_mk, f_lt_eq] at eM2
    have fe : ∀ s, s < 160 → (B1 24 s).toInt = fB (B 17) N ql qv (B 17 161).toInt q s := fun s h9 => (b5 s h9).eq
    have bw := m_bestW (J := J1) (B := B1) (L := M)
    rw [bwR_cg (g := fB (B 17) N ql qv (B 17 161).toInt q) 160 fe] at bw
    have ok := bwR_ok (f := fB (B 17) N ql qv (B 17 161).toInt q) 160
    rcases ok with ok | ⟨o1, o2, -⟩
    · rw [ok] at a4 a5 bw
      rw [if_pos (by omega)] at a5
      rw [if_pos (by omega)] at eM2
      cases eM2
      by_cases k0 : z2.toInt = 0
      · rw [if_neg (fun h9 => h9 k0)] at eX2; cases eX2; exact Int32.toInt_inj.mp (by omega)
      · rw [if_pos k0] at eX2; cases eX2; exact Int32.toInt_inj.mp (by omega)
    · rw [if_neg (by omega)] at a5
      rw [if_neg (by omega)] at eM2
      by_cases k0 : z2.toInt = 0
      · rw [if_neg (fun h9 => h9 k0)] at eX2 eM2
        cases eX2; cases eM2
        exact Int32.toInt_inj.mp (by omega)
      · rw [if_pos k0] at eX2 eM2
        obtain ⟨u, hu⟩ : ∃ u : Nat, (fM12_bestWindow J1 B1 M).toInt = (u : Int) := ⟨(fM12_bestWindow J1 B1 M).toInt.toNat, by omega⟩
        rw [clN hu] at eM2
        cases eX2; cases eM2
        apply Int32.toInt_inj.mp
        rw [a5, fe u (by omega), show (bwR (fB (B 17) N ql qv (B 17 161).toInt q) 160).toNat = u by omega]
end ANS8
/-- beyond a QUERY's length a wider band changes nothing -/
theorem tT_big {b b' : Int} {C : Nat → Nat → Int} {n : Nat} (h : (n : Int) - 1 ≤ b) (h' : (n : Int) - 1 ≤ b') : ∀ i, i < n → ∀ j, j < n → tT b C i j = tT b' C i j := by
  intro i
  induction i with
  | zero =>
    intro hi j
    induction j with
    | zero => intro hj; rw [tT_in (by unfold inB; omega), tT_in (by unfold inB; omega)]
    | succ j ih =>
      intro hj
      rw [tT_in (by unfold inB; omega), tT_in (by unfold inB; omega)]
      show m2 2000000000 (m2 2000000000 (tT b C 0 j)) + C 0 (j + 1) = m2 2000000000 (m2 2000000000 (tT b' C 0 j)) + C 0 (j + 1)
      rw [ih (by omega)]
  | succ i ih =>
    intro hi j
    induction j with
    | zero =>
      intro hj
      rw [tT_in (by unfold inB; omega), tT_in (by unfold inB; omega)]
      show tT b C i 0 + C (i + 1) 0 = tT b' C i 0 + C (i + 1) 0
      rw [ih (by omega) 0 hj]
    | succ j ihj =>
      intro hj
      rw [tT_in (by unfold inB; omega), tT_in (by unfold inB; omega)]
      show m2 (tT b C i j) (m2 (tT b C i (j + 1)) (tT b C (i + 1) j)) + C (i + 1) (j + 1) = m2 (tT b' C i j) (m2 (tT b' C i (j + 1)) (tT b' C (i + 1) j)) + C (i + 1) (j + 1)
      rw [ih (by omega) j (by omega), ih (by omega) (j + 1) hj, ihj (by omega)]
theorem fB_big {r : Nat → Int32} {N : Nat} {ql : Nat → Nat} {qv : Nat → Nat → Int} {b b' : Int} {q : Nat} (hl : 1 ≤ ql q) (h : (ql q : Int) - 1 ≤ b) (h' : (ql q : Int) - 1 ≤ b') : ∀ s, fB r N ql qv b q s = fB r N ql qv b' q s := fun s => by
  by_cases w : wnR r N s (ql q)
  · rw [fB_t w, fB_t w]
    exact tT_big h h' (ql q - 1) (by omega) (ql q - 1) (by omega)
  · rw [fB_f w, fB_f w]
theorem rows_cg {f g : Nat → Int} (h0 : f 0 = g 0) : ∀ n, (∀ i, i < n → f i = g i) → sI f n = sI g n ∧ mnG f n = mnG g n ∧ mxI f n = mxI g n := by
  intro n
  induction n with
  | zero => intro _; exact ⟨rfl, h0, h0⟩
  | succ n ih =>
    intro h
    obtain ⟨i1, i2, i3⟩ := ih (fun i hi => h i (by omega))
    have e := h n (by omega)
    refine ⟨?_, ?_, ?_⟩
    · show sI f n + f n = sI g n + g n
      rw [i1, e]
    · show (if f n < mnG f n then f n else mnG f n) = if g n < mnG g n then g n else mnG g n
      rw [i2, e]
    · show (if mxI f n < f n then f n else mxI f n) = if mxI g n < g n then g n else mxI g n
      rw [i3, e]
theorem lvS_cg {k : Int} {n : Nat} {f g : Nat → Int} (hn : 1 ≤ n) (h : ∀ i, i < n → f i = g i) {i : Nat} (hi : i < n) : lvS k n f i = lvS k n g i := by
  obtain ⟨i1, i2, i3⟩ := rows_cg (h 0 (by omega)) n h
  unfold lvS
  rw [i1, i2, i3, h i hi, h 0 (by omega)]
theorem tT_cg {b : Int} {C D : Nat → Nat → Int} {n : Nat} (ec : ∀ i j, i < n → j < n → C i j = D i j) : ∀ i, i < n → ∀ j, j < n → tT b C i j = tT b D i j := by
  intro i
  induction i with
  | zero =>
    intro hi j
    induction j with
    | zero =>
      intro hj
      by_cases c : inB b 0 0
      · rw [tT_in c, tT_in c, ec 0 0 hi hj]
      · rw [tT_out c, tT_out c]
    | succ j ihj =>
      intro hj
      by_cases c : inB b 0 (j + 1)
      · rw [tT_in c, tT_in c, ec 0 (j + 1) hi hj]
        show m2 2000000000 (m2 2000000000 (tT b C 0 j)) + _ = m2 2000000000 (m2 2000000000 (tT b D 0 j)) + _
        rw [ihj (by omega)]
      · rw [tT_out c, tT_out c]
  | succ i ih =>
    intro hi j
    induction j with
    | zero =>
      intro hj
      by_cases c : inB b (i + 1) 0
      · rw [tT_in c, tT_in c, ec (i + 1) 0 hi hj]
        show tT b C i 0 + _ = tT b D i 0 + _
        rw [ih (by omega) 0 hj]
      · rw [tT_out c, tT_out c]
    | succ j ihj =>
      intro hj
      by_cases c : inB b (i + 1) (j + 1)
      · rw [tT_in c, tT_in c, ec (i + 1) (j + 1) hi hj]
        show m2 (tT b C i j) (m2 (tT b C i (j + 1)) (tT b C (i + 1) j)) + _ = m2 (tT b D i j) (m2 (tT b D i (j + 1)) (tT b D (i + 1) j)) + _
        rw [ih (by omega) j (by omega), ih (by omega) (j + 1) hj, ihj (by omega)]
      · rw [tT_out c, tT_out c]
theorem csT_cg {c c' a a' b b' : Int} (h1 : c = c') (h2 : a = a') (h3 : b = b') : csT c a b = csT c' a' b' := by rw [h1, h2, h3]
theorem fB_cg {r r' : Nat → Int32} {N : Nat} {ql : Nat → Nat} {qv : Nat → Nat → Int} {b : Int} {q : Nat} (hN : N ≤ 160) (hr : ∀ k, k < 165 → k ≠ 161 → r' k = r k) : ∀ s, fB r' N ql qv b q s = fB r N ql qv b q s := fun s => by
  have h162 : r' 162 = r 162 := hr 162 (by omega) (by omega)
  have h163 : r' 163 = r 163 := hr 163 (by omega) (by omega)
  by_cases w : wnR r N s (ql q)
  · have w' : wnR r' N s (ql q) := ⟨w.1, w.2.1, fun j hj => by rw [hr (1 + (s + j)) (by have := w.2.1; omega) (by have := w.2.1; omega)]; exact w.2.2 j hj⟩
    rw [fB_t w, fB_t w']
    have eg : ∀ i, i < ql q → gW r' s i = gW r s i := fun i hi => congrArg Int32.toInt (hr (1 + (s + i)) (by have := w.2.1; omega) (by have := w.2.1; omega))
    have el : ∀ i, i < ql q → lvl r' (ql q) (gW r' s) i = lvl r (ql q) (gW r s) i := fun i hi => by
      unfold lvl
      rw [h162]
      exact lvS_cg w.1 eg hi
    have eq : ∀ i, lvl r' (ql q) (qv q) i = lvl r (ql q) (qv q) i := fun i => by
      unfold lvl
      rw [h162]
    have e3 : (r' 163).toInt = (r 163).toInt := congrArg Int32.toInt h163
    unfold dQ dT
    exact tT_cg (n := ql q) (fun i j hi hj => csT_cg e3 (eq i) (el j hj)) (ql q - 1) (by have := w.1; omega) (ql q - 1) (by have := w.1; omega)
  · have w' : ¬ wnR r' N s (ql q) := fun h9 => w ⟨h9.1, h9.2.1, fun j hj => by
      have := h9.2.2 j hj
      rw [hr (1 + (s + j)) (by have := h9.2.1; omega) (by have := h9.2.1; omega)] at this
      exact this⟩
    rw [fB_f w, fB_f w']
end
section
section NEEDS
variable {I J : Nat → Int32} {A B : Nat → Nat → Int32} {L : Nat → Nat → Int64} {r : Nat → Int32} {σ N nq : Nat} {ql : Nat → Nat} {qv : Nat → Nat → Int}
/-- the least band by which s is the best one -/
def NB (W : Int → Int) (n : Nat) (s v : Int) : Prop := (v = -2 ∧ ∀ b : Nat, b < n → W (b : Int) ≠ s) ∨ ∃ b0 : Nat, b0 < n ∧ v = (b0 : Int) ∧ W (b0 : Int) = s ∧ ∀ b : Nat, b < b0 → W (b : Int) ≠ s
theorem NB.uq {W : Int → Int} {n m : Nat} {s v v' : Int} (hn : 1 ≤ n) (hnm : n ≤ m) (hW : ∀ b : Nat, n - 1 ≤ b → W (b : Int) = W ((n - 1 : Nat) : Int)) (h : NB W n s v) (h' : NB W m s v') : v = v' := by
  rcases h with ⟨a1, a2⟩ | ⟨b0, a1, a2, a3, a4⟩
  · rcases h' with ⟨d1, d2⟩ | ⟨c0, d1, d2, d3, d4⟩
    · omega
    · exfalso
      by_cases c : c0 < n
      · exact a2 c0 c d3
      · have := hW c0 (by omega)
        exact a2 (n - 1) (by omega) (by rw [← this]; exact d3)
  · rcases h' with ⟨d1, d2⟩ | ⟨c0, d1, d2, d3, d4⟩
    · exact absurd a3 (d2 b0 (by omega))
    · have e : b0 = c0 := by
        by_cases l1 : b0 < c0
        · exact absurd a3 (d4 b0 l1)
        · by_cases l2 : c0 < b0
          · exact absurd d3 (a4 c0 l2)
          · omega
      omega
/-- the same, of the bands from lo on -/
def NBp (W : Int → Int) (lo : Nat) (s v : Int) : Prop := (v = -2 ∧ ∀ b : Nat, lo ≤ b → b < 16 → W (b : Int) ≠ s) ∨ ∃ b0 : Nat, lo ≤ b0 ∧ b0 < 16 ∧ v = (b0 : Int) ∧ W (b0 : Int) = s ∧ ∀ b : Nat, lo ≤ b → b < b0 → W (b : Int) ≠ s
theorem NBp.i {W : Int → Int} {s v : Int} {lo : Nat} (hl : 16 ≤ lo) (hv : v = -2) : NBp W lo s v := Or.inl ⟨hv, fun b h1 h2 => by omega⟩
theorem NBp.f {W : Int → Int} {s v : Int} {lo : Nat} (h : NBp W (lo + 1) s v) (hn : W (lo : Int) ≠ s) : NBp W lo s v := by
  rcases h with ⟨a, d⟩ | ⟨b0, a1, a2, a3, a4, a5⟩
  · refine Or.inl ⟨a, fun b h1 h2 => ?_⟩
    by_cases e : b = lo
    · rw [e]; exact hn
    · exact d b (by omega) h2
  · refine Or.inr ⟨b0, by omega, a2, a3, a4, fun b h1 h2 => ?_⟩
    by_cases e : b = lo
    · rw [e]; exact hn
    · exact a5 b (by omega) h2
theorem NBp.t {W : Int → Int} {s v : Int} {lo : Nat} (hl : lo < 16) (hv : v = (lo : Int)) (h : W (lo : Int) = s) : NBp W lo s v := Or.inr ⟨lo, Nat.le_refl lo, hl, hv, h, fun b h1 h2 => by omega⟩
theorem NBp.e {W : Int → Int} {s v : Int} (h : NBp W 0 s v) : NB W 16 s v := by
  rcases h with ⟨a, d⟩ | ⟨b0, a1, a2, a3, a4, a5⟩
  · exact Or.inl ⟨a, fun b h1 => d b (by omega) h1⟩
  · exact Or.inr ⟨b0, a2, a3, a4, fun b h1 => a5 b (by omega) h1⟩
theorem x_needs (hx : XW I A r N nq ql qv) {z1 z2 : Int32} {q : Nat} {W : Int → Int} (hW : ∀ b, bwR (fB r N ql qv b q) 160 = W b) (hz : z1.toInt = (q : Int)) (hq : q < nq) : ∃ (v : Int32) (I' : Nat → Int32) (A' : Nat → Nat → Int32), fX1_neededBand I A z1 z2 = (v, I', A') ∧ NB W (ql q) z2.toInt v.toInt := by
  obtain ⟨l1, l2, l3, -⟩ := hx.2.2.2.1 q hq
  unfold fX1_neededBand
  refine run_iIA (Q := fun u => ∃ (v : Int32) (I' : Nat → Int32) (A' : Nat → Nat → Int32), u = (v, I', A') ∧ NB W (ql q) z2.toInt v.toInt) (ql q) (fun k x I1 A1 => x.toInt = (k : Int) ∧ Md [28, 30, 31, 32, 33, 34, 35, 36] I I1 ∧ Md [21, 22, 23] A A1 ∧ ∀ b : Nat, b < k → W (b : Int) ≠ z2.toInt) (fun G k x I1 A1 hk hP => ?_) FU 0 0 I A ⟨rfl, Md.rf, Md.rf, fun b hb => by omega⟩ (by omega) (fu_lt (by omega))
  obtain ⟨hxk, mI, mA, hn⟩ := hP
  have hx1 := hx.mv (I' := I1) (A' := A1) (mI 17 rfl) (mI 18 rfl) (mI 19 rfl) (mA 7 rfl) (mA 8 rfl) (mA 9 rfl) (mA 10 rfl)
  unfold bX1_neededBand_2
  dsimp only [f_lt]
  rw [x_len2 hx1.2.1 hx1.2.2.1 hz hq, ifp, mA 9 rfl]
  show (_ ∧ ∃ x' I' A', (if (A 9 q).toInt ≤ x.toInt then _ else _) = G x' I' A' ∧ _) ∨ ∃ v I' A', (if (A 9 q).toInt ≤ x.toInt then _ else _) = (v, I', A') ∧ _
  by_cases c : (A 9 q).toInt ≤ x.toInt
  · rw [if_pos c]
    right
    exact ⟨_, _, _, rfl, Or.inl ⟨rfl, fun b hb => hn b (by omega)⟩⟩
  · rw [if_neg c]
    obtain ⟨I2, A2, a1, a2, a3, a4, -⟩ := x_best hx1 (z2 := x) hz hq hxk ⟨by omega, by omega⟩
    rw [hW] at a4
    rw [a1, bdX_mk]
    by_cases c2 : (I2 35).toInt = z2.toInt
    · rw [if_neg (fun h9 => h9 c2)]
      right
      exact ⟨_, _, _, rfl, Or.inr ⟨k, by omega, hxk, a4.symm.trans c2, hn⟩⟩
    · rw [if_pos c2]
      left
      refine ⟨by omega, _, _, _, rfl, i_s hxk (by omega), Md.tr mI a2 rfl, Md.tr mA a3 rfl, fun b hb => ?_⟩
      by_cases e : b = k
      · rw [e]; exact fun h9 => c2 (a4.trans h9)
      · exact hn b (by omega)
theorem m_needs (hm : MW J B σ N nq ql qv) (hk0 : 0 ≤ (B 17 162).toInt) (hk3 : (B 17 162).toInt ≤ 3) {z1 z2 : Int32} {q : Nat} {W : Int → Int} (hW : ∀ b, bwR (fB (B 17) N ql qv b q) 160 = W b) (hz : z1.toInt = (q : Int)) (hq : q < nq) : ∃ (v : Int32) (J' : Nat → Int32) (B' : Nat → Nat → Int32), itr_iiIAL dfM (bM12_needs_28 B z1 z2) FU 15 (-2) J B L = (v, J', B', L) ∧ NB W 16 z2.toInt v.toInt := by
  have hN := hm.1.2.1
  refine run_iiIAL (Q := fun u => ∃ (v : Int32) (J' : Nat → Int32) (B' : Nat → Nat → Int32), u = (v, J', B', L) ∧ NB W 16 z2.toInt v.toInt) 16 (fun k x y J1 B1 L1 => x.toInt = 15 - (k : Int) ∧ L1 = L ∧ Md [18, 19, 20] J J1 ∧ Md [17, 18, 19, 20, 21, 24] B B1 ∧ (∀ j, j ≠ 161 → B1 17 j = B 17 j) ∧ NBp W (16 - k) z2.toInt y.toInt) (fun G k x y J1 B1 L1 hk hP => ?_) FU 0 15 (-2) J B L ⟨rfl, rfl, Md.rf, Md.rf, fun _ _ => rfl, NBp.i (by omega) rfl⟩ (by omega) (fu_lt (by omega))
  obtain ⟨hxk, eL, mJ, mB, h17, hy⟩ := hP
  unfold bM12_needs_28
  dsimp only [f_lt]
  by_cases c : x.toInt < 0
  · rw [if_pos c]
    right
    have ek : k = 16 := by omega
    subst ek
    exact ⟨_, _, _, by rw [eL], hy.e⟩
  · rw [if_neg c]
    obtain ⟨B2, hB2⟩ : ∃ B2, B2 = up3 B1 17 161 x := ⟨_, rfl⟩
    rw [← hB2]
    have h17b : ∀ j, j ≠ 161 → B2 17 j = B 17 j := fun j hj => by rw [hB2, up3_ne hj]; exact h17 j hj
    have h161 : B2 17 161 = x := by rw [hB2]; exact up3_at rfl
    have mB2 : Md [17, 18, 19, 20, 21, 24] B B2 := by rw [hB2]; exact Md.up3 mB rfl
    have hm2 : MW J1 B2 σ N nq ql qv := by
      obtain ⟨⟨r0, r1, r2⟩, g1, g2, g3, g4, g5⟩ := hm
      refine ⟨⟨by rw [h17b 0 (by decide)]; exact r0, r1, fun i hi => ?_⟩, by rw [mJ 15 rfl]; exact g1, g2, by rw [mB2 10 rfl]; exact g3, g4, ?_⟩
      · rw [h17b (1 + i) (by omega)]; exact r2 i hi
      · rw [mB2 11 rfl, mB2 12 rfl]; exact g5
    obtain ⟨J3, B3, b1, b2, b3, b4, b5⟩ := m_far (L := L1) hm2 (by rw [h17b 162 (by decide)]; exact hk0) (by rw [h17b 162 (by decide)]; exact hk3) (by rw [h161]; omega) hz hq
    rw [b1, bdM_mk]
    have kn : ((15 - k : Nat) : Int) = x.toInt := by omega
    have bw : (fM12_bestWindow J3 B3 L1).toInt = W ((15 - k : Nat) : Int) := (m_bestW (J := J3) (B := B3) (L := L1)).trans ((bwR_cg 160 (fun s h9 => by
      have e := (b5 s h9).eq
      rw [h161, ← kn, fB_cg (r := B 17) hN (fun j h1 h2 => h17b j h2)] at e
      exact e)).trans (hW _))
    left
    have ex : x + Int32.ofInt (-1) = x - 1 := i_m1 hxk (by omega) (by omega)
    have x1 := i32_sub (x := x) (y := 1) (b := 1) rfl hxk rfl (by omega) (by omega)
    have x2 : (x - 1).toInt = 15 - ((k + 1 : Nat) : Int) := by omega
    have lo : 16 - k = 16 - (k + 1) + 1 := by omega
    have lk : 15 - k = 16 - (k + 1) := by omega
    have mJ3 : Md [18, 19, 20] J J3 := Md.tr mJ b2 rfl
    have mB3 : Md [17, 18, 19, 20, 21, 24] B B3 := Md.tr mB2 b3 rfl
    have q17 : ∀ j, j ≠ 161 → B3 17 j = B 17 j := fun j hj => by rw [b3 17 rfl]; exact h17b j hj
    rw [lk] at bw kn
    rw [lo] at hy
    refine ⟨by omega, ?_⟩
    by_cases c2 : (fM12_bestWindow J3 B3 L1).toInt = z2.toInt
    · rw [if_neg (fun h9 => h9 c2), ex]
      exact ⟨_, _, _, _, _, rfl, x2, eL, mJ3, mB3, q17, NBp.t (by omega) kn.symm (bw.symm.trans c2)⟩
    · rw [if_pos c2, ex]
      exact ⟨_, _, _, _, _, rfl, x2, eL, mJ3, mB3, q17, hy.f (fun h9 => c2 (bw.trans h9))⟩
end NEEDS
section ANS9
variable {I I' J J' : Nat → Int32} {A A' B B' : Nat → Nat → Int32} {M M' : Nat → Nat → Int64} {z z1 z2 z3 z4 v w : Int32}
theorem ans_needs (h : RA I A J B M) (_ : IvX I A) (_ : IvM J B) (eX : FE (fX11_needs I A z1 z2) (v, I', A')) (eM : FE (fM12_needs J B M z1 z2) (w, J', B', M')) : v = w := by
  have eX2 : fX11_needs I A z1 z2 = (v, I', A') := eX
  have eM2 : fM12_needs J B M z1 z2 = (w, J', B', M') := eM
  obtain ⟨σ, N, nq, ql, qv, hx, hm⟩ := h.xm
  have hs := hx.2.2.2.2.n
  unfold fX11_needs at eX2
  unfold fM12_needs at eM2
  rcases both_eq (L := M) hx hm (fun _ _ => rfl) z1 z2 with ⟨a, b⟩ | ⟨a, b, q, s, h1, h2, hq, hw⟩
  · rw [a, if_pos rfl] at eX2
    rw [b, if_pos rfl] at eM2
    cases eX2; cases eM2; rfl
  · obtain ⟨-, l2, l3, -⟩ := hx.2.2.2.1 q hq
    obtain ⟨W, hW⟩ : ∃ W : Int → Int, ∀ b, bwR (fB (B 17) N ql qv b q) 160 = W b := ⟨_, fun _ => rfl⟩
    obtain ⟨v1, I1, A1, a1, a2⟩ := x_needs hx (z2 := z2) hW h1 hq
    obtain ⟨w1, J1, B1, b1, b2⟩ := m_needs (L := M) hm hs.2.2.2.2.2.2.1 hs.2.2.2.2.2.2.2.1 (z2 := z2) hW h1 hq
    rw [a, if_neg (by decide), a1, bdX_mk] at eX2
    rw [b, if_neg (by decide), b1] at eM2
    cases eX2; cases eM2
    refine Int32.toInt_inj.mp (NB.uq (n := ql q) (m := 16) (by omega) l3 (fun b9 h9 => ?_) a2 b2)
    rw [← hW, ← hW]
    exact bwR_cg 160 (fun i _ => fB_big (by omega) (by omega) (by omega) i)
end ANS9
theorem o32 {x : Int32} {v : Int} (h : x.toInt = v) : x = Int32.ofInt v := by rw [← h]; exact (Int32.ofInt_toInt x).symm
def mx2 (a b : Int) : Int := if a < b then b else a
theorem i32_mx2 {x y : Int32} {a b : Int} (hx : x.toInt = a) (hy : y.toInt = b) : (if x < y then y else x).toInt = mx2 a b := by
  unfold mx2
  rcases i32_max (x := x) (y := y) rfl with ⟨m1, m2⟩ | ⟨m1, m2⟩
  · rw [m1, if_neg (by omega)]; exact hx
  · rw [m1]
    by_cases c : a < b
    · rw [if_pos c]; exact hy
    · rw [if_neg c]; omega
/-- what a WINDOW's DISTANCE is above its greatest BOUND -/
def slV (r : Nat → Int32) (ql : Nat → Nat) (qv : Nat → Nat → Int) (q s : Nat) : Int := dQ r ql qv (r 161).toInt q s - mx2 (cC (r 163).toInt (lvl r (ql q) (qv q)) (lvl r (ql q) (gW r s)) 0 0 + cC (r 163).toInt (lvl r (ql q) (qv q)) (lvl r (ql q) (gW r s)) (ql q - 1) (ql q - 1)) (mx2 (ovT (r 163).toInt (r 161).toInt (ql q) (lvl r (ql q) (qv q)) (lvl r (ql q) (gW r s)) (ql q)) (ovT (r 163).toInt (r 161).toInt (ql q) (lvl r (ql q) (gW r s)) (lvl r (ql q) (qv q)) (ql q)))
noncomputable def slS (r : Nat → Int32) (N : Nat) (ql : Nat → Nat) (qv : Nat → Nat → Int) (q : Nat) : Nat → Int32
  | 0 => 0
  | k + 1 => @ite Int32 (wnR r N k (ql q)) (Classical.propDecidable _) (slS r N ql qv q k + Int32.ofInt (slV r ql qv q k)) (slS r N ql qv q k)
theorem slS_t {r : Nat → Int32} {N : Nat} {ql : Nat → Nat} {qv : Nat → Nat → Int} {q k : Nat} (h : wnR r N k (ql q)) : slS r N ql qv q (k + 1) = slS r N ql qv q k + Int32.ofInt (slV r ql qv q k) := if_pos h
theorem slS_f {r : Nat → Int32} {N : Nat} {ql : Nat → Nat} {qv : Nat → Nat → Int} {q k : Nat} (h : ¬ wnR r N k (ql q)) : slS r N ql qv q (k + 1) = slS r N ql qv q k := if_neg h
theorem slS_tail {r : Nat → Int32} {N : Nat} {ql : Nat → Nat} {qv : Nat → Nat → Int} {q : Nat} : ∀ m, slS r N ql qv q (N + m) = slS r N ql qv q N := by
  intro m
  induction m with
  | zero => rfl
  | succ m ih => rw [← Nat.add_assoc, slS_f (fun h9 => by have := h9.1; have := h9.2.1; omega)]; exact ih
section SLACK
variable {I J : Nat → Int32} {A B : Nat → Nat → Int32} {L : Nat → Nat → Int64} {r : Nat → Int32} {σ N nq : Nat} {ql : Nat → Nat} {qv : Nat → Nat → Int}
theorem bnds {n : Nat} {b c : Int} {lf rt : Nat → Int} (hn1 : 1 ≤ n) (hn : n ≤ 16) (hb : 0 ≤ b) (hl : lvb n lf) (hr : lvb n rt) : (0 ≤ mx2 (cC c lf rt 0 0 + cC c lf rt (n - 1) (n - 1)) (mx2 (ovT c b n lf rt n) (ovT c b n rt lf n)) ∧ mx2 (cC c lf rt 0 0 + cC c lf rt (n - 1) (n - 1)) (mx2 (ovT c b n lf rt n) (ovT c b n rt lf n)) ≤ 300000000) := by
  have a := ovT_b (c := c) (b := b) hl hr hb n (Nat.le_refl n)
  have d := ovT_b (c := c) (b := b) hr hl hb n (Nat.le_refl n)
  have e := csT_b (c := c) (hl 0 (by omega)) (hr 0 (by omega))
  have f := csT_b (c := c) (hl (n - 1) (by omega)) (hr (n - 1) (by omega))
  unfold mx2 cC
  split <;> (try split) <;> omega
theorem x_slack (hx : XW I A r N nq ql qv) {z : Int32} {q : Nat} (hz : z.toInt = (q : Int)) (hq : q < nq) : ∃ (I' : Nat → Int32) (A' : Nat → Nat → Int32), fX1_slackSum I A z = (slS r N ql qv q 160, I', A') := by
  have hs := hx.2.2.2.2.n
  obtain ⟨l1, l2, l3, -⟩ := hx.2.2.2.1 q hq
  have hN := hx.1.1.2.1
  have h18 := hx.1.2.1
  obtain ⟨I1, A1, a1, a2, a3, a4⟩ := x_openQ hx (z2 := A 10 0) (b := (r 161).toInt) hz hq hs.1 hs.2.2.2.2.1
  have e160 : slS r N ql qv q 160 = slS r N ql qv q N := by
    have := slS_tail (r := r) (N := N) (ql := ql) (qv := qv) (q := q) (160 - N)
    rwa [show N + (160 - N) = 160 by omega] at this
  unfold fX1_slackSum
  rw [f_lt_eq, x_vOf (z := 0) (k := 0) rfl (by omega), a1, bdX_mk, e160]
  refine run_iiIA (Q := fun u => ∃ (I' : Nat → Int32) (A' : Nat → Nat → Int32), u = (slS r N ql qv q N, I', A')) N (fun k x y I2 A2 => x.toInt = (k : Int) ∧ y = slS r N ql qv q k ∧ Md [28, 30, 31, 32, 33, 34] I I2 ∧ Md [21, 22, 23] A A2 ∧ FL I2 A2 (ql q) (r 161).toInt (r 163).toInt (lvl r (ql q) (qv q))) (fun G k x y I2 A2 hk hP => ?_) FU 0 0 0 I1 A1 ⟨rfl, rfl, Md.tr Md.rf a2 rfl, Md.tr Md.rf a3 rfl, a4⟩ (by omega) (fu_lt (by omega))
  obtain ⟨hxk, hy, mI, mA, fl⟩ := hP
  unfold bX1_slackSum_23
  dsimp only [f_lt]
  by_cases c : (I 18).toInt ≤ x.toInt
  · rw [if_pos c]; right; exact ⟨I2, A2, by rw [hy, show k = N by omega]⟩
  · rw [if_neg c]
    left
    refine ⟨by omega, ?_⟩
    have hx2 := hx.mv (I' := I2) (A' := A2) (mI 17 rfl) (mI 18 rfl) (mI 19 rfl) (mA 7 rfl) (mA 8 rfl) (mA 9 rfl) (mA 10 rfl)
    rw [x_len2 hx2.2.1 hx2.2.2.1 hz hq, ifp]
    show ∃ x' y' I' A', (if fX6_hasWindow I2 A2 x (A2 9 q) = 0 then _ else _) = G x' y' I' A' ∧ _
    rcases x_winQ hx2 hq hxk with ⟨ew, w⟩ | ⟨ew, w⟩
    · rw [ew, if_pos rfl]
      exact ⟨_, _, _, _, rfl, i_s hxk (by omega), by rw [slS_f w]; exact hy, mI, mA, fl⟩
    · rw [ew, if_neg (by decide)]
      obtain ⟨A3, b1, b2, b3⟩ := x_secW hx2 hxk fl.1 fl.2.1 l3 w
      rw [b1, bdX_mk]
      have fl3 : FL I2 A3 (ql q) (r 161).toInt (r 163).toInt (lvl r (ql q) (qv q)) := ⟨fl.1, fl.2.1, fl.2.2.1, fl.2.2.2.1, fun i hi => by rw [b2 21 rfl]; exact fl.2.2.2.2 i hi⟩
      have hx3 := hx2.mv (I' := I2) (A' := A3) rfl rfl rfl (b2 7 rfl) (b2 8 rfl) (b2 9 rfl) (b2 10 rfl)
      have tb := x_TB hx3 hq w ⟨hs.2.2.2.2.1, by omega⟩ fl3 b3
      obtain ⟨u, I4, A4, d1, d2, d3, d4, -⟩ := x_whole tb
      rw [d1, bdX_mk]
      have ob : (fX2_overBound I2 A3).toInt = ovT (r 163).toInt (r 161).toInt (ql q) (lvl r (ql q) (qv q)) (lvl r (ql q) (gW r k)) (ql q) := by
        unfold fX2_overBound
        rw [f_lt_eq]; exact x_env21 tb
      have bb : (fX2_backBound I2 A3).toInt = ovT (r 163).toInt (r 161).toInt (ql q) (lvl r (ql q) (gW r k)) (lvl r (ql q) (qv q)) (ql q) := by
        unfold fX2_backBound
        rw [f_lt_eq]; exact x_env22 tb
      have db := dQ_b hx hq w hs.2.2.2.2.1
      have bn := bnds (c := (r 163).toInt) tb.1.1 tb.1.2 hs.2.2.2.2.1 tb.2.2.2.2.1 tb.2.2.2.2.2
      have sv := i32_sub (x := u) (y := if fX2_endsBound I2 A3 < (if fX2_overBound I2 A3 < fX2_backBound I2 A3 then fX2_backBound I2 A3 else fX2_overBound I2 A3) then (if fX2_overBound I2 A3 < fX2_backBound I2 A3 then fX2_backBound I2 A3 else fX2_overBound I2 A3) else fX2_endsBound I2 A3) rfl d2 (i32_mx2 (x_ends tb) (i32_mx2 ob bb)) (by unfold dQ at db; omega) (by unfold dQ at db; omega)
      refine ⟨_, _, _, _, rfl, i_s hxk (by omega), ?_, Md.tr mI d3 rfl, Md.tr (Md.tr mA b2 rfl) d4 rfl, ⟨by rw [d3 28 rfl]; exact fl.1, by rw [d3 30 rfl]; exact fl.2.1, by rw [d3 31 rfl]; exact fl.2.2.1, by rw [d3 32 rfl]; exact fl.2.2.2.1, fun i hi => by rw [d4 21 rfl]; exact fl3.2.2.2.2 i hi⟩⟩
      rw [slS_t w, hy, o32 sv]; rfl
theorem m_gr {z1 z2 : Int32} {a b : Int} (h1 : z1.toInt = a) (h2 : z2.toInt = b) : (fM12_greater J B L z1 z2).toInt = mx2 a b := by
  unfold fM12_greater mx2
  split <;> (try split) <;> omega
theorem m_slack (hm : MW J B σ N nq ql qv) (hs : StE (A 10) (B 17)) {z : Int32} {q : Nat} (hz : z.toInt = (q : Int)) (hq : q < nq) : ∃ (J' : Nat → Int32) (B' : Nat → Nat → Int32), itr_iiIAL dfM (bM12_slack_18 z) FU 0 0 J (up2 B 18 (cpo (B 17) (B 18) 0 165)) L = (slS (B 17) N ql qv q 160, J', B', L) := by
  have hs := hs.n
  refine run_iiIAL (Q := fun u => ∃ (J' : Nat → Int32) (B' : Nat → Nat → Int32), u = (slS (B 17) N ql qv q 160, J', B', L)) 160 (fun k x y J1 B1 L1 => x.toInt = (k : Int) ∧ y = slS (B 17) N ql qv q k ∧ L1 = L ∧ Md [18, 19, 20] J J1 ∧ Md [18, 19, 20, 21] B B1 ∧ ∀ k, k < 165 → B1 18 k = B 17 k) (fun G k x y J1 B1 L1 hk hP => ?_) FU 0 0 0 J _ L ⟨rfl, rfl, rfl, Md.rf, Md.up2 Md.rf rfl, m_cp⟩ (by omega) (fu_lt (by omega))
  obtain ⟨hxk, hy, eL, mJ, mB, h18⟩ := hP
  unfold bM12_slack_18
  dsimp only [f_lt]
  by_cases c : 160 ≤ x.toInt
  · rw [if_pos c]; right; exact ⟨J1, B1, by rw [hy, eL, show k = 160 by omega]⟩
  · rw [if_neg c]
    left
    refine ⟨by omega, ?_⟩
    have hm1 := hm.mv (J' := J1) (B' := B1) (mJ 15 rfl) (mB 10 rfl) (mB 11 rfl) (mB 12 rfl) (mB 17 rfl)
    rcases m_isOfQ (L := L1) hm1 hz hq hxk with ⟨e, w⟩ | ⟨e, w⟩
    · rw [mB 17 rfl] at w
      rw [e, if_pos rfl]
      exact ⟨_, _, _, _, _, rfl, i_s hxk (by omega), by rw [slS_f w]; exact hy, eL, mJ, mB, h18⟩
    · rw [mB 17 rfl] at w
      rw [e, if_neg (by decide)]
      obtain ⟨u, J2, B2, d1, d2, d3, d4, d5, -⟩ := m_dist (L := L1) hm1 hm.1 h18 hs.2.2.2.2.2.2.1 hs.2.2.2.2.2.2.2.1 ⟨hs.2.2.2.2.1, by omega⟩ hz hq hxk w
      rw [d1, bdM_mk]
      obtain ⟨v3, B3, f1, f2, f3, -⟩ := m_back (L := L1) d5
      rw [f1, bdM_mk]
      have bn := bnds (c := (B 17 163).toInt) d5.1.1 d5.1.2 hs.2.2.2.2.1 d5.2.2.2.2.1 d5.2.2.2.2.2
      have dq : 0 ≤ u.toInt ∧ u.toInt ≤ 500000000 := by rw [d2]; exact dT_b hs.2.2.2.2.1 d5.cok d5.1.1 d5.1.2
      have sv := i32_sub (x := u) (y := fM12_greater J2 B3 L1 (fM12_endsOf J2 B2 L1) (fM12_greater J2 B3 L1 (fM12_overOf J2 B2 L1) v3)) rfl d2 (m_gr (m_ends d5) (m_gr (m_over d5) f2)) (by omega) (by omega)
      refine ⟨_, _, _, _, _, rfl, i_s hxk (by omega), ?_, eL, Md.tr mJ d3 rfl, Md.tr (Md.tr mB d4 rfl) f3 rfl, fun k9 h9 => by rw [f3 18 rfl, d4 18 rfl]; exact h18 k9 h9⟩
      rw [slS_t w, hy, o32 sv]; rfl
end SLACK
section ANS10
variable {I I' J J' : Nat → Int32} {A A' B B' : Nat → Nat → Int32} {M M' : Nat → Nat → Int64} {z z1 z2 z3 z4 v w : Int32}
theorem ans_slack (h : RA I A J B M) (_ : IvX I A) (_ : IvM J B) (eX : FE (fX11_slack I A z) (v, I', A')) (eM : FE (fM12_slack J B M z) (w, J', B', M')) : v = w := by
  have eX2 : fX11_slack I A z = (v, I', A') := eX
  have eM2 : fM12_slack J B M z = (w, J', B', M') := eM
  obtain ⟨σ, N, nq, ql, qv, hx, hm⟩ := h.xm
  unfold fX11_slack at eX2
  unfold fM12_slack at eM2
  rw [m_isQuery hm.2.1 hm.2.2.1 hm.2.2.2.1 hm.2.2.2.2.1, if10] at eM2
  rw [x_hasQ hx.2.1 hx.2.2.1, if10] at eX2
  by_cases c : 0 ≤ z.toInt ∧ z.toInt < (nq : Int)
  · rw [if_pos c] at eX2 eM2
    obtain ⟨q, hq⟩ : ∃ q : Nat, z.toInt = (q : Int) := ⟨z.toInt.toNat, by omega⟩
    obtain ⟨I1, A1, a1⟩ := x_slack hx hq (by omega)
    obtain ⟨J1, B1, b1⟩ := m_slack (L := M) hm hx.2.2.2.2 hq (by omega)
    rw [a1, bdX_mk] at eX2
    unfold fM12_copies at eM2
    rw [bdM_mk, b1] at eM2
    cases eX2; cases eM2; rfl
  · rw [if_neg c] at eX2 eM2
    cases eX2; cases eM2; rfl
end ANS10
end
section
/-- the QUERIES that the newest reading set off, as bits -/
noncomputable def frS (r : Nat → Int32) (N : Nat) (ql : Nat → Nat) (qv : Nat → Nat → Int) (lim : Int) : Nat → Int32
  | 0 => 0
  | k + 1 => @ite Int32 (ql k ≤ N ∧ wnR r N (N - ql k) (ql k) ∧ dQ r ql qv (r 161).toInt k (N - ql k) ≤ lim) (Classical.propDecidable _) (frS r N ql qv lim k ||| ((1 : Int32) <<< (nI k &&& 31))) (frS r N ql qv lim k)
theorem frS_t {r : Nat → Int32} {N : Nat} {ql : Nat → Nat} {qv : Nat → Nat → Int} {lim : Int} {k : Nat} (h : ql k ≤ N ∧ wnR r N (N - ql k) (ql k) ∧ dQ r ql qv (r 161).toInt k (N - ql k) ≤ lim) : frS r N ql qv lim (k + 1) = frS r N ql qv lim k ||| ((1 : Int32) <<< (nI k &&& 31)) := if_pos h
theorem frS_f {r : Nat → Int32} {N : Nat} {ql : Nat → Nat} {qv : Nat → Nat → Int} {lim : Int} {k : Nat} (h : ¬ (ql k ≤ N ∧ wnR r N (N - ql k) (ql k) ∧ dQ r ql qv (r 161).toInt k (N - ql k) ≤ lim)) : frS r N ql qv lim (k + 1) = frS r N ql qv lim k := if_neg h
section FIRED
variable {I J : Nat → Int32} {A B : Nat → Nat → Int32} {L : Nat → Nat → Int64} {r : Nat → Int32} {σ N nq : Nat} {ql : Nat → Nat} {qv : Nat → Nat → Int}
theorem x_hasB (hx : XW I A r N nq ql qv) {z1 z2 : Int32} {q : Nat} (hz : z1.toInt = (q : Int)) (hq : q < nq) : (fX0_hasBoth I A z1 z2 = 0 ∧ ∀ s : Nat, z2.toInt = (s : Int) → ¬ wnR r N s (ql q)) ∨ (fX0_hasBoth I A z1 z2 = 1 ∧ ∃ s : Nat, z2.toInt = (s : Int) ∧ wnR r N s (ql q)) := by
  obtain ⟨l1, l2, l3, -⟩ := hx.2.2.2.1 q hq
  unfold fX0_hasBoth
  simp only [f_lt_eq]
  rw [x_hasQ hx.2.1 hx.2.2.1, if10, if_pos (by omega), x_len2 hx.2.1 hx.2.2.1 hz hq, ifp]
  show ((if fX6_hasWindow I A z2 (A 9 q) = 0 then (0 : Int32) else 1) = 0 ∧ _) ∨ ((if fX6_hasWindow I A z2 (A 9 q) = 0 then (0 : Int32) else 1) = 1 ∧ _)
  rcases x_win hx.1 (z1 := z2) (z2 := A 9 q) with ⟨a, b⟩ | ⟨a, s2, k2, b, c, d⟩
  · rw [a, if_pos rfl]; exact Or.inl ⟨rfl, fun s hs => b s (ql q) hs l1⟩
  · rw [a, if_neg (by decide)]
    refine Or.inr ⟨rfl, s2, b, ?_⟩
    rw [show ql q = k2 by omega]; exact d
theorem m_isOfQ2 (hm : MW J B σ N nq ql qv) {z x : Int32} {q : Nat} (hz : z.toInt = (q : Int)) (hq : q < nq) : (fM12_isOf J B L z x = 0 ∧ ∀ s : Nat, x.toInt = (s : Int) → ¬ wnR (B 17) N s (ql q)) ∨ (fM12_isOf J B L z x = 1 ∧ ∃ s : Nat, x.toInt = (s : Int) ∧ wnR (B 17) N s (ql q)) := by
  obtain ⟨k1, k2, k3, -⟩ := hm.2.2.2.2.2 q hq
  unfold fM12_isOf
  rw [m_isQuery hm.2.1 hm.2.2.1 hm.2.2.2.1 hm.2.2.2.2.1, if10, if_pos (by omega), clN (i_5 hm.2.1 hm.2.2.1 hz (by have := hm.2.2.2.2.1; omega))]
  rcases m_win (J := J) (L := L) hm.1 (z1 := x) (z2 := B 11 (5 * σ + q)) with ⟨a, b⟩ | ⟨a, s2, k9, b, c, d⟩
  · rw [a, if_pos rfl]; exact Or.inl ⟨rfl, fun s hs => b s (ql q) hs k1⟩
  · rw [a, if_neg (by decide)]
    refine Or.inr ⟨rfl, s2, b, ?_⟩
    rw [show ql q = k9 by omega]; exact d
theorem nI_nat {x : Int32} {k : Nat} (h : x.toInt = (k : Int)) (hk : k < 100000) : x = nI k := Int32.toInt_inj.mp (by rw [h, nI_toInt (by omega)])
theorem x_fired (hx : XW I A r N nq ql qv) {z : Int32} {lim : Int} (hz : z.toInt = lim) : ∃ (I' : Nat → Int32) (A' : Nat → Nat → Int32), fX1_firedBits I A z = (frS r N ql qv lim nq, I', A') := by
  have hs := hx.2.2.2.2.n
  have h18 := hx.1.2.1
  have hN := hx.1.1.2.1
  have h5 := hx.2.2.1
  have h19 := hx.2.1
  unfold fX1_firedBits
  refine run_iiIA (Q := fun u => ∃ (I' : Nat → Int32) (A' : Nat → Nat → Int32), u = (frS r N ql qv lim nq, I', A')) nq (fun k x y I2 A2 => x.toInt = (k : Int) ∧ y = frS r N ql qv lim k ∧ Md [28, 30, 31, 32, 33, 34] I I2 ∧ Md [21, 22, 23] A A2) (fun G k x y I2 A2 hk hP => ?_) FU 0 0 0 I A ⟨rfl, rfl, Md.rf, Md.rf⟩ (by omega) (fu_lt (by omega))
  obtain ⟨hxk, hy, mI, mA⟩ := hP
  unfold bX1_firedBits_4
  dsimp only [f_lt]
  by_cases c : (I 19).toInt ≤ x.toInt
  · rw [if_pos c]; right; exact ⟨I2, A2, by rw [hy, show k = nq by omega]⟩
  · rw [if_neg c]
    left
    have hkq : k < nq := by omega
    refine ⟨hkq, ?_⟩
    have hx2 := hx.mv (I' := I2) (A' := A2) (mI 17 rfl) (mI 18 rfl) (mI 19 rfl) (mA 7 rfl) (mA 8 rfl) (mA 9 rfl) (mA 10 rfl)
    obtain ⟨l1, l2, l3, -⟩ := hx.2.2.2.1 k hkq
    rw [x_len2 hx2.2.1 hx2.2.2.1 hxk hkq, ifp, mA 9 rfl]
    have sb := i32_sub (x := I 18) (y := A 9 k) rfl h18 l1 (by omega) (by omega)
    show ∃ x' y' I' A', f_bdX (fX0_openBoth I2 A2 x (I 18 - A 9 k)) _ = G x' y' I' A' ∧ _
    rcases x_hasB hx2 (z2 := I 18 - A 9 k) hxk hkq with ⟨e, w⟩ | ⟨e, s, hs9, w⟩
    · rw [x_openB0 e, bdX_mk, if_pos (by decide)]
      refine ⟨_, _, _, _, rfl, i_s hxk (by omega), ?_, mI, mA⟩
      rw [frS_f (fun h9 => w (N - ql k) (by omega) h9.2.1)]; exact hy
    · obtain ⟨I3, A3, a1, a2, a3, a4⟩ := x_openB hx2 hxk hs9 hkq w e
      obtain ⟨u, I4, A4, d1, d2, d3, d4, -⟩ := x_whole a4
      rw [a1, bdX_mk, if_neg (by decide), d1, bdX_mk]
      have es : s = N - ql k := by omega
      have le : ql k ≤ N := by omega
      have ud : u.toInt = dQ r ql qv (r 161).toInt k (N - ql k) := by rw [← es]; exact d2
      have mI4 : Md [28, 30, 31, 32, 33, 34] I I4 := Md.tr (Md.tr mI a2 rfl) d3 rfl
      have mA4 : Md [21, 22, 23] A A4 := Md.tr (Md.tr mA a3 rfl) d4 rfl
      by_cases c2 : z.toInt < u.toInt
      · rw [if_pos c2]
        refine ⟨_, _, _, _, rfl, i_s hxk (by omega), ?_, mI4, mA4⟩
        rw [frS_f (fun h9 => by have := h9.2.2; omega)]; exact hy
      · rw [if_neg c2]
        refine ⟨_, _, _, _, rfl, i_s hxk (by omega), ?_, mI4, mA4⟩
        rw [frS_t ⟨le, by rw [← es]; exact w, by omega⟩, hy, nI_nat hxk (by omega)]
theorem m_fired (hm : MW J B σ N nq ql qv) (hs : StE (A 10) (B 17)) {z : Int32} {lim : Int} (hz : z.toInt = lim) : ∃ (J' : Nat → Int32) (B' : Nat → Nat → Int32), itr_iiIAL dfM (bM12_fired_14 J B z) FU 0 0 J (up2 B 18 (cpo (B 17) (B 18) 0 165)) L = (frS (B 17) N ql qv lim nq, J', B', L) := by
  have hs := hs.n
  have h5 := hm.2.2.2.2.1
  have h0 := hm.1.1
  have hN := hm.1.2.1
  refine run_iiIAL (Q := fun u => ∃ (J' : Nat → Int32) (B' : Nat → Nat → Int32), u = (frS (B 17) N ql qv lim nq, J', B', L)) nq (fun k x y J1 B1 L1 => x.toInt = (k : Int) ∧ y = frS (B 17) N ql qv lim k ∧ L1 = L ∧ Md [18, 19, 20] J J1 ∧ Md [18, 19, 20, 21] B B1 ∧ ∀ k, k < 165 → B1 18 k = B 17 k) (fun G k x y J1 B1 L1 hk hP => ?_) FU 0 0 0 J _ L ⟨rfl, rfl, rfl, Md.rf, Md.up2 Md.rf rfl, m_cp⟩ (by omega) (fu_lt (by omega))
  obtain ⟨hxk, hy, eL, mJ, mB, h18⟩ := hP
  have body : bM12_fired_14 J B z G x y J1 B1 L1 = if (nq : Int) ≤ x.toInt then (y, J1, B1, L1) else if fM12_isOf J1 B1 L1 x (B 17 0 - B 11 (5 * J 15 + x).toNatClampNeg) = 0 then G (x + Int32.ofInt 1) y J1 B1 L1 else f_bdM (fM12_distanceOf J1 B1 L1 x (B 17 0 - B 11 (5 * J 15 + x).toNatClampNeg)) (fun u J2 B2 L2 => if z.toInt < u.toInt then G (x + Int32.ofInt 1) y J2 B2 L2 else G (x + Int32.ofInt 1) (y ||| ((1 : Int32) <<< (x &&& 31))) J2 B2 L2) := by
    have h10 := hm.2.2.2.1
    have h15 := hm.2.1
    have hc : σ = 0 ∨ σ = 1 := by have := hm.2.2.1; omega
    unfold bM12_fired_14
    rcases hc with e | e
    · subst e
      rw [if_pos (show (J 15).toInt = 0 by omega), h10]; rfl
    · subst e
      rw [if_neg (show ¬ (J 15).toInt = 0 by omega), if_pos (show (J 15).toInt = 1 by omega), h10]; rfl
  rw [body]
  by_cases c : (nq : Int) ≤ x.toInt
  · rw [if_pos c]; right; exact ⟨J1, B1, by rw [hy, eL, show k = nq by omega]⟩
  · rw [if_neg c]
    left
    have hkq : k < nq := by omega
    refine ⟨hkq, ?_⟩
    have hm1 := hm.mv (J' := J1) (B' := B1) (mJ 15 rfl) (mB 10 rfl) (mB 11 rfl) (mB 12 rfl) (mB 17 rfl)
    obtain ⟨k1, k2, k3, -⟩ := hm.2.2.2.2.2 k hkq
    rw [clN (i_5 hm.2.1 hm.2.2.1 hxk (by omega))]
    have sb := i32_sub (x := B 17 0) (y := B 11 (5 * σ + k)) rfl h0 k1 (by omega) (by omega)
    rcases m_isOfQ2 (L := L1) hm1 (x := B 17 0 - B 11 (5 * σ + k)) hxk hkq with ⟨e, w⟩ | ⟨e, s, hs9, w⟩
    · rw [mB 17 rfl] at w
      rw [e, if_pos rfl]
      refine ⟨_, _, _, _, _, rfl, i_s hxk (by omega), ?_, eL, mJ, mB, h18⟩
      rw [frS_f (fun h9 => w (N - ql k) (by omega) h9.2.1)]; exact hy
    · rw [mB 17 rfl] at w
      rw [e, if_neg (by decide)]
      obtain ⟨u, J2, B2, d1, d2, d3, d4, -, -⟩ := m_dist (L := L1) hm1 hm.1 h18 hs.2.2.2.2.2.2.1 hs.2.2.2.2.2.2.2.1 ⟨hs.2.2.2.2.1, by omega⟩ hxk hkq hs9 w
      rw [d1, bdM_mk]
      have es : s = N - ql k := by omega
      have le : ql k ≤ N := by omega
      rw [es] at d2
      have mJ2 : Md [18, 19, 20] J J2 := Md.tr mJ d3 rfl
      have mB2 : Md [18, 19, 20, 21] B B2 := Md.tr mB d4 rfl
      have h18b : ∀ k, k < 165 → B2 18 k = B 17 k := fun k9 h9 => by rw [d4 18 rfl]; exact h18 k9 h9
      by_cases c2 : z.toInt < u.toInt
      · rw [if_pos c2]
        refine ⟨_, _, _, _, _, rfl, i_s hxk (by omega), ?_, eL, mJ2, mB2, h18b⟩
        rw [frS_f (fun h9 => by have := h9.2.2; omega)]; exact hy
      · rw [if_neg c2]
        refine ⟨_, _, _, _, _, rfl, i_s hxk (by omega), ?_, eL, mJ2, mB2, h18b⟩
        rw [frS_t ⟨le, by rw [← es]; exact w, by omega⟩, hy, nI_nat hxk (by omega)]
end FIRED
section ANS11
variable {I I' J J' : Nat → Int32} {A A' B B' : Nat → Nat → Int32} {M M' : Nat → Nat → Int64} {z z1 z2 z3 z4 v w : Int32}
theorem ans_fired (h : RA I A J B M) (_ : IvX I A) (_ : IvM J B) (eX : FE (fX11_fired I A z) (v, I', A')) (eM : FE (fM12_fired J B M z) (w, J', B', M')) : v = w := by
  have eX2 : fX11_fired I A z = (v, I', A') := eX
  have eM2 : fM12_fired J B M z = (w, J', B', M') := eM
  obtain ⟨σ, N, nq, ql, qv, hx, hm⟩ := h.xm
  unfold fX11_fired at eX2
  unfold fM12_fired at eM2
  by_cases c : 0 ≤ z.toInt
  · rw [if_pos c] at eX2 eM2
    obtain ⟨I1, A1, a1⟩ := x_fired hx (z := z) rfl
    obtain ⟨J1, B1, b1⟩ := m_fired (L := M) hm hx.2.2.2.2 (z := z) rfl
    rw [a1, bdX_mk] at eX2
    unfold fM12_copies at eM2
    rw [bdM_mk, b1] at eM2
    cases eX2; cases eM2; rfl
  · rw [if_neg c] at eX2 eM2
    cases eX2; cases eM2; rfl
end ANS11
/-- far above all: every WINDOW counts -/
theorem HOW.far {b c : Int} {n : Nat} {lf rt : Nat → Int} {lim hw cl br : Int} (hn1 : 1 ≤ n) (hn : n ≤ 16) (hb : 0 ≤ b) (hl : lvb n lf) (hr : lvb n rt) (hlim : 600000000 < lim) (h : HOW b c n lf rt lim hw cl br) : hw = 0 ∧ cl = csum b n n ∧ br = -2 := by
  have a := ovT_b (c := c) (b := b) hl hr hb n (Nat.le_refl n)
  have d := ovT_b (c := c) (b := b) hr hl hb n (Nat.le_refl n)
  have e := csT_b (c := c) (hl 0 (by omega)) (hr 0 (by omega))
  have f := csT_b (c := c) (hl (n - 1) (by omega)) (hr (n - 1) (by omega))
  have hC : cok n (cC c lf rt) := fun i j hi hj => csT_b (hl i hi) (hr j hj)
  have g := dT_b hb hC hn1 hn
  have e' : cC c lf rt 0 0 + cC c lf rt (n - 1) (n - 1) ≤ 40000000 := by unfold cC; omega
  unfold HOW at h
  rcases h with ⟨a1, -⟩ | ⟨-, a2, -⟩ | ⟨-, -, a3, -⟩ | ⟨-, -, -, i0, a4, -⟩ | ⟨-, -, -, -, a5, -⟩ | ⟨-, -, -, -, -, a6⟩
  · omega
  · omega
  · omega
  · have := rmT_lt hb hC hn a4.1; have := a4.2.2; omega
  · omega
  · exact a6
theorem up3_if {A : Nat → Nat → Int32} {a j i : Nat} {v : Int32} : up3 A a j v a i = if i = j then v else A a i := by
  by_cases c : i = j
  · rw [up3_at c, if_pos c]
  · rw [up3_ne c, if_neg c]
section SEARCH
variable {r : Nat → Int32} {σ N nq : Nat} {ql : Nat → Nat} {qv : Nat → Nat → Int} {L : Nat → Nat → Int64}
/-- behind the last WINDOW nothing more is counted -/
theorem m_stail {z1 : Int32} {q : Nat} (hz : z1.toInt = (q : Int)) (hq : q < nq) : ∀ (m k : Nat) (x y : Int32) (J : Nat → Int32) (B : Nat → Nat → Int32), MW J B σ N nq ql qv → x.toInt = (k : Int) → N ≤ k → k ≤ 160 → 160 - k < m → itr_iiIAL dfM (bM12_fillsSearch_31 z1) m x y J B L = (0, J, B, L) := by
  intro m
  induction m with
  | zero => intro k x y J B _ _ _ _ h9; omega
  | succ m ih =>
    intro k x y J B hm hxk hN hk hm9
    show bM12_fillsSearch_31 z1 (itr_iiIAL dfM (bM12_fillsSearch_31 z1) m) x y J B L = _
    obtain ⟨G, hG⟩ : ∃ G, G = itr_iiIAL dfM (bM12_fillsSearch_31 z1) m := ⟨_, rfl⟩
    rw [← hG] at ih ⊢
    unfold bM12_fillsSearch_31
    dsimp only [f_lt]
    by_cases c : 160 ≤ x.toInt
    · rw [if_pos c]
    · rw [if_neg c]
      rcases m_isOfQ (L := L) hm hz hq hxk with ⟨e, w⟩ | ⟨e, w⟩
      · rw [e, if_pos rfl]
        exact ih (k + 1) _ y J B hm (i_s hxk (by omega)) (by omega) (by omega) (by omega)
      · have := w.1; have := w.2.1; omega
theorem search_sim {z1 : Int32} {q : Nat} {I0 : Nat → Int32} (hz : z1.toInt = (q : Int)) (hq : q < nq) (h18 : (I0 18).toInt = (N : Int)) (hN : N ≤ 160) : ∀ (d m1 m2 k : Nat) (x lx lm : Int32) (I : Nat → Int32) (A : Nat → Nat → Int32) (J : Nat → Int32) (B : Nat → Nat → Int32), N - k ≤ d → d < m1 → d + 161 < m2 → x.toInt = (k : Int) → k ≤ N → (lx.toInt = lm.toInt ∨ (lx.toInt = 2147483647 ∧ lm.toInt = 2000000000)) → XW I A r N nq ql qv → FL I A (ql q) (r 161).toInt (r 163).toInt (lvl r (ql q) (qv q)) → MW J B σ N nq ql qv → B 17 = r → (∀ k, k < 165 → B 18 k = r k) → (∀ i, i < 9 → A 25 i = B 25 i) → ∃ (I' : Nat → Int32) (A' : Nat → Nat → Int32) (J' : Nat → Int32) (B' : Nat → Nat → Int32), itr_iiIA dfX (bX1_runSearch_45 I0 z1) m1 x lx I A = (0, I', A') ∧ itr_iiIAL dfM (bM12_fillsSearch_31 z1) m2 x lm J B L = (0, J', B', L) ∧ ∀ i, i < 9 → A' 25 i = B' 25 i := by
  intro d
  induction d with
  | zero =>
    intro m1 m2 k x lx lm I A J B hd h1 h2 hxk hk hl hx fl hm e17 q18 ht
    obtain ⟨p1, e1⟩ : ∃ p, m1 = p + 1 := ⟨m1 - 1, by omega⟩
    subst e1
    refine ⟨I, A, J, B, ?_, m_stail (L := L) hz hq m2 k x lm J B hm hxk (by omega) (by omega) (by omega), ht⟩
    show bX1_runSearch_45 I0 z1 (itr_iiIA dfX (bX1_runSearch_45 I0 z1) p1) x lx I A = _
    generalize itr_iiIA dfX (bX1_runSearch_45 I0 z1) p1 = G
    unfold bX1_runSearch_45
    rw [if_pos (by omega)]
  | succ d ih =>
    intro m1 m2 k x lx lm I A J B hd h1 h2 hxk hk hl hx fl hm e17 q18 ht
    by_cases ce : k = N
    · obtain ⟨p1, e1⟩ : ∃ p, m1 = p + 1 := ⟨m1 - 1, by omega⟩
      subst e1
      refine ⟨I, A, J, B, ?_, m_stail (L := L) hz hq m2 k x lm J B hm hxk (by omega) (by omega) (by omega), ht⟩
      show bX1_runSearch_45 I0 z1 (itr_iiIA dfX (bX1_runSearch_45 I0 z1) p1) x lx I A = _
      generalize itr_iiIA dfX (bX1_runSearch_45 I0 z1) p1 = G
      unfold bX1_runSearch_45
      rw [if_pos (by omega)]
    · obtain ⟨p1, e1⟩ : ∃ p, m1 = p + 1 := ⟨m1 - 1, by omega⟩
      obtain ⟨p2, e2⟩ : ∃ p, m2 = p + 1 := ⟨m2 - 1, by omega⟩
      subst e1; subst e2
      have hs := hx.2.2.2.2.n
      obtain ⟨l1, l2, l3, -⟩ := hx.2.2.2.1 q hq
      have x1 := i_s hxk (show k < 100000 by omega)
      show ∃ (I' : Nat → Int32) (A' : Nat → Nat → Int32) (J' : Nat → Int32) (B' : Nat → Nat → Int32), bX1_runSearch_45 I0 z1 (itr_iiIA dfX (bX1_runSearch_45 I0 z1) p1) x lx I A = (0, I', A') ∧ bM12_fillsSearch_31 z1 (itr_iiIAL dfM (bM12_fillsSearch_31 z1) p2) x lm J B L = (0, J', B', L) ∧ _
      have nx := fun lx' lm' I' A' J' B' => ih p1 p2 (k + 1) (x + Int32.ofInt 1) lx' lm' I' A' J' B' (by omega) (by omega) (by omega) x1 (by omega)
      obtain ⟨GX, hGX⟩ : ∃ G, G = itr_iiIA dfX (bX1_runSearch_45 I0 z1) p1 := ⟨_, rfl⟩
      obtain ⟨GM, hGM⟩ : ∃ G, G = itr_iiIAL dfM (bM12_fillsSearch_31 z1) p2 := ⟨_, rfl⟩
      rw [← hGX, ← hGM] at nx ⊢
      unfold bX1_runSearch_45 bM12_fillsSearch_31
      dsimp only [f_lt]
      rw [if_neg (show ¬ (I0 18).toInt ≤ x.toInt by omega), if_neg (show ¬ 160 ≤ x.toInt by omega), x_len2 hx.2.1 hx.2.2.1 hz hq, ifp]
      show ∃ (I' : Nat → Int32) (A' : Nat → Nat → Int32) (J' : Nat → Int32) (B' : Nat → Nat → Int32), (if fX6_hasWindow I A x (A 9 q) = 0 then _ else _) = (0, I', A') ∧ _
      rcases x_winQ hx hq hxk with ⟨ew, w⟩ | ⟨ew, w⟩
      · have em : fM12_isOf J B L z1 x = 0 := by
          rcases m_isOfQ (L := L) hm hz hq hxk with ⟨e, -⟩ | ⟨-, w2⟩
          · exact e
          · rw [e17] at w2; exact absurd w2 w
        rw [ew, em, if_pos rfl, if_pos rfl]
        exact nx lx lm I A J B hl hx fl hm e17 q18 ht
      · have em : fM12_isOf J B L z1 x = 1 := by
          rcases m_isOfQ (L := L) hm hz hq hxk with ⟨-, w2⟩ | ⟨e, -⟩
          · rw [e17] at w2; exact absurd w w2
          · exact e
        rw [ew, em, if_neg (by decide), if_neg (by decide)]
        obtain ⟨A3, b1, b2, b3⟩ := x_secW hx hxk fl.1 fl.2.1 l3 w
        have fl3 : FL I A3 (ql q) (r 161).toInt (r 163).toInt (lvl r (ql q) (qv q)) := ⟨fl.1, fl.2.1, fl.2.2.1, fl.2.2.2.1, fun i hi => by rw [b2 21 rfl]; exact fl.2.2.2.2 i hi⟩
        have hx3 := hx.mv (I' := I) (A' := A3) rfl rfl rfl (b2 7 rfl) (b2 8 rfl) (b2 9 rfl) (b2 10 rfl)
        have tb := x_TB hx3 hq w ⟨hs.2.2.2.2.1, by omega⟩ fl3 b3
        obtain ⟨hw1, I4, A4, d1, d2, d3, d4, d5⟩ := x_look tb (z := lx) rfl
        obtain ⟨hw2, br, J4, B4, f1, f2, f3, f4, f5, f6⟩ := m_pass (L := L) hm hx.1.1 q18 hs.2.2.2.2.2.2.1 hs.2.2.2.2.2.2.2.1 ⟨hs.2.2.2.2.1, by omega⟩ hz hq hxk w (z3 := lm) rfl
        rw [b1, bdX_mk, d1, bdX_mk, f1, bdM_mk]
        have eq3 : hw1.toInt = hw2.toInt ∧ (I4 33).toInt = (J4 19).toInt ∧ (I4 34).toInt = br.toInt := by
          rcases hl with hl | ⟨hl1, hl2⟩
          · rw [hl] at d4; exact d4.uq f5
          · rw [hl1] at d4
            rw [hl2] at f5
            obtain ⟨g1, g2, g3⟩ := HOW.far tb.1.1 tb.1.2 hs.2.2.2.2.1 tb.2.2.2.2.1 tb.2.2.2.2.2 (by omega) d4
            obtain ⟨h1', h2', h3'⟩ := HOW.far tb.1.1 tb.1.2 hs.2.2.2.2.1 tb.2.2.2.2.1 tb.2.2.2.2.2 (by omega) f5
            exact ⟨by omega, by omega, by omega⟩
        have eh : hw1 = hw2 := Int32.toInt_inj.mp eq3.1
        have ec : I4 33 = J4 19 := Int32.toInt_inj.mp eq3.2.1
        subst eh
        -- the base of the next step
        have mA4 : ∀ j, j ≠ 21 → j ≠ 22 → j ≠ 23 → A4 j = A j := fun j g1 g2 g3 => by
          rw [d3 j (by simp only [List.contains_cons, List.contains_nil, Bool.or_false, beq_eq_false_iff_ne, ne_eq]; exact g3), b2 j (by simp only [List.contains_cons, List.contains_nil, Bool.or_false, beq_eq_false_iff_ne, ne_eq]; exact g2)]
        have t4 : ∀ i, i < 9 → A4 25 i = B4 25 i := fun i hi => by rw [mA4 25 (by decide) (by decide) (by decide), f3 25 rfl]; exact ht i hi
        have xn : ∀ A5 : Nat → Nat → Int32, (∀ j, j ≠ 25 → A5 j = A4 j) → XW I4 A5 r N nq ql qv ∧ FL I4 A5 (ql q) (r 161).toInt (r 163).toInt (lvl r (ql q) (qv q)) := fun A5 h9 => by
          refine ⟨hx.mv (d2 17 rfl) (d2 18 rfl) (d2 19 rfl) (by rw [h9 7 (by decide), mA4 7 (by decide) (by decide) (by decide)]) (by rw [h9 8 (by decide), mA4 8 (by decide) (by decide) (by decide)]) (by rw [h9 9 (by decide), mA4 9 (by decide) (by decide) (by decide)]) (by rw [h9 10 (by decide), mA4 10 (by decide) (by decide) (by decide)]), by rw [d2 28 rfl]; exact fl.1, by rw [d2 30 rfl]; exact fl.2.1, by rw [d2 31 rfl]; exact fl.2.2.1, by rw [d2 32 rfl]; exact fl.2.2.2.1, fun i hi => ?_⟩
          rw [h9 21 (by decide), d3 21 rfl]; exact fl3.2.2.2.2 i hi
        have mn : ∀ B5 : Nat → Nat → Int32, (∀ j, j ≠ 25 → B5 j = B4 j) → MW J4 B5 σ N nq ql qv ∧ B5 17 = r ∧ ∀ k, k < 165 → B5 18 k = r k := fun B5 h9 => by
          refine ⟨hm.mv (f2 15 rfl) (by rw [h9 10 (by decide), f3 10 rfl]) (by rw [h9 11 (by decide), f3 11 rfl]) (by rw [h9 12 (by decide), f3 12 rfl]) (by rw [h9 17 (by decide), f3 17 rfl]), by rw [h9 17 (by decide), f3 17 rfl]; exact e17, fun k9 h8 => ?_⟩
          rw [h9 18 (by decide), f3 18 rfl]; exact q18 k9 h8
        have g25 : B 25 = B4 25 := (f3 25 rfl).symm
        have u3 : ∀ (T : Nat → Nat → Int32) (i : Nat) (v : Int32) (j : Nat), j ≠ 25 → up3 T 25 i v j = T j := fun T i v j hj => up3_o hj
        rw [g25]
        unfold fX1_addToTally
        simp only [f_lt_eq]
        rw [ec, t4 0 (by omega)]
        by_cases c0 : hw1.toInt = 0
        · rw [if_neg (fun h9 => h9 c0), if_neg (fun h9 => h9 c0), bdX_mk, if_neg (fun h9 => h9 c0)]
          have ld := x_laid (I := I4) (A := A4) (by rw [d2 30 rfl]; exact fl.2.1) tb.1.1 tb.1.2 hs.2.2.2.2.1 (d5 c0)
          have ld2 : ∀ A5 : Nat → Nat → Int32, (∀ j, j ≠ 25 → A5 j = A4 j) → fX2_laidDistance I4 A5 = fX2_laidDistance I4 A4 := fun A5 h9 => by
            unfold fX2_laidDistance
            rw [h9 23 (by decide)]
          obtain ⟨A5, hA5⟩ : ∃ A5, A5 = up3 (up3 (up3 A4 25 0 (B4 25 0 + 1)) 25 6 (up3 A4 25 0 (B4 25 0 + 1) 25 6 + J4 19)) 25 7 (up3 (up3 A4 25 0 (B4 25 0 + 1)) 25 6 (up3 A4 25 0 (B4 25 0 + 1) 25 6 + J4 19) 25 7 + 1) := ⟨_, rfl⟩
          obtain ⟨B5, hB5⟩ : ∃ B5, B5 = up3 (up3 (up3 B4 25 0 (B4 25 0 + 1)) 25 7 (up3 B4 25 0 (B4 25 0 + 1) 25 7 + 1)) 25 6 (up3 (up3 B4 25 0 (B4 25 0 + 1)) 25 7 (up3 B4 25 0 (B4 25 0 + 1) 25 7 + 1) 25 6 + J4 19) := ⟨_, rfl⟩
          have oA : ∀ j, j ≠ 25 → A5 j = A4 j := fun j hj => by rw [hA5, u3 _ _ _ j hj, u3 _ _ _ j hj, u3 _ _ _ j hj]
          have oB : ∀ j, j ≠ 25 → B5 j = B4 j := fun j hj => by rw [hB5, u3 _ _ _ j hj, u3 _ _ _ j hj, u3 _ _ _ j hj]
          have t5 : ∀ i, i < 9 → A5 25 i = B5 25 i := fun i hi => by
            rw [hA5, hB5]
            simp only [up3_if]
            have e := t4 i hi
            have e7 := t4 7 (by omega)
            have e6 := t4 6 (by omega)
            by_cases i6 : i = 6
            · subst i6; simp [e6]
            · by_cases i7 : i = 7
              · subst i7; simp [e7]
              · by_cases i0 : i = 0
                · subst i0; simp
                · simp [i0, i6, i7, e]
          first
            | rw [← hA5, ← hB5, ld2 A5 oA]
            | rw [ld2 _ oA]
          refine nx _ _ I4 A5 J4 B5 (Or.inl ?_) (xn A5 oA).1 (xn A5 oA).2 (mn B5 oB).1 (mn B5 oB).2.1 (mn B5 oB).2.2 t5
          rw [ld, f6 c0]; rfl
        · have h15 : 1 ≤ hw1.toInt ∧ hw1.toInt ≤ 5 := by
            unfold HOW at d4
            rcases d4 with ⟨-, a, -⟩ | ⟨-, -, a, -⟩ | ⟨-, -, -, a, -⟩ | ⟨-, -, -, i0, -, a, -⟩ | ⟨-, -, -, -, -, a, -⟩ | ⟨-, -, -, -, -, a, -⟩ <;> omega
          obtain ⟨hn, hhn⟩ : ∃ hn : Nat, hw1.toInt = (hn : Int) := ⟨hw1.toInt.toNat, by omega⟩
          rw [if_pos c0, if_pos c0, if_neg (by omega), if_neg (by omega), clN hhn]
          by_cases c4 : hw1.toInt = 4
          · rw [if_neg (fun h9 => h9 c4), if_neg (fun h9 => h9 c4), bdX_mk, if_pos c0]
            have eb : I4 34 = J4 20 := by
              apply Int32.toInt_inj.mp
              have := eq3.2.2
              rw [f4] at this
              by_cases cb : (J4 20).toInt < 0
              · exfalso
                rw [if_pos cb] at this
                unfold HOW at d4
                have t2 : (-2 : Int32).toInt = -2 := rfl
                rcases d4 with ⟨-, a, -⟩ | ⟨-, -, a, -⟩ | ⟨-, -, -, a, -⟩ | ⟨-, -, -, i0, -, a, -, a3⟩ | ⟨-, -, -, -, -, a, -⟩ | ⟨-, -, -, -, -, a, -⟩ <;> omega
              · rw [if_neg cb] at this; exact this
            have h4 : hn = 4 := by omega
            subst h4
            rw [eb]
            obtain ⟨A5, hA5⟩ : ∃ A5, A5 = up3 (up3 (up3 (up3 A4 25 0 (B4 25 0 + 1)) 25 6 (up3 A4 25 0 (B4 25 0 + 1) 25 6 + J4 19)) 25 4 (up3 (up3 A4 25 0 (B4 25 0 + 1)) 25 6 (up3 A4 25 0 (B4 25 0 + 1) 25 6 + J4 19) 25 4 + 1)) 25 8 (up3 (up3 (up3 A4 25 0 (B4 25 0 + 1)) 25 6 (up3 A4 25 0 (B4 25 0 + 1) 25 6 + J4 19)) 25 4 (up3 (up3 A4 25 0 (B4 25 0 + 1)) 25 6 (up3 A4 25 0 (B4 25 0 + 1) 25 6 + J4 19) 25 4 + 1) 25 8 + (J4 20 + 1)) := ⟨_, rfl⟩
            obtain ⟨B5, hB5⟩ : ∃ B5, B5 = up3 (up3 (up3 (up3 B4 25 0 (B4 25 0 + 1)) 25 4 (up3 B4 25 0 (B4 25 0 + 1) 25 4 + 1)) 25 6 (up3 (up3 B4 25 0 (B4 25 0 + 1)) 25 4 (up3 B4 25 0 (B4 25 0 + 1) 25 4 + 1) 25 6 + J4 19)) 25 8 (up3 (up3 (up3 B4 25 0 (B4 25 0 + 1)) 25 4 (up3 B4 25 0 (B4 25 0 + 1) 25 4 + 1)) 25 6 (up3 (up3 B4 25 0 (B4 25 0 + 1)) 25 4 (up3 B4 25 0 (B4 25 0 + 1) 25 4 + 1) 25 6 + J4 19) 25 8 + (J4 20 + 1)) := ⟨_, rfl⟩
            have oA : ∀ j, j ≠ 25 → A5 j = A4 j := fun j hj => by rw [hA5, u3 _ _ _ j hj, u3 _ _ _ j hj, u3 _ _ _ j hj, u3 _ _ _ j hj]
            have oB : ∀ j, j ≠ 25 → B5 j = B4 j := fun j hj => by rw [hB5, u3 _ _ _ j hj, u3 _ _ _ j hj, u3 _ _ _ j hj, u3 _ _ _ j hj]
            have t5 : ∀ i, i < 9 → A5 25 i = B5 25 i := fun i hi => by
              rw [hA5, hB5]
              simp only [up3_if]
              have e := t4 i hi
              have e4 := t4 4 (by omega)
              have e6 := t4 6 (by omega)
              have e8 := t4 8 (by omega)
              by_cases i6 : i = 6
              · subst i6; simp [e6]
              · by_cases i4 : i = 4
                · subst i4; simp [e4]
                · by_cases i0 : i = 0
                  · subst i0; simp
                  · by_cases i8 : i = 8
                    · subst i8; simp [e8]
                    · simp [i0, i6, i4, i8, e]
            rw [← hA5, ← hB5]
            exact nx lx lm I4 A5 J4 B5 hl (xn A5 oA).1 (xn A5 oA).2 (mn B5 oB).1 (mn B5 oB).2.1 (mn B5 oB).2.2 t5
          · rw [if_pos c4, if_pos c4, bdX_mk, if_pos c0]
            obtain ⟨A5, hA5⟩ : ∃ A5, A5 = up3 (up3 (up3 A4 25 0 (B4 25 0 + 1)) 25 6 (up3 A4 25 0 (B4 25 0 + 1) 25 6 + J4 19)) 25 hn (up3 (up3 A4 25 0 (B4 25 0 + 1)) 25 6 (up3 A4 25 0 (B4 25 0 + 1) 25 6 + J4 19) 25 hn + 1) := ⟨_, rfl⟩
            obtain ⟨B5, hB5⟩ : ∃ B5, B5 = up3 (up3 (up3 B4 25 0 (B4 25 0 + 1)) 25 hn (up3 B4 25 0 (B4 25 0 + 1) 25 hn + 1)) 25 6 (up3 (up3 B4 25 0 (B4 25 0 + 1)) 25 hn (up3 B4 25 0 (B4 25 0 + 1) 25 hn + 1) 25 6 + J4 19) := ⟨_, rfl⟩
            have oA : ∀ j, j ≠ 25 → A5 j = A4 j := fun j hj => by rw [hA5, u3 _ _ _ j hj, u3 _ _ _ j hj, u3 _ _ _ j hj]
            have oB : ∀ j, j ≠ 25 → B5 j = B4 j := fun j hj => by rw [hB5, u3 _ _ _ j hj, u3 _ _ _ j hj, u3 _ _ _ j hj]
            have t5 : ∀ i, i < 9 → A5 25 i = B5 25 i := fun i hi => by
              rw [hA5, hB5]
              have e := t4 i hi
              have eh := t4 hn (by omega)
              have e6 := t4 6 (by omega)
              have n0 : hn ≠ 0 := by omega
              have n6 : hn ≠ 6 := by omega
              by_cases i6 : i = 6
              · subst i6
                rw [up3_ne (by omega), up3_at rfl, up3_at rfl, up3_ne (by omega), up3_ne (by omega), up3_ne (by omega), e6]
              · by_cases ih9 : i = hn
                · subst ih9
                  rw [up3_at rfl, up3_ne n6, up3_ne n0, up3_ne n6, up3_at rfl, up3_ne n0, eh]
                · rw [up3_ne ih9, up3_ne i6, up3_ne i6, up3_ne ih9]
                  by_cases i0 : i = 0
                  · rw [up3_at i0, up3_at i0]
                  · rw [up3_ne i0, up3_ne i0]; exact e
            rw [← hA5, ← hB5]
            exact nx lx lm I4 A5 J4 B5 hl (xn A5 oA).1 (xn A5 oA).2 (mn B5 oB).1 (mn B5 oB).2.1 (mn B5 oB).2.2 t5
end SEARCH
section ANS12
variable {I I' J J' : Nat → Int32} {A A' B B' : Nat → Nat → Int32} {M M' : Nat → Nat → Int64} {z z1 z2 z3 z4 v w : Int32}
theorem ans_search (h : RA I A J B M) (_ : IvX I A) (_ : IvM J B) (eX : FE (fX11_search I A z1 z2) (v, I', A')) (eM : FE (fM12_search J B M z1 z2) (w, J', B', M')) : v = w := by
  have eX2 : fX11_search I A z1 z2 = (v, I', A') := eX
  have eM2 : fM12_search J B M z1 z2 = (w, J', B', M') := eM
  obtain ⟨σ, N, nq, ql, qv, hx, hm⟩ := h.xm
  have hs := hx.2.2.2.2.n
  have t0 : (0 : Int32).toInt = 0 := rfl
  have t8 : (8 : Int32).toInt = 8 := rfl
  unfold fX11_search at eX2
  unfold fM12_search at eM2
  rw [m_isQuery hm.2.1 hm.2.2.1 hm.2.2.2.1 hm.2.2.2.2.1, m_in, if10, if10] at eM2
  rw [x_hasQ hx.2.1 hx.2.2.1, if10] at eX2
  have no : (z2.toInt < 0 ∨ 9 ≤ z2.toInt ∨ ¬ (0 ≤ z1.toInt ∧ z1.toInt < (nq : Int))) → v = -1 ∧ w = -1 := fun c => by
    constructor
    · by_cases c1 : z2.toInt < 0
      · rw [if_pos c1] at eX2; cases eX2; rfl
      · rw [if_neg c1] at eX2
        by_cases c2 : 9 ≤ z2.toInt
        · rw [if_pos c2] at eX2; cases eX2; rfl
        · rw [if_neg c2, if_neg (by omega)] at eX2; cases eX2; rfl
    · by_cases c0 : 0 ≤ z1.toInt ∧ z1.toInt < (nq : Int)
      · rw [if_pos c0, if_neg (by omega)] at eM2; cases eM2; rfl
      · rw [if_neg c0] at eM2; cases eM2; rfl
  by_cases c : z2.toInt < 0 ∨ 9 ≤ z2.toInt ∨ ¬ (0 ≤ z1.toInt ∧ z1.toInt < (nq : Int))
  · obtain ⟨p, q⟩ := no c
    rw [p, q]
  · have cq : 0 ≤ z1.toInt ∧ z1.toInt < (nq : Int) := by omega
    obtain ⟨q, hq⟩ : ∃ q : Nat, z1.toInt = (q : Int) := ⟨z1.toInt.toNat, by omega⟩
    rw [if_neg (by omega), if_neg (by omega), if_pos cq] at eX2
    rw [if_pos cq, if_pos (show (0 : Int32).toInt ≤ z2.toInt ∧ z2.toInt ≤ (8 : Int32).toInt by omega)] at eM2
    -- the tallies begin with 0, here and there
    have hX : ∃ (I1 : Nat → Int32) (A1 : Nat → Nat → Int32), fX1_runSearch I A z1 = itr_iiIA dfX (bX1_runSearch_45 I z1) FU 0 2147483647 I1 A1 ∧ XW I1 A1 (B 17) N nq ql qv ∧ FL I1 A1 (ql q) (B 17 161).toInt (B 17 163).toInt (lvl (B 17) (ql q) (qv q)) ∧ ∀ i, i < 9 → A1 25 i = 0 := by
      unfold fX1_runSearch
      refine run_iIA (Q := fun u => ∃ (I1 : Nat → Int32) (A1 : Nat → Nat → Int32), u = itr_iiIA dfX (bX1_runSearch_45 I z1) FU 0 2147483647 I1 A1 ∧ XW I1 A1 (B 17) N nq ql qv ∧ FL I1 A1 (ql q) (B 17 161).toInt (B 17 163).toInt (lvl (B 17) (ql q) (qv q)) ∧ ∀ i, i < 9 → A1 25 i = 0) 9 (fun k x I2 A2 => x.toInt = (k : Int) ∧ I2 = I ∧ Md [25] A A2 ∧ ∀ i, i < k → A2 25 i = 0) (fun G k x I2 A2 hk hP => ?_) FU 0 0 I A ⟨rfl, rfl, Md.rf, fun i hi => by omega⟩ (by omega) (fu_lt (by omega))
      obtain ⟨hxk, eI, mA, hi⟩ := hP
      unfold bX1_runSearch_2
      simp only [f_lt_eq]
      by_cases d : 9 ≤ x.toInt
      · rw [if_pos d]
        right
        have hx2 := hx.mv (I' := I2) (A' := A2) (by rw [eI]) (by rw [eI]) (by rw [eI]) (mA 7 rfl) (mA 8 rfl) (mA 9 rfl) (mA 10 rfl)
        obtain ⟨I3, A3, a1, a2, a3, a4⟩ := x_openQ hx2 (z2 := A2 10 0) (b := (B 17 161).toInt) hq (by omega) (by rw [mA 10 rfl]; exact hs.1) hs.2.2.2.2.1
        rw [x_vOf (z := 0) (k := 0) rfl (by omega), a1, bdX_mk]
        exact ⟨I3, A3, rfl, hx2.mv (a2 17 rfl) (a2 18 rfl) (a2 19 rfl) (a3 7 rfl) (a3 8 rfl) (a3 9 rfl) (a3 10 rfl), a4, fun i h9 => by rw [a3 25 rfl]; exact hi i (by omega)⟩
      · rw [if_neg d, clN hxk]
        left
        refine ⟨by omega, _, _, _, rfl, i_s hxk (by omega), eI, Md.up3 mA rfl, fun i h9 => ?_⟩
        by_cases e : i = k
        · exact up3_at e
        · rw [up3_ne e]; exact hi i (by omega)
    have hM : ∃ B1 : Nat → Nat → Int32, fM12_fillsSearch J B M z1 = itr_iiIAL dfM (bM12_fillsSearch_31 z1) FU 0 2000000000 J B1 M ∧ MW J B1 σ N nq ql qv ∧ B1 17 = B 17 ∧ (∀ k, k < 165 → B1 18 k = B 17 k) ∧ ∀ i, i < 9 → B1 25 i = 0 := by
      unfold fM12_fillsSearch fM12_copies
      rw [bdM_mk]
      refine run_iIAL (Q := fun u => ∃ B1 : Nat → Nat → Int32, u = itr_iiIAL dfM (bM12_fillsSearch_31 z1) FU 0 2000000000 J B1 M ∧ MW J B1 σ N nq ql qv ∧ B1 17 = B 17 ∧ (∀ k, k < 165 → B1 18 k = B 17 k) ∧ ∀ i, i < 9 → B1 25 i = 0) 9 (fun k x J2 B2 L2 => x.toInt = (k : Int) ∧ J2 = J ∧ L2 = M ∧ Md [18, 25] B B2 ∧ (∀ k, k < 165 → B2 18 k = B 17 k) ∧ ∀ i, i < k → B2 25 i = 0) (fun G k x J2 B2 L2 hk hP => ?_) FU 0 0 J _ M ⟨rfl, rfl, rfl, Md.up2 Md.rf rfl, m_cp, fun i hi => by omega⟩ (by omega) (fu_lt (by omega))
      obtain ⟨hxk, eJ, eL, mB, q18, hi⟩ := hP
      unfold bM12_fillsSearch_6
      simp only [f_lt_eq]
      by_cases d : 9 ≤ x.toInt
      · rw [if_pos d, eJ, eL]
        right
        exact ⟨B2, rfl, hm.mv rfl (mB 10 rfl) (mB 11 rfl) (mB 12 rfl) (mB 17 rfl), mB 17 rfl, q18, fun i h9 => hi i (by omega)⟩
      · rw [if_neg d, clN hxk]
        left
        refine ⟨by omega, _, _, _, _, rfl, i_s hxk (by omega), eJ, eL, Md.up3 mB rfl, fun k9 h9 => by rw [up3_o (by decide)]; exact q18 k9 h9, fun i h9 => ?_⟩
        by_cases e : i = k
        · exact up3_at e
        · rw [up3_ne e]; exact hi i (by omega)
    obtain ⟨I1, A1, a1, a2, a3, a4⟩ := hX
    obtain ⟨B1, b1, b2, b3, b4, b5⟩ := hM
    obtain ⟨I5, A5, J5, B5, e1, e2, e3⟩ := search_sim (L := M) (I0 := I) hq (by omega) hx.1.2.1 hx.1.1.2.1 N FU FU 0 0 2147483647 2000000000 I1 A1 J B1 (by omega) (by have := FU_eq; have := hx.1.1.2.1; omega) (by have := FU_eq; have := hx.1.1.2.1; omega) rfl (by omega) (Or.inr ⟨rfl, rfl⟩) a2 a3 b2 b3 b4 (fun i hi => by rw [a4 i hi, b5 i hi])
    rw [a1, e1, bdX_mk] at eX2
    rw [b1, e2, bdM_mk] at eM2
    obtain ⟨i, hi⟩ : ∃ i : Nat, z2.toInt = (i : Int) := ⟨z2.toInt.toNat, by omega⟩
    rw [clN hi] at eX2 eM2
    cases eX2; cases eM2
    exact e3 i (by omega)
end ANS12
end
section
theorem cnR_lt {p p' : Nat → Prop} : ∀ n, (∀ i : Nat, i < n → p' i → p i) → ∀ c, c < n → p c → ¬ p' c → cnR p' n + 1 ≤ cnR p n := by
  have le : ∀ n, (∀ i : Nat, i < n → p' i → p i) → cnR p' n ≤ cnR p n := by
    intro n
    induction n with
    | zero => intro _; exact Nat.le_refl 0
    | succ n ih =>
      intro h
      have := ih (fun i hi => h i (by omega))
      by_cases c1 : p' n
      · rw [cnR_t c1, cnR_t (h n (by omega) c1)]; omega
      · rw [cnR_f c1]
        by_cases c2 : p n
        · rw [cnR_t c2]; omega
        · rw [cnR_f c2]; exact this
  intro n
  induction n with
  | zero => intro _ c hc; omega
  | succ n ih =>
    intro h c hc pc npc
    by_cases e : c = n
    · subst e
      have := le c (fun i hi => h i (by omega))
      rw [cnR_f npc, cnR_t pc]; omega
    · have := ih (fun i hi => h i (by omega)) c (by omega) pc npc
      by_cases c1 : p' n
      · rw [cnR_t c1, cnR_t (h n (by omega) c1)]; omega
      · rw [cnR_f c1]
        by_cases c2 : p n
        · rw [cnR_t c2]; omega
        · rw [cnR_f c2]; exact this
theorem x_leastS {I : Nat → Int32} {A : Nat → Nat → Int32} {f : Nat → Int} (hf : ∀ s, (A 26 s).toInt = f s) : (bwR f 160 < 0 ∧ (fX1_leastScanned I A).toInt = -1) ∨ (0 ≤ bwR f 160 ∧ (fX1_leastScanned I A).toInt = bwR f 160) := by
  unfold fX1_leastScanned
  have fv : ∀ s, f s = (A 26 s).toInt := fun s => (hf s).symm
  refine run_ii (Q := fun (w : Int32) => (bwR f 160 < 0 ∧ w.toInt = -1) ∨ (0 ≤ bwR f 160 ∧ w.toInt = bwR f 160)) 160 (fun k x y => x.toInt = (k : Int) ∧ ((bwR f k < 0 ∧ y.toInt = -1) ∨ (0 ≤ bwR f k ∧ y.toInt = bwR f k))) (fun G k x y hk hP => ?_) FU 0 0 (-1) ⟨rfl, Or.inl ⟨by show (-2 : Int) < 0; decide, rfl⟩⟩ (by omega) (fu_lt (by omega))
  obtain ⟨hx, hy⟩ := hP
  have o := bwR_ok (f := f) k
  have e : bwR f (k + 1) = if 0 ≤ f k ∧ (bwR f k < 0 ∨ f k < f (bwR f k).toNat) then (k : Int) else bwR f k := rfl
  unfold bX1_leastScanned_4
  dsimp only [f_lt]
  by_cases c : 160 ≤ x.toInt
  · rw [if_pos c]; right
    have ek : k = 160 := by omega
    subst ek; exact hy
  · rw [if_neg c, clN hx]
    left
    refine ⟨by omega, ?_⟩
    by_cases c1 : (A 26 k).toInt < 0
    · rw [if_pos c1]
      exact ⟨_, _, rfl, i_s hx (by omega), by rw [bwR_s (by rw [fv]; exact c1)]; exact hy⟩
    · rw [if_neg c1]
      by_cases c2 : y.toInt < 0
      · rw [if_pos c2]
        have : bwR f k < 0 := by omega
        exact ⟨_, _, rfl, i_s hx (by omega), by rw [e, if_pos ⟨by rw [fv]; omega, Or.inl this⟩]; exact Or.inr ⟨by omega, hx⟩⟩
      · rw [if_neg c2]
        obtain ⟨u, hu⟩ : ∃ u : Nat, y.toInt = (u : Int) := ⟨y.toInt.toNat, by omega⟩
        have ub : (bwR f k).toNat = u := by omega
        have bk : bwR f k = (u : Int) := by omega
        rw [clN hu]
        by_cases c3 : (A 26 u).toInt ≤ (A 26 k).toInt
        · rw [if_pos c3]
          exact ⟨_, _, rfl, i_s hx (by omega), by rw [e, if_neg (fun h9 => by rw [ub, fv, fv] at h9; omega)]; exact hy⟩
        · rw [if_neg c3]
          exact ⟨_, _, rfl, i_s hx (by omega), by rw [e, if_pos ⟨by rw [fv]; omega, Or.inr (by rw [ub, fv, fv]; omega)⟩]; exact Or.inr ⟨by omega, hx⟩⟩
theorem x_pass {I : Nat → Int32} {A : Nat → Nat → Int32} {ap : Int} {c : Nat} {z : Int32} (hz : z.toInt = (c : Int)) (hc : c < 160) (ha : (A 10 3).toInt = ap) : ∃ A' : Nat → Nat → Int32, fX1_passOverAround I A z = (0, I, A') ∧ Md [26] A A' ∧ ∀ t : Nat, t < 160 → (((t : Int) - c < ap ∧ (c : Int) - t < ap ∧ (A' 26 t).toInt = -1) ∨ (¬ ((t : Int) - c < ap ∧ (c : Int) - t < ap) ∧ A' 26 t = A 26 t)) := by
  unfold fX1_passOverAround
  rw [f_lt_eq, x_vOf (z := 3) (k := 3) rfl (by omega)]
  refine run_iIA (Q := fun u => ∃ A' : Nat → Nat → Int32, u = (0, I, A') ∧ Md [26] A A' ∧ ∀ t : Nat, t < 160 → (((t : Int) - c < ap ∧ (c : Int) - t < ap ∧ (A' 26 t).toInt = -1) ∨ (¬ ((t : Int) - c < ap ∧ (c : Int) - t < ap) ∧ A' 26 t = A 26 t))) 160 (fun k x I1 A1 => x.toInt = (k : Int) ∧ I1 = I ∧ Md [26] A A1 ∧ (∀ t : Nat, t < k → (((t : Int) - c < ap ∧ (c : Int) - t < ap ∧ (A1 26 t).toInt = -1) ∨ (¬ ((t : Int) - c < ap ∧ (c : Int) - t < ap) ∧ A1 26 t = A 26 t))) ∧ ∀ t, k ≤ t → A1 26 t = A 26 t) (fun G k x I1 A1 hk hP => ?_) FU 0 0 I A ⟨rfl, rfl, Md.rf, fun t h9 => by omega, fun t _ => rfl⟩ (by omega) (fu_lt (by omega))
  obtain ⟨hx, eI, mA, h1, h2⟩ := hP
  have t0 : (0 : Int32).toInt = 0 := rfl
  unfold bX1_passOverAround_14
  dsimp only [f_lt]
  by_cases c9 : 160 ≤ x.toInt
  · rw [if_pos c9, eI]; right; exact ⟨A1, rfl, mA, fun t h9 => h1 t (by omega)⟩
  · rw [if_neg c9, clN hx]
    left
    have d := i32_sub (x := x) (y := z) rfl hx hz (by omega) (by omega)
    obtain ⟨y, hy⟩ : ∃ y, y = x - z := ⟨_, rfl⟩
    rw [← hy] at d ⊢
    have ab : ((if 0 ≤ y then y else 0 - y).toInt = if (k : Int) - c < 0 then (c : Int) - k else (k : Int) - c) := by
      by_cases c0 : 0 ≤ y
      · have := Int32.le_iff_toInt_le.mp c0
        rw [if_pos c0, if_neg (by omega)]; omega
      · have : ¬ 0 ≤ y.toInt := fun h9 => c0 (Int32.le_iff_toInt_le.mpr h9)
        rw [if_neg c0, if_pos (by omega)]
        have := i32_sub (x := 0) (y := y) (a := 0) rfl rfl d (by omega) (by omega)
        omega
    refine ⟨by omega, ?_⟩
    by_cases c1 : (A 10 3).toInt ≤ (if 0 ≤ y then y else 0 - y).toInt
    · rw [if_pos c1]
      refine ⟨_, _, _, rfl, i_s hx (by omega), eI, mA, fun t h9 => ?_, fun t h9 => h2 t (by omega)⟩
      by_cases e : t = k
      · right
        subst e
        refine ⟨fun h8 => ?_, h2 t (Nat.le_refl t)⟩
        rw [ab] at c1
        split at c1 <;> omega
      · exact h1 t (by omega)
    · rw [if_neg c1]
      refine ⟨_, _, _, rfl, i_s hx (by omega), eI, Md.up3 mA rfl, fun t h9 => ?_, fun t h9 => by rw [up3_ne (by omega)]; exact h2 t (by omega)⟩
      by_cases e : t = k
      · left
        subst e
        rw [ab] at c1
        rw [up3_at rfl]
        refine ⟨?_, ?_, rfl⟩ <;> split at c1 <;> omega
      · rw [up3_ne e]; exact h1 t (by omega)
/-- apart from all that were chosen -/
def apR (ap : Int) (ch : Nat → Int) (m : Nat) (s : Int) : Prop := ∀ k : Nat, k < m → ¬ (s - ch k < ap ∧ ch k - s < ap)
theorem m_apart {J : Nat → Int32} {B : Nat → Nat → Int32} {L : Nat → Nat → Int64} {ap : Int} {m : Nat} {z : Int32} {s : Nat} (hz : z.toInt = (s : Int)) (hs : s < 160) (ha : (B 18 164).toInt = ap) (ha1 : 1 ≤ ap ∧ ap ≤ 99) (hm : (J 24).toInt = (m : Int)) (hm2 : m ≤ 160) (hc : ∀ k : Nat, k < m → 0 ≤ (B 26 k).toInt ∧ (B 26 k).toInt < 160) : (fM12_isApart J B L z = 1 ∧ apR ap (fun k => (B 26 k).toInt) m (s : Int)) ∨ (fM12_isApart J B L z = 0 ∧ ¬ apR ap (fun k => (B 26 k).toInt) m (s : Int)) := by
  unfold fM12_isApart
  refine run_i (Q := fun (u : Int32) => (u = 1 ∧ apR ap (fun k => (B 26 k).toInt) m (s : Int)) ∨ (u = 0 ∧ ¬ apR ap (fun k => (B 26 k).toInt) m (s : Int))) m (fun k x => x.toInt = (k : Int) ∧ apR ap (fun k => (B 26 k).toInt) k (s : Int)) (fun G k x hk hP => ?_) FU 0 0 ⟨rfl, fun k h9 => by omega⟩ (by omega) (fu_lt (by omega))
  obtain ⟨hx, hap⟩ := hP
  unfold bM12_isApart_2
  dsimp only [f_lt]
  by_cases c : (J 24).toInt ≤ x.toInt
  · rw [if_pos c]
    right; left
    have ek : k = m := by omega
    subst ek; exact ⟨rfl, hap⟩
  · rw [if_neg c, clN hx]
    have cb := hc k (by omega)
    have d1 := i32_sub (x := z) (y := B 26 k) rfl hz rfl (by omega) (by omega)
    have d2 := i32_sub (x := 1) (y := B 18 164) (a := 1) rfl rfl ha (by omega) (by omega)
    have d3 := i32_sub (x := B 18 164) (y := 1) (b := 1) rfl ha rfl (by omega) (by omega)
    rw [m_in, if10]
    by_cases c1 : (1 - B 18 164).toInt ≤ (z - B 26 k).toInt ∧ (z - B 26 k).toInt ≤ (B 18 164 - 1).toInt
    · rw [if_pos c1]
      right; right
      refine ⟨rfl, fun h9 => h9 k (by omega) ⟨by show (s : Int) - (B 26 k).toInt < ap; omega, by show (B 26 k).toInt - (s : Int) < ap; omega⟩⟩
    · rw [if_neg c1]
      left
      refine ⟨by omega, _, rfl, i_s hx (by omega), fun k9 h9 => ?_⟩
      by_cases e : k9 = k
      · subst e
        intro h8
        have h7 : (s : Int) - (B 26 k9).toInt < ap ∧ (B 26 k9).toInt - (s : Int) < ap := h8
        exact c1 ⟨by omega, by omega⟩
      · exact hap k9 (by omega)
/-- one more of the best that are apart, as the reference looks for it -/
theorem m_next {J : Nat → Int32} {B : Nat → Nat → Int32} {L : Nat → Nat → Int64} {ap : Int} {m : Nat} {K : Int32 → (Nat → Int32) → (Nat → Nat → Int32) → (Nat → Nat → Int64) → (Int32 × (Nat → Int32) × (Nat → Nat → Int32) × (Nat → Nat → Int64))} {B0 : Nat → Nat → Int32} {g : Nat → Int} (e24 : ∀ s : Nat, s < 160 → B0 24 s = B 24 s) (ha : (B 18 164).toInt = ap) (ha1 : 1 ≤ ap ∧ ap ≤ 99) (hm : (J 24).toInt = (m : Int)) (hm2 : m ≤ 160) (hc : ∀ k : Nat, k < m → 0 ≤ (B 26 k).toInt ∧ (B 26 k).toInt < 160) (hg : ∀ s : Nat, s < 160 → (apR ap (fun k => (B 26 k).toInt) m (s : Int) ∧ g s = (B 24 s).toInt) ∨ (¬ apR ap (fun k => (B 26 k).toInt) m (s : Int) ∧ g s = -1)) : itr_ii dfM (bM12_fillsMatches_20 J K B L B0) FU 0 (-1) = if bwR g 160 < 0 then (0, J, B, L) else K (nI (bwR g 160).toNat) (upd J 24 (J 24 + 1)) (up3 B 26 m (nI (bwR g 160).toNat)) L := by
  refine run_ii (Q := fun u => u = if bwR g 160 < 0 then (0, J, B, L) else K (nI (bwR g 160).toNat) (upd J 24 (J 24 + 1)) (up3 B 26 m (nI (bwR g 160).toNat)) L) 160 (fun k x y => x.toInt = (k : Int) ∧ ((bwR g k < 0 ∧ y.toInt = -1) ∨ (0 ≤ bwR g k ∧ y.toInt = bwR g k))) (fun G k x y hk hP => ?_) FU 0 0 (-1) ⟨rfl, Or.inl ⟨by show (-2 : Int) < 0; decide, rfl⟩⟩ (by omega) (fu_lt (by omega))
  obtain ⟨hx, hy⟩ := hP
  have o := bwR_ok (f := g) k
  have e : bwR g (k + 1) = if 0 ≤ g k ∧ (bwR g k < 0 ∨ g k < g (bwR g k).toNat) then (k : Int) else bwR g k := rfl
  unfold bM12_fillsMatches_20
  dsimp only [f_lt]
  by_cases c : 160 ≤ x.toInt
  · rw [if_pos c]; right
    have ek : k = 160 := by omega
    subst ek
    by_cases c1 : 0 ≤ y.toInt
    · rw [if_pos c1, if_neg (by omega), clN hm, nI_nat (k := (bwR g 160).toNat) (show y.toInt = (((bwR g 160).toNat : Nat) : Int) by omega) (by omega)]
    · rw [if_neg c1, if_pos (by omega)]
  · rw [if_neg c, clN hx, e24 k (by omega)]
    left
    refine ⟨by omega, ?_⟩
    have gk := hg k (by omega)
    have skip : g k < 0 → ∃ x0' x1' : Int32, G (x + Int32.ofInt 1) y = G x0' x1' ∧ x0'.toInt = ((k + 1 : Nat) : Int) ∧ ((bwR g (k + 1) < 0 ∧ x1'.toInt = -1) ∨ (0 ≤ bwR g (k + 1) ∧ x1'.toInt = bwR g (k + 1))) := fun h9 => ⟨_, _, rfl, i_s hx (by omega), by rw [bwR_s h9]; exact hy⟩
    by_cases c1 : (B 24 k).toInt < 0
    · rw [if_pos c1]
      exact skip (by rcases gk with ⟨-, g1⟩ | ⟨-, g1⟩ <;> omega)
    · rw [if_neg c1]
      rcases m_apart (J := J) (B := B) (L := L) hx (by omega) ha ha1 hm hm2 hc with ⟨a1, a2⟩ | ⟨a1, a2⟩
      · rw [a1, if_neg (by decide)]
        have ge : g k = (B 24 k).toInt := by
          rcases gk with ⟨-, g1⟩ | ⟨g0, -⟩
          · exact g1
          · exact absurd a2 g0
        clear gk skip
        by_cases c2 : y.toInt < 0
        · rw [if_pos c2]
          have : bwR g k < 0 := by omega
          exact ⟨_, _, rfl, i_s hx (by omega), by rw [e, if_pos ⟨by omega, Or.inl this⟩]; exact Or.inr ⟨by omega, hx⟩⟩
        · rw [if_neg c2]
          obtain ⟨u, hu⟩ : ∃ u : Nat, y.toInt = (u : Int) := ⟨y.toInt.toNat, by omega⟩
          have ub : (bwR g k).toNat = u := by omega
          have u3 : 0 ≤ g u := by
            rcases o with o | ⟨-, -, o3⟩
            · omega
            · rwa [ub] at o3
          have gu : g u = (B 24 u).toInt := by
            rcases hg u (by omega) with ⟨-, g1⟩ | ⟨-, g1⟩
            · exact g1
            · omega
          rw [clN hu, e24 u (by omega)]
          by_cases c3 : (B 24 u).toInt ≤ (B 24 k).toInt
          · rw [if_pos c3]
            exact ⟨_, _, rfl, i_s hx (by omega), by rw [e, if_neg (fun h9 => by rw [ub] at h9; omega)]; exact hy⟩
          · rw [if_neg c3]
            exact ⟨_, _, rfl, i_s hx (by omega), by rw [e, if_pos ⟨by omega, Or.inr (by rw [ub]; omega)⟩]; exact Or.inr ⟨by omega, hx⟩⟩
      · rw [a1, if_pos rfl]
        exact skip (by rcases gk with ⟨g0, -⟩ | ⟨-, g1⟩
                       · exact absurd g0 a2
                       · omega)
theorem itr_iIAL_s {ρ : Type} {d : ρ} {b : (Int32 → (Nat → Int32) → (Nat → Nat → Int32) → (Nat → Nat → Int64) → ρ) → Int32 → (Nat → Int32) → (Nat → Nat → Int32) → (Nat → Nat → Int64) → ρ} {m : Nat} {x : Int32} {I : Nat → Int32} {A : Nat → Nat → Int32} {L : Nat → Nat → Int64} : itr_iIAL d b (m + 1) x I A L = b (itr_iIAL d b m) x I A L := rfl
theorem itr_iiIA_s {ρ : Type} {d : ρ} {b : (Int32 → Int32 → (Nat → Int32) → (Nat → Nat → Int32) → ρ) → Int32 → Int32 → (Nat → Int32) → (Nat → Nat → Int32) → ρ} {m : Nat} {x y : Int32} {I : Nat → Int32} {A : Nat → Nat → Int32} : itr_iiIA d b (m + 1) x y I A = b (itr_iiIA d b m) x y I A := rfl
theorem fm12_eq {B0 B : Nat → Nat → Int32} {J : Nat → Int32} {L : Nat → Nat → Int64} {zd : Int32} {K : Int32 → (Nat → Int32) → (Nat → Nat → Int32) → (Nat → Nat → Int64) → (Int32 × (Nat → Int32) × (Nat → Nat → Int32) × (Nat → Nat → Int64))} : bM12_fillsMatches_12 B0 K zd J B L = itr_ii dfM (bM12_fillsMatches_20 J K B L B0) FU 0 (-1) := rfl
/-- the few best that are apart: the same here and there -/
theorem match_sim {L : Nat → Nat → Int64} {ap : Int} {B0 : Nat → Nat → Int32} (ha1 : 1 ≤ ap ∧ ap ≤ 99) : ∀ (d m1 m2 m : Nat) (zn zs zd : Int32) (I : Nat → Int32) (A : Nat → Nat → Int32) (J : Nat → Int32) (B : Nat → Nat → Int32) (F : Nat → Int), (∀ s, (A 26 s).toInt = F s) → cnR (fun s => 0 ≤ F s) 160 ≤ d → d < m1 → d < m2 → d + m ≤ 160 → zn.toInt = (m : Int) → ((bwR F 160 < 0 ∧ zs.toInt = -1) ∨ (0 ≤ bwR F 160 ∧ zs.toInt = bwR F 160)) → (A 10 3).toInt = ap → (B 18 164).toInt = ap → (I 37).toInt = (m : Int) → (J 24).toInt = (m : Int) → (∀ s : Nat, s < 160 → B 24 s = B0 24 s) → (∀ k : Nat, k < m → A 27 k = B 26 k ∧ A 28 k = B 24 (B 26 k).toNatClampNeg ∧ 0 ≤ (B 26 k).toInt ∧ (B 26 k).toInt < 160 ∧ 0 ≤ (B 24 (B 26 k).toNatClampNeg).toInt) → (∀ s : Nat, s < 160 → (apR ap (fun k => (B 26 k).toInt) m (s : Int) ∧ A 26 s = B 24 s) ∨ (¬ apR ap (fun k => (B 26 k).toInt) m (s : Int) ∧ (A 26 s).toInt = -1)) → ∃ (I' : Nat → Int32) (A' : Nat → Nat → Int32) (J' : Nat → Int32) (B' : Nat → Nat → Int32) (n : Nat), itr_iiIA dfX bX1_findMatches_17 m1 zn zs I A = (0, I', A') ∧ itr_iIAL dfM (bM12_fillsMatches_12 B0) m2 zd J B L = (0, J', B', L) ∧ Md [37] I I' ∧ Md [26, 27, 28] A A' ∧ Md [24] J J' ∧ Md [26] B B' ∧ n ≤ 160 ∧ (I' 37).toInt = (n : Int) ∧ (J' 24).toInt = (n : Int) ∧ ∀ k : Nat, k < n → A' 27 k = B' 26 k ∧ A' 28 k = B' 24 (B' 26 k).toNatClampNeg ∧ 0 ≤ (B' 26 k).toInt ∧ (B' 26 k).toInt < 160 ∧ 0 ≤ (B' 24 (B' 26 k).toNatClampNeg).toInt := by
  intro d
  induction d with
  | zero =>
    intro m1 m2 m zn zs zd I A J B F hF hd h1 h2 hdm hzn hzs ha hb h37 h24 e24 hk hg
    obtain ⟨p1, e1⟩ : ∃ p, m1 = p + 1 := ⟨m1 - 1, by omega⟩
    obtain ⟨p2, e2⟩ : ∃ p, m2 = p + 1 := ⟨m2 - 1, by omega⟩
    subst e1; subst e2
    -- none is left
    have none : bwR F 160 < 0 := by
      rcases bwR_ok (f := F) 160 with o | ⟨o1, o2, o3⟩
      · omega
      · exfalso
        have l := cnR_lt (p := fun s => 0 ≤ F s) (p' := fun _ => False) 160 (fun _ _ h9 => h9.elim) (bwR F 160).toNat (by omega) o3 (fun h9 => h9)
        omega
    refine ⟨I, A, J, B, m, ?_, ?_, Md.rf, Md.rf, Md.rf, Md.rf, by omega, h37, h24, hk⟩
    · show bX1_findMatches_17 (itr_iiIA dfX bX1_findMatches_17 p1) zn zs I A = _
      generalize itr_iiIA dfX bX1_findMatches_17 p1 = G
      unfold bX1_findMatches_17
      by_cases c : 160 ≤ zn.toInt
      · rw [if_pos c]
      · rw [if_neg c, if_pos (by omega)]
    · rw [itr_iIAL_s, fm12_eq, m_next (g := F) (fun s h9 => (e24 s h9).symm) hb ha1 h24 (by omega) (fun k h9 => ⟨(hk k h9).2.2.1, (hk k h9).2.2.2.1⟩) (fun s h9 => by
        rcases hg s h9 with ⟨g1, g2⟩ | ⟨g1, g2⟩
        · exact Or.inl ⟨g1, by rw [← hF, g2]⟩
        · exact Or.inr ⟨g1, by rw [← hF]; exact g2⟩), if_pos none]
  | succ d ih =>
    intro m1 m2 m zn zs zd I A J B F hF hd h1 h2 hdm hzn hzs ha hb h37 h24 e24 hk hg
    obtain ⟨p1, e1⟩ : ∃ p, m1 = p + 1 := ⟨m1 - 1, by omega⟩
    obtain ⟨p2, e2⟩ : ∃ p, m2 = p + 1 := ⟨m2 - 1, by omega⟩
    subst e1; subst e2
    have nxt := m_next (J := J) (B := B) (L := L) (K := itr_iIAL dfM (bM12_fillsMatches_12 B0) p2) (B0 := B0) (g := F) (fun s h9 => (e24 s h9).symm) hb ha1 h24 (by omega) (fun k h9 => ⟨(hk k h9).2.2.1, (hk k h9).2.2.2.1⟩) (fun s h9 => by
      rcases hg s h9 with ⟨g1, g2⟩ | ⟨g1, g2⟩
      · exact Or.inl ⟨g1, by rw [← hF, g2]⟩
      · exact Or.inr ⟨g1, by rw [← hF]; exact g2⟩)
    rw [itr_iIAL_s, itr_iiIA_s]
    obtain ⟨GX, hGX⟩ : ∃ G, G = itr_iiIA dfX bX1_findMatches_17 p1 := ⟨_, rfl⟩
    obtain ⟨GM, hGM⟩ : ∃ G, G = itr_iIAL dfM (bM12_fillsMatches_12 B0) p2 := ⟨_, rfl⟩
    have ih' := fun zn' zs' zd' I' A' J' B' F' => ih p1 p2 (m + 1) zn' zs' zd' I' A' J' B' F'
    rw [← hGX, ← hGM] at ih' ⊢
    rw [← hGM] at nxt
    rw [fm12_eq, nxt]
    rcases hzs with ⟨z1, z2⟩ | ⟨z1, z2⟩
    · rw [if_pos z1]
      refine ⟨I, A, J, B, m, ?_, rfl, Md.rf, Md.rf, Md.rf, Md.rf, by omega, h37, h24, hk⟩
      unfold bX1_findMatches_17
      by_cases c : 160 ≤ zn.toInt
      · rw [if_pos c]
      · rw [if_neg c, if_pos (by omega)]
    · rw [if_neg (by omega)]
      rcases bwR_ok (f := F) 160 with o | ⟨o1, o2, o3⟩
      · omega
      obtain ⟨c, hc⟩ : ∃ c : Nat, bwR F 160 = (c : Int) := ⟨(bwR F 160).toNat, by omega⟩
      have hcn : (bwR F 160).toNat = c := by omega
      rw [hcn] at o3 ⊢
      have c160 : c < 160 := by omega
      have zc : zs.toInt = (c : Int) := by omega
      have zsn : zs = nI c := nI_nat zc (by omega)
      have fc : 0 ≤ (A 26 c).toInt := by rw [hF]; exact o3
      have gc := hg c c160
      have ac : A 26 c = B 24 c := by
        rcases gc with ⟨-, g2⟩ | ⟨-, g2⟩
        · exact g2
        · omega
      have n1 : (zn + 1).toInt = ((m + 1 : Nat) : Int) := by rw [i32_inc (by omega)]; omega
      have j1 : (J 24 + 1).toInt = ((m + 1 : Nat) : Int) := by rw [i32_inc (by omega)]; omega
      obtain ⟨A1, hA1⟩ : ∃ A1, A1 = up3 (up3 A 27 m zs) 28 m (A 26 c) := ⟨_, rfl⟩
      obtain ⟨A2, p3, p4, p5⟩ := x_pass (I := upd I 37 (zn + 1)) (A := A1) (ap := ap) (z := zs) zc c160 (by rw [hA1]; exact ha)
      have bx : bX1_findMatches_17 GX zn zs I A = GX (zn + Int32.ofInt 1) (fX1_leastScanned (upd I 37 (zn + 1)) A2) (upd I 37 (zn + 1)) A2 := by
        unfold bX1_findMatches_17
        dsimp only [f_lt]
        rw [if_neg (by omega), if_neg (by omega), clN hzn, clN zc, ← hA1, p3, bdX_mk]
      rw [bx]
      have a26 : A1 26 = A 26 := by rw [hA1]; rfl
      -- the next step's facts
      have B26 : ∀ k, (up3 B 26 m (nI c)) 26 k = if k = m then nI c else B 26 k := fun k => up3_if
      have nc : (nI c).toInt = (c : Int) := nI_toInt (by omega)
      have apN : ∀ s : Nat, s < 160 → (apR ap (fun k => ((up3 B 26 m (nI c)) 26 k).toInt) (m + 1) (s : Int) ↔ apR ap (fun k => (B 26 k).toInt) m (s : Int) ∧ ¬ ((s : Int) - c < ap ∧ (c : Int) - s < ap)) := fun s hs => by
        unfold apR
        constructor
        · intro h9
          refine ⟨fun k hk9 => ?_, ?_⟩
          · have := h9 k (by omega)
            dsimp only at this
            rw [show ((up3 B 26 m (nI c)) 26 k) = B 26 k from up3_ne (by omega)] at this
            exact this
          · have := h9 m (by omega)
            dsimp only at this
            rw [show ((up3 B 26 m (nI c)) 26 m) = nI c from up3_at rfl, nc] at this
            exact this
        · intro h9 k hk9
          by_cases e : k = m
          · dsimp only; rw [show ((up3 B 26 m (nI c)) 26 k) = nI c from up3_at e, nc]; exact h9.2
          · dsimp only; rw [show ((up3 B 26 m (nI c)) 26 k) = B 26 k from up3_ne e]; exact h9.1 k (by omega)
      have gN : ∀ s : Nat, s < 160 → (apR ap (fun k => ((up3 B 26 m (nI c)) 26 k).toInt) (m + 1) (s : Int) ∧ A2 26 s = (up3 B 26 m (nI c)) 24 s) ∨ (¬ apR ap (fun k => ((up3 B 26 m (nI c)) 26 k).toInt) (m + 1) (s : Int) ∧ (A2 26 s).toInt = -1) := fun s hs => by
        rcases p5 s hs with ⟨q1, q2, q3⟩ | ⟨q1, q2⟩
        · exact Or.inr ⟨fun h9 => ((apN s hs).mp h9).2 ⟨q1, q2⟩, q3⟩
        · rw [a26] at q2
          rcases hg s hs with ⟨g1, g2⟩ | ⟨g1, g2⟩
          · exact Or.inl ⟨(apN s hs).mpr ⟨g1, q1⟩, by rw [q2, g2]; rfl⟩
          · exact Or.inr ⟨fun h9 => g1 ((apN s hs).mp h9).1, by rw [q2]; exact g2⟩
      obtain ⟨F2, hF2⟩ : ∃ F2 : Nat → Int, ∀ s, (A2 26 s).toInt = F2 s := ⟨_, fun _ => rfl⟩
      have cn : cnR (fun s => 0 ≤ F2 s) 160 ≤ d := by
        have l := cnR_lt (p := fun s => 0 ≤ F s) (p' := fun s => 0 ≤ F2 s) 160 (fun s hs h9 => by
          have h8 : 0 ≤ (A2 26 s).toInt := by rw [hF2]; exact h9
          rcases p5 s hs with ⟨-, -, q3⟩ | ⟨-, q2⟩
          · omega
          · rw [q2, a26, hF] at h8; exact h8) c c160 o3 (fun h9 => by
          have h8 : 0 ≤ (A2 26 c).toInt := by rw [hF2]; exact h9
          rcases p5 c c160 with ⟨-, -, q3⟩ | ⟨q1, -⟩
          · omega
          · exact q1 ⟨by omega, by omega⟩)
        omega
      have kN : ∀ k : Nat, k < m + 1 → A2 27 k = (up3 B 26 m (nI c)) 26 k ∧ A2 28 k = (up3 B 26 m (nI c)) 24 ((up3 B 26 m (nI c)) 26 k).toNatClampNeg ∧ 0 ≤ ((up3 B 26 m (nI c)) 26 k).toInt ∧ ((up3 B 26 m (nI c)) 26 k).toInt < 160 ∧ 0 ≤ ((up3 B 26 m (nI c)) 24 ((up3 B 26 m (nI c)) 26 k).toNatClampNeg).toInt := fun k hk9 => by
        have a27 : A2 27 = A1 27 := p4 27 rfl
        have a28 : A2 28 = A1 28 := p4 28 rfl
        have b24 : (up3 B 26 m (nI c)) 24 = B 24 := up3_o (by decide)
        by_cases e : k = m
        · rw [a27, a28, b24, show ((up3 B 26 m (nI c)) 26 k) = nI c from up3_at e, clN nc, hA1, up3_o (by decide), up3_at e, up3_at e, ← ac]
          exact ⟨zsn, rfl, by omega, by omega, fc⟩
        · rw [a27, a28, b24, show ((up3 B 26 m (nI c)) 26 k) = B 26 k from up3_ne e, hA1, up3_o (by decide), up3_ne e, up3_ne e, up3_o (by decide)]
          exact hk k (by omega)
      obtain ⟨I', A', J', B', n, r1, r2, r3, r4, r5, r6, r7, r8, r9, r10⟩ := ih' (zn + Int32.ofInt 1) (fX1_leastScanned (upd I 37 (zn + 1)) A2) (nI c) (upd I 37 (zn + 1)) A2 (upd J 24 (J 24 + 1)) (up3 B 26 m (nI c)) F2 hF2 cn (by omega) (by omega) (by omega) (i_s hzn (by omega)) (x_leastS hF2) (by rw [p4 10 rfl, hA1]; exact ha) hb n1 j1 e24 kN gN
      refine ⟨I', A', J', B', n, r1, r2, Md.tr (Md.up Md.rf rfl) r3 rfl, Md.tr (Md.tr (show Md [26, 27, 28] A A1 by rw [hA1]; exact Md.up3 (Md.up3 Md.rf rfl) rfl) p4 rfl) r4 rfl, Md.tr (Md.up Md.rf rfl) r5 rfl, Md.tr (Md.up3 Md.rf rfl) r6 rfl, r7, r8, r9, r10⟩
end
section
section MATCH
variable {I J : Nat → Int32} {A B : Nat → Nat → Int32} {M : Nat → Nat → Int64} {z : Int32}
theorem match_eq (h : RA I A J B M) {q : Nat} {σ N nq : Nat} {ql : Nat → Nat} {qv : Nat → Nat → Int} (hx : XW I A (B 17) N nq ql qv) (hm : MW J B σ N nq ql qv) (hz : z.toInt = (q : Int)) (hq : q < nq) : ∃ (I' : Nat → Int32) (A' : Nat → Nat → Int32) (J' : Nat → Int32) (B' : Nat → Nat → Int32) (n : Nat), fX1_findMatches I A z = (0, I', A') ∧ fM12_fillsMatches J B M z = (0, J', B', M) ∧ n ≤ 160 ∧ (I' 37).toInt = (n : Int) ∧ (J' 24).toInt = (n : Int) ∧ Md [28, 30, 31, 32, 33, 34, 37] I I' ∧ Md [21, 22, 23, 26, 27, 28] A A' ∧ Md [18, 19, 20, 24] J J' ∧ Md [18, 19, 20, 21, 24, 26] B B' ∧ ∀ k : Nat, k < n → A' 27 k = B' 26 k ∧ A' 28 k = B' 24 (B' 26 k).toNatClampNeg ∧ 0 ≤ (B' 26 k).toInt ∧ (B' 26 k).toInt < 160 ∧ ∃ s : Nat, (B' 26 k).toInt = (s : Int) ∧ wnR (B 17) N s (ql q) := by
  have hs := hx.2.2.2.2.n
  obtain ⟨I1, A1, J1, B1, a1, a2, a3, a4, a5, a6, a7, a8, a9⟩ := scan_eq h hx hm hz hq
  have ap1 : (A1 10 3).toInt = (B 17 164).toInt := by rw [a4 10 rfl]; exact hs.2.2.2.1
  have ap2 : (B1 18 164).toInt = (B 17 164).toInt := by rw [a7 164 (by omega)]
  have apb : 1 ≤ (B 17 164).toInt ∧ (B 17 164).toInt ≤ 99 := ⟨hs.2.2.2.2.2.2.2.2.2.2.1, hs.2.2.2.2.2.2.2.2.2.2.2⟩
  obtain ⟨I2, A2, J2, B2, n, b1, b2, b3, b4, b5, b6, b7, b8, b9, b10⟩ := match_sim (L := M) (B0 := B1) apb 160 FU FU 0 0 (fX1_leastScanned (upd I1 37 0) A1) 0 (upd I1 37 0) A1 (upd J1 24 0) B1 (fun s => (A1 26 s).toInt) (fun _ => rfl) (cnR_le 160) (fu_lt (n := 160) (by omega)) (fu_lt (n := 160) (by omega)) (by omega) rfl (x_leastS (fun _ => rfl)) ap1 ap2 rfl rfl (fun s _ => rfl) (fun k hk => by omega) (fun s hs9 => Or.inl ⟨fun k hk => by omega, a8 s hs9⟩)
  refine ⟨I2, A2, J2, B2, n, ?_, ?_, b7, b8, b9, Md.tr (Md.up (Md.tr Md.rf a3 rfl) rfl) b3 rfl, Md.tr (Md.tr Md.rf a4 rfl) b4 rfl, Md.tr (Md.up (Md.tr Md.rf a5 rfl) rfl) b5 rfl, Md.tr (Md.tr Md.rf a6 rfl) b6 rfl, fun k hk => ?_⟩
  · unfold fX1_findMatches
    rw [a1, bdX_mk, f_lt_eq]; exact b1
  · unfold fM12_fillsMatches
    rw [a2, bdM_mk]; exact b2
  · obtain ⟨c1, c2, c3, c4, c5⟩ := b10 k hk
    refine ⟨c1, c2, c3, c4, (B2 26 k).toInt.toNat, by omega, ?_⟩
    have hsn : (B2 26 k).toInt.toNat < 160 := by omega
    have e : (B2 26 k).toNatClampNeg = (B2 26 k).toInt.toNat := clN (by omega)
    rw [e, b6 24 rfl, ← a8 _ hsn] at c5
    rcases a9 _ hsn with ⟨w, -⟩ | ⟨-, w⟩
    · exact w
    · omega
end MATCH
section ANS13
variable {I I' J J' : Nat → Int32} {A A' B B' : Nat → Nat → Int32} {M M' : Nat → Nat → Int64} {z z1 z2 z3 z4 v w : Int32}
theorem ans_match (h : RA I A J B M) (_ : IvX I A) (_ : IvM J B) (eX : FE (fX11_match I A z1 z2 z3) (v, I', A')) (eM : FE (fM12_match J B M z1 z2 z3) (w, J', B', M')) : v = w := by
  have eX2 : fX11_match I A z1 z2 z3 = (v, I', A') := eX
  have eM2 : fM12_match J B M z1 z2 z3 = (w, J', B', M') := eM
  obtain ⟨σ, N, nq, ql, qv, hx, hm⟩ := h.xm
  have t0 : (0 : Int32).toInt = 0 := rfl
  have t1 : (1 : Int32).toInt = 1 := rfl
  unfold fX11_match at eX2
  unfold fM12_match at eM2
  rw [m_isQuery hm.2.1 hm.2.2.1 hm.2.2.2.1 hm.2.2.2.2.1, m_in, if10, if10] at eM2
  rw [x_hasQ hx.2.1 hx.2.2.1, if10] at eX2
  have no : (z2.toInt < 0 ∨ z3.toInt < 0 ∨ 1 < z3.toInt ∨ ¬ (0 ≤ z1.toInt ∧ z1.toInt < (nq : Int))) → v = -1 ∧ w = -1 := fun c => by
    constructor
    · by_cases c1 : z2.toInt < 0
      · rw [if_pos c1] at eX2; cases eX2; rfl
      · rw [if_neg c1] at eX2
        by_cases c2 : z3.toInt < 0
        · rw [if_pos c2] at eX2; cases eX2; rfl
        · rw [if_neg c2] at eX2
          by_cases c3 : 1 < z3.toInt
          · rw [if_pos c3] at eX2; cases eX2; rfl
          · rw [if_neg c3, if_neg (by omega)] at eX2; cases eX2; rfl
    · by_cases c0 : 0 ≤ z1.toInt ∧ z1.toInt < (nq : Int)
      · rw [if_pos c0] at eM2
        by_cases c1 : z2.toInt < 0
        · rw [if_pos c1] at eM2; cases eM2; rfl
        · rw [if_neg c1, if_neg (by omega)] at eM2; cases eM2; rfl
      · rw [if_neg c0] at eM2; cases eM2; rfl
  by_cases c : z2.toInt < 0 ∨ z3.toInt < 0 ∨ 1 < z3.toInt ∨ ¬ (0 ≤ z1.toInt ∧ z1.toInt < (nq : Int))
  · obtain ⟨p, q⟩ := no c
    rw [p, q]
  · have cq : 0 ≤ z1.toInt ∧ z1.toInt < (nq : Int) := by omega
    rw [if_neg (by omega), if_neg (by omega), if_neg (by omega), if_pos cq] at eX2
    rw [if_pos cq, if_neg (by omega), if_pos (show (0 : Int32).toInt ≤ z3.toInt ∧ z3.toInt ≤ (1 : Int32).toInt by omega)] at eM2
    obtain ⟨q, hq⟩ : ∃ q : Nat, z1.toInt = (q : Int) := ⟨z1.toInt.toNat, by omega⟩
    obtain ⟨I1, A1, J1, B1, n, a1, a2, a3, a4, a5, -, -, -, -, a10⟩ := match_eq h hx hm hq (by omega)
    rw [a1, bdX_mk] at eX2
    rw [a2, bdM_mk] at eM2
    simp only [f_lt_eq] at eX2
    unfold fX1_matchDistance fX1_matchWindow at eX2
    obtain ⟨i, hi⟩ : ∃ i : Nat, z2.toInt = (i : Int) := ⟨z2.toInt.toNat, by omega⟩
    rw [if_neg (show ¬ z2.toInt < 0 by omega), if_neg (show ¬ z2.toInt < 0 by omega)] at eX2
    by_cases c2 : (n : Int) ≤ z2.toInt
    · rw [if_pos (show (I1 37).toInt ≤ z2.toInt by omega), if_pos (show (I1 37).toInt ≤ z2.toInt by omega)] at eX2
      rw [if_neg (by omega)] at eM2
      cases eM2
      by_cases k0 : z3.toInt = 0
      · rw [if_neg (fun h9 => h9 k0)] at eX2; cases eX2; rfl
      · rw [if_pos k0] at eX2; cases eX2; rfl
    · obtain ⟨b1, b2, -⟩ := a10 i (by omega)
      rw [if_neg (show ¬ (I1 37).toInt ≤ z2.toInt by omega), if_neg (show ¬ (I1 37).toInt ≤ z2.toInt by omega), if_neg (show ¬ 160 ≤ z2.toInt by omega), if_neg (show ¬ 160 ≤ z2.toInt by omega), clN hi] at eX2
      rw [if_pos (by omega), clN hi] at eM2
      by_cases k0 : z3.toInt = 0
      · rw [if_neg (fun h9 => h9 k0)] at eX2 eM2
        cases eX2; cases eM2; exact b1
      · rw [if_pos k0] at eX2 eM2
        cases eX2; cases eM2; exact b2
theorem x_within {I : Nat → Int32} {A : Nat → Nat → Int32} {n : Nat} (h37 : (I 37).toInt = (n : Int)) (hn : n ≤ 160) : (fX1_matchesWithin I A z).toInt = (cnR (fun k => (A 28 k).toInt ≤ z.toInt) n : Int) := by
  unfold fX1_matchesWithin
  obtain ⟨p, hp⟩ : ∃ p : Nat → Prop, p = fun k => (A 28 k).toInt ≤ z.toInt := ⟨_, rfl⟩
  rw [← hp]
  refine run_ii (Q := fun (u : Int32) => u.toInt = (cnR p n : Int)) n (fun k x y => x.toInt = (k : Int) ∧ y.toInt = (cnR p k : Int)) (fun G k x y hk hP => ?_) FU 0 0 0 ⟨rfl, rfl⟩ (by omega) (fu_lt (by omega))
  obtain ⟨hx, hy⟩ := hP
  have cl := cnR_le (p := p) k
  unfold bX1_matchesWithin_4 fX1_matchDistance
  dsimp only [f_lt]
  by_cases c : (I 37).toInt ≤ x.toInt
  · rw [if_pos c]; right; rw [hy, show k = n by omega]
  · rw [if_neg c, if_neg (show ¬ x.toInt < 0 by omega), if_neg c, if_neg (show ¬ 160 ≤ x.toInt by omega), clN hx]
    left
    refine ⟨by omega, ?_⟩
    have pk : p k ↔ (A 28 k).toInt ≤ z.toInt := by rw [hp]
    by_cases c2 : z.toInt < (A 28 k).toInt
    · rw [if_pos c2]
      exact ⟨_, _, rfl, i_s hx (by omega), by rw [cnR_f (fun h9 => by have := pk.mp h9; omega)]; exact hy⟩
    · rw [if_neg c2]
      exact ⟨_, _, rfl, i_s hx (by omega), by rw [cnR_t (pk.mpr (by omega))]; exact i_s hy (by omega)⟩
theorem ans_within (h : RA I A J B M) (_ : IvX I A) (_ : IvM J B) (eX : FE (fX11_within I A z1 z2) (v, I', A')) (eM : FE (fM12_within J B M z1 z2) (w, J', B', M')) : v = w := by
  have eX2 : fX11_within I A z1 z2 = (v, I', A') := eX
  have eM2 : fM12_within J B M z1 z2 = (w, J', B', M') := eM
  obtain ⟨σ, N, nq, ql, qv, hx, hm⟩ := h.xm
  unfold fX11_within at eX2
  unfold fM12_within at eM2
  rw [m_isQuery hm.2.1 hm.2.2.1 hm.2.2.2.1 hm.2.2.2.2.1, if10] at eM2
  rw [x_hasQ hx.2.1 hx.2.2.1, if10] at eX2
  by_cases c1 : z2.toInt < 0
  · rw [if_pos c1] at eX2
    rw [if_neg (show ¬ 0 ≤ z2.toInt by omega)] at eM2
    cases eX2
    by_cases c0 : 0 ≤ z1.toInt ∧ z1.toInt < (nq : Int)
    · rw [if_pos c0] at eM2; cases eM2; rfl
    · rw [if_neg c0] at eM2; cases eM2; rfl
  · rw [if_neg c1] at eX2
    rw [if_pos (show 0 ≤ z2.toInt by omega)] at eM2
    by_cases c0 : 0 ≤ z1.toInt ∧ z1.toInt < (nq : Int)
    · rw [if_pos c0] at eX2 eM2
      obtain ⟨q, hq⟩ : ∃ q : Nat, z1.toInt = (q : Int) := ⟨z1.toInt.toNat, by omega⟩
      obtain ⟨I1, A1, J1, B1, n, a1, a2, a3, a4, a5, -, -, -, -, a10⟩ := match_eq h hx hm hq (by omega)
      rw [a1, bdX_mk, f_lt_eq] at eX2
      rw [a2, bdM_mk] at eM2
      have hM : ∃ u : Int32, itr_ii dfM (bM12_within_24 J1 B1 M z2) FU 0 0 = (u, J1, B1, M) ∧ u.toInt = (cnR (fun k => (A1 28 k).toInt ≤ z2.toInt) n : Int) := by
        obtain ⟨p, hp⟩ : ∃ p : Nat → Prop, p = fun k => (A1 28 k).toInt ≤ z2.toInt := ⟨_, rfl⟩
        rw [← hp]
        refine run_ii (Q := fun r => ∃ u : Int32, r = (u, J1, B1, M) ∧ u.toInt = (cnR p n : Int)) n (fun k x y => x.toInt = (k : Int) ∧ y.toInt = (cnR p k : Int)) (fun G k x y hk hP => ?_) FU 0 0 0 ⟨rfl, rfl⟩ (by omega) (fu_lt (by omega))
        obtain ⟨hxk, hy⟩ := hP
        have cl := cnR_le (p := p) k
        unfold bM12_within_24
        dsimp only [f_lt]
        by_cases d : (J1 24).toInt ≤ x.toInt
        · rw [if_pos d]; right; exact ⟨y, rfl, by rw [hy, show k = n by omega]⟩
        · rw [if_neg d, clN hxk, ← (a10 k (by omega)).2.1]
          left
          refine ⟨by omega, ?_⟩
          have pk : p k ↔ (A1 28 k).toInt ≤ z2.toInt := by rw [hp]
          by_cases c2 : z2.toInt < (A1 28 k).toInt
          · rw [if_pos c2]
            exact ⟨_, _, rfl, i_s hxk (by omega), by rw [cnR_f (fun h9 => by have := pk.mp h9; omega)]; exact hy⟩
          · rw [if_neg c2]
            exact ⟨_, _, rfl, i_s hxk (by omega), by rw [cnR_t (pk.mpr (by omega))]; exact i_s hy (by omega)⟩
      obtain ⟨u, u1, u2⟩ := hM
      rw [u1] at eM2
      cases eX2; cases eM2
      exact Int32.toInt_inj.mp (by rw [x_within a4 a3, u2])
    · rw [if_neg c0] at eX2 eM2
      cases eX2; cases eM2; rfl
end ANS13
/-- a place that a match within the limit covers -/
def cvR (A : Nat → Nat → Int32) (lim : Int) (n len : Nat) (p : Nat) : Prop := ∃ k, k < n ∧ (A 28 k).toInt ≤ lim ∧ (A 27 k).toInt ≤ (p : Int) ∧ (p : Int) < (A 27 k).toInt + len
theorem narT : (vp_nar .boolean 1).toInt = 1 := nar1
theorem x_coverF {I : Nat → Int32} {A : Nat → Nat → Int32} {z1 z2 : Int32} {s len : Nat} (h1 : z1.toInt = (s : Int)) (h2 : z2.toInt = (len : Int)) (hl : len ≤ 16) (hs : s < 160) : ∃ A' : Nat → Nat → Int32, fX1_coverFrom I A z1 z2 = (0, I, A') ∧ Md [29] A A' ∧ ∀ p, p < 160 → ((A' 29 p).toInt ≠ 0 ↔ ((A 29 p).toInt ≠ 0 ∨ (s ≤ p ∧ p < s + len))) := by
  unfold fX1_coverFrom
  refine run_iIA (Q := fun u => ∃ A' : Nat → Nat → Int32, u = (0, I, A') ∧ Md [29] A A' ∧ ∀ p, p < 160 → ((A' 29 p).toInt ≠ 0 ↔ ((A 29 p).toInt ≠ 0 ∨ (s ≤ p ∧ p < s + len)))) len (fun k x I1 A1 => x.toInt = (k : Int) ∧ I1 = I ∧ Md [29] A A1 ∧ ∀ p, p < 160 → ((A1 29 p).toInt ≠ 0 ↔ ((A 29 p).toInt ≠ 0 ∨ (s ≤ p ∧ p < s + k)))) (fun G k x I1 A1 hk hP => ?_) FU 0 0 I A ⟨rfl, rfl, Md.rf, fun p _ => ⟨fun h9 => Or.inl h9, fun h9 => h9.elim id (fun h8 => by omega)⟩⟩ (by omega) (fu_lt (by omega))
  obtain ⟨hx, eI, mA, hp⟩ := hP
  unfold bX1_coverFrom_2
  dsimp only [f_lt]
  by_cases c : z2.toInt ≤ x.toInt
  · rw [if_pos c, eI]; right
    have ek : k = len := by omega
    subst ek
    exact ⟨A1, rfl, mA, hp⟩
  · rw [if_neg c]
    left
    have e := i_ad h1 hx (by omega) (by omega)
    refine ⟨by omega, ?_⟩
    rw [if_neg (by omega)]
    by_cases c2 : 160 ≤ (z1 + x).toInt
    · rw [if_pos c2]
      refine ⟨_, _, _, rfl, i_s hx (by omega), eI, mA, fun p hp9 => ?_⟩
      have := hp p hp9
      constructor
      · intro h9
        rcases this.mp h9 with h8 | h8
        · exact Or.inl h8
        · exact Or.inr ⟨h8.1, by omega⟩
      · intro h9
        exact this.mpr (h9.elim Or.inl (fun h8 => Or.inr ⟨h8.1, by omega⟩))
    · rw [if_neg c2, clN e]
      refine ⟨_, _, _, rfl, i_s hx (by omega), eI, Md.up3 mA rfl, fun p hp9 => ?_⟩
      by_cases ep : p = s + k
      · rw [up3_at ep, narT]
        exact ⟨fun _ => Or.inr ⟨by omega, by omega⟩, fun _ => by decide⟩
      · rw [up3_ne ep]
        have := hp p hp9
        constructor
        · intro h9
          rcases this.mp h9 with h8 | h8
          · exact Or.inl h8
          · exact Or.inr ⟨h8.1, by omega⟩
        · intro h9
          exact this.mpr (h9.elim Or.inl (fun h8 => Or.inr ⟨h8.1, by omega⟩))
end
section
theorem x_places {I : Nat → Int32} {A : Nat → Nat → Int32} {n len : Nat} {z1 z2 : Int32} (h37 : (I 37).toInt = (n : Int)) (hn : n ≤ 160) (h2 : z2.toInt = (len : Int)) (hl : len ≤ 16) (hk : ∀ k : Nat, k < n → 0 ≤ (A 27 k).toInt ∧ (A 27 k).toInt < 160) : ∃ (u : Int32) (I' : Nat → Int32) (A' : Nat → Nat → Int32), fX1_placesWithin I A z1 z2 = (u, I', A') ∧ u.toInt = (cnR (cvR A z1.toInt n len) 160 : Int) := by
  unfold fX1_placesWithin
  refine run_iIA (Q := fun r => ∃ (u : Int32) (I' : Nat → Int32) (A' : Nat → Nat → Int32), r = (u, I', A') ∧ u.toInt = (cnR (cvR A z1.toInt n len) 160 : Int)) 160 (fun k x I1 A1 => x.toInt = (k : Int) ∧ I1 = I ∧ Md [29] A A1 ∧ ∀ p, p < k → (A1 29 p).toInt = 0) (fun G k x I1 A1 hk9 hP => ?_) FU 0 0 I A ⟨rfl, rfl, Md.rf, fun p h9 => by omega⟩ (by omega) (fu_lt (by omega))
  obtain ⟨hx, eI, mA, hz⟩ := hP
  unfold bX1_placesWithin_2
  simp only [f_lt_eq]
  by_cases c : 160 ≤ x.toInt
  · rw [if_pos c]
    right
    have ek : k = 160 := by omega
    subst ek
    rw [eI]
    refine run_iIA (Q := fun r => ∃ (u : Int32) (I' : Nat → Int32) (A' : Nat → Nat → Int32), r = (u, I', A') ∧ u.toInt = (cnR (cvR A z1.toInt n len) 160 : Int)) n (fun m y I2 A2 => y.toInt = (m : Int) ∧ I2 = I ∧ Md [29] A A2 ∧ ∀ p, p < 160 → ((A2 29 p).toInt ≠ 0 ↔ cvR A z1.toInt m len p)) (fun G2 m y I2 A2 hm9 hP2 => ?_) FU 0 0 I A1 ⟨rfl, rfl, mA, fun p hp => ⟨fun h9 => absurd (hz p hp) h9, fun ⟨k, h9, _⟩ => by omega⟩⟩ (by omega) (fu_lt (by omega))
    obtain ⟨hy, eI2, mA2, hc⟩ := hP2
    unfold bX1_placesWithin_24
    simp only [f_lt_eq]
    by_cases d : (I 37).toInt ≤ y.toInt
    · rw [if_pos d]
      right
      have em : m = n := by omega
      subst em
      obtain ⟨p, hp⟩ : ∃ p, p = cvR A z1.toInt m len := ⟨_, rfl⟩
      rw [← hp] at hc ⊢
      refine run_ii (Q := fun r => ∃ (u : Int32) (I' : Nat → Int32) (A' : Nat → Nat → Int32), r = (u, I', A') ∧ u.toInt = (cnR p 160 : Int)) 160 (fun j a b => a.toInt = (j : Int) ∧ b.toInt = (cnR p j : Int)) (fun G3 j a b hj hP3 => ?_) FU 0 0 0 ⟨rfl, rfl⟩ (by omega) (fu_lt (by omega))
      obtain ⟨ha, hb⟩ := hP3
      have cl := cnR_le (p := p) j
      unfold bX1_placesWithin_62
      dsimp only [f_lt]
      by_cases e : 160 ≤ a.toInt
      · rw [if_pos e]; right; exact ⟨b, _, _, rfl, by rw [hb, show j = 160 by omega]⟩
      · rw [if_neg e, clN ha]
        left
        refine ⟨by omega, ?_⟩
        by_cases e2 : (A2 29 j).toInt = 0
        · rw [if_pos e2]
          exact ⟨_, _, rfl, i_s ha (by omega), by rw [cnR_f (fun h9 => (hc j (by omega)).mpr h9 e2)]; exact hb⟩
        · rw [if_neg e2]
          exact ⟨_, _, rfl, i_s ha (by omega), by rw [cnR_t ((hc j (by omega)).mp e2)]; exact i_s hb (by omega)⟩
    · rw [if_neg d]
      left
      have hmn : m < n := by omega
      refine ⟨hmn, ?_⟩
      have md : fX1_matchDistance I2 A2 y = A 28 m := by
        unfold fX1_matchDistance
        rw [eI2, if_neg (by omega), if_neg d, if_neg (by omega), clN hy, mA2 28 rfl]
      have mw : fX1_matchWindow I2 A2 y = A 27 m := by
        unfold fX1_matchWindow
        rw [eI2, if_neg (by omega), if_neg d, if_neg (by omega), clN hy, mA2 27 rfl]
      rw [md, mw]
      have grow : ∀ p : Nat, (cvR A z1.toInt (m + 1) len p ↔ cvR A z1.toInt m len p ∨ ((A 28 m).toInt ≤ z1.toInt ∧ (A 27 m).toInt ≤ (p : Int) ∧ (p : Int) < (A 27 m).toInt + len)) := fun p => by
        constructor
        · rintro ⟨k, h1, h2', h3, h4⟩
          by_cases e : k = m
          · subst e; exact Or.inr ⟨h2', h3, h4⟩
          · exact Or.inl ⟨k, by omega, h2', h3, h4⟩
        · rintro (⟨k, h1, h2', h3, h4⟩ | h9)
          · exact ⟨k, by omega, h2', h3, h4⟩
          · exact ⟨m, by omega, h9⟩
      by_cases e : z1.toInt < (A 28 m).toInt
      · rw [if_pos e]
        refine ⟨_, _, _, rfl, i_s hy (by omega), eI2, mA2, fun p hp => ?_⟩
        rw [hc p hp, grow p]
        exact ⟨Or.inl, fun h9 => h9.elim id (fun h8 => by omega)⟩
      · rw [if_neg e]
        obtain ⟨s, hs⟩ : ∃ s : Nat, (A 27 m).toInt = (s : Int) := ⟨(A 27 m).toInt.toNat, by have := hk m hmn; omega⟩
        have hsb := hk m hmn
        obtain ⟨A3, a1, a2, a3⟩ := x_coverF (I := I2) (A := A2) hs h2 hl (by omega)
        rw [a1, bdX_mk]
        refine ⟨_, _, _, rfl, i_s hy (by omega), eI2, Md.tr mA2 a2 rfl, fun p hp => ?_⟩
        rw [a3 p hp, hc p hp, grow p]
        constructor
        · rintro (h9 | h9)
          · exact Or.inl h9
          · exact Or.inr ⟨by omega, by omega, by omega⟩
        · rintro (h9 | h9)
          · exact Or.inl h9
          · exact Or.inr ⟨by omega, by omega⟩
  · rw [if_neg c, clN hx]
    left
    refine ⟨by omega, _, _, _, rfl, i_s hx (by omega), eI, Md.up3 mA rfl, fun p h9 => ?_⟩
    by_cases e : p = k
    · rw [up3_at e]; exact nar0
    · rw [up3_ne e]; exact hz p (by omega)
section ANS14
variable {I I' J J' : Nat → Int32} {A A' B B' : Nat → Nat → Int32} {M M' : Nat → Nat → Int64} {z z1 z2 z3 z4 v w : Int32}
theorem ans_cover (h : RA I A J B M) (_ : IvX I A) (_ : IvM J B) (eX : FE (fX11_cover I A z1 z2) (v, I', A')) (eM : FE (fM12_cover J B M z1 z2) (w, J', B', M')) : v = w := by
  have eX2 : fX11_cover I A z1 z2 = (v, I', A') := eX
  have eM2 : fM12_cover J B M z1 z2 = (w, J', B', M') := eM
  obtain ⟨σ, N, nq, ql, qv, hx, hm⟩ := h.xm
  have hN := hx.1.1.2.1
  have h0 := hx.1.1.1
  have t0 : (0 : Int32).toInt = 0 := rfl
  unfold fX11_cover at eX2
  unfold fM12_cover at eM2
  rw [m_isQuery hm.2.1 hm.2.2.1 hm.2.2.2.1 hm.2.2.2.2.1, if10] at eM2
  rw [x_hasQ hx.2.1 hx.2.2.1, if10] at eX2
  by_cases c1 : z2.toInt < 0
  · rw [if_pos c1] at eX2
    rw [if_neg (show ¬ 0 ≤ z2.toInt by omega)] at eM2
    cases eX2
    by_cases c0 : 0 ≤ z1.toInt ∧ z1.toInt < (nq : Int)
    · rw [if_pos c0] at eM2; cases eM2; rfl
    · rw [if_neg c0] at eM2; cases eM2; rfl
  · rw [if_neg c1] at eX2
    rw [if_pos (show 0 ≤ z2.toInt by omega)] at eM2
    by_cases c0 : 0 ≤ z1.toInt ∧ z1.toInt < (nq : Int)
    · rw [if_pos c0] at eX2 eM2
      obtain ⟨q, hq⟩ : ∃ q : Nat, z1.toInt = (q : Int) := ⟨z1.toInt.toNat, by omega⟩
      obtain ⟨l1, l2, l3, -⟩ := hx.2.2.2.1 q (by omega)
      obtain ⟨k1, -⟩ := hm.2.2.2.2.2 q (by omega)
      obtain ⟨I1, A1, J1, B1, n, a1, a2, a3, a4, a5, a6, a7, a8, a9, a10⟩ := match_eq h hx hm hq (by omega)
      have hx1 := hx.mv (I' := I1) (A' := A1) (a6 17 rfl) (a6 18 rfl) (a6 19 rfl) (a7 7 rfl) (a7 8 rfl) (a7 9 rfl) (a7 10 rfl)
      rw [a1, bdX_mk, x_len2 hx1.2.1 hx1.2.2.1 hq (by omega), ifp, f_lt_eq] at eX2
      rw [a2, bdM_mk] at eM2
      obtain ⟨u, I2, A2, b1, b2⟩ := x_places (I := I1) (A := A1) (z1 := z2) (z2 := A1 9 q) (len := ql q) a4 a3 (by rw [a7 9 rfl]; exact l1) l3 (fun k hk => by rw [(a10 k hk).1]; exact ⟨(a10 k hk).2.2.1, (a10 k hk).2.2.2.1⟩)
      have eX3 : f_bdX (fX1_placesWithin I1 A1 z2 (A1 9 q)) (fun y I A => (y, I, A)) = (v, I', A') := eX2
      rw [b1, bdX_mk] at eX3
      obtain ⟨p, hp⟩ : ∃ p, p = cvR A1 z2.toInt n (ql q) := ⟨_, rfl⟩
      rw [← hp] at b2
      have pb : ∀ i, N ≤ i → ¬ p i := fun i hi h9 => by
        rw [hp] at h9
        obtain ⟨k, d1, d2, d3, d4⟩ := h9
        obtain ⟨e1, -, -, -, s, e5, e6⟩ := a10 k d1
        rw [e1] at d3 d4
        have := e6.2.1
        omega
      have hM : ∃ u : Int32, itr_ii dfM (bM12_cover_24 B J1 B1 M z2 J z1) FU 0 0 = (u, J1, B1, M) ∧ u.toInt = (cnR p N : Int) := by
        refine run_ii (Q := fun r => ∃ u : Int32, r = (u, J1, B1, M) ∧ u.toInt = (cnR p N : Int)) N (fun i x y => x.toInt = (i : Int) ∧ y.toInt = (cnR p i : Int)) (fun G i x y hi hP => ?_) FU 0 0 0 ⟨rfl, rfl⟩ (by omega) (fu_lt (by omega))
        obtain ⟨hxk, hy⟩ := hP
        have cl := cnR_le (p := p) i
        unfold bM12_cover_24
        by_cases d : (B 17 0).toInt ≤ x.toInt
        · rw [if_pos d]; right; exact ⟨y, rfl, by rw [hy, show i = N by omega]⟩
        · rw [if_neg d]
          left
          refine ⟨by omega, ?_⟩
          refine run_ii (Q := fun r => ∃ x' y' : Int32, r = G x' y' ∧ x'.toInt = ((i + 1 : Nat) : Int) ∧ y'.toInt = (cnR p (i + 1) : Int)) n (fun k a b => a.toInt = (k : Int) ∧ (b.toInt = 0 ∨ b.toInt = 1) ∧ (b.toInt ≠ 0 ↔ cvR A1 z2.toInt k (ql q) i)) (fun G2 k a b hk hP2 => ?_) FU 0 0 0 ⟨rfl, Or.inl rfl, fun h9 => absurd rfl h9, fun ⟨k, h9, _⟩ => by omega⟩ (by omega) (fu_lt (by omega))
          obtain ⟨ha, hb, hc⟩ := hP2
          unfold bM12_cover_41
          dsimp only [f_lt]
          by_cases e : (J1 24).toInt ≤ a.toInt
          · rw [if_pos e]
            right
            have ek : k = n := by omega
            subst ek
            rw [← hp] at hc
            by_cases e2 : b.toInt = 0
            · rw [if_pos e2]
              exact ⟨_, _, rfl, i_s hxk (by omega), by rw [cnR_f (fun h9 => hc.mpr h9 e2)]; exact hy⟩
            · rw [if_neg e2]
              exact ⟨_, _, rfl, i_s hxk (by omega), by rw [cnR_t (hc.mp e2)]; exact i_s hy (by omega)⟩
          · rw [if_neg e]
            left
            have hkn : k < n := by omega
            refine ⟨hkn, ?_⟩
            obtain ⟨f1, f2, f3, f4, -⟩ := a10 k hkn
            rw [clN ha, ← f2, ← f1]
            rw [← f1] at f3 f4
            have d1 := i32_sub (x := x) (y := A1 27 k) rfl hxk rfl (by omega) (by omega)
            have d2 := i32_sub (x := B 11 (5 * σ + q)) (y := 1) (b := 1) rfl k1 rfl (by omega) (by omega)
            have grow : (cvR A1 z2.toInt (k + 1) (ql q) i ↔ cvR A1 z2.toInt k (ql q) i ∨ ((A1 28 k).toInt ≤ z2.toInt ∧ (A1 27 k).toInt ≤ (i : Int) ∧ (i : Int) < (A1 27 k).toInt + (ql q : Nat))) := by
              constructor
              · rintro ⟨k9, g1, g2, g3, g4⟩
                by_cases ek : k9 = k
                · subst ek; exact Or.inr ⟨g2, g3, g4⟩
                · exact Or.inl ⟨k9, by omega, g2, g3, g4⟩
              · rintro (⟨k9, g1, g2, g3, g4⟩ | g9)
                · exact ⟨k9, by omega, g2, g3, g4⟩
                · exact ⟨k, by omega, g9⟩
            by_cases e2 : z2.toInt < (A1 28 k).toInt
            · rw [if_pos e2]
              refine ⟨_, _, rfl, i_s ha (by omega), hb, ?_⟩
              rw [hc, grow]
              exact ⟨Or.inl, fun h9 => h9.elim id (fun h8 => by omega)⟩
            · rw [if_neg e2, m_in, if10, clN (i_5 hm.2.1 hm.2.2.1 hq (by have := hm.2.2.2.2.1; omega))]
              by_cases e3 : (0 : Int32).toInt ≤ (x - A1 27 k).toInt ∧ (x - A1 27 k).toInt ≤ (B 11 (5 * σ + q) - 1).toInt
              · rw [if_pos e3]
                refine ⟨_, _, rfl, i_s ha (by omega), Or.inr rfl, fun _ => grow.mpr (Or.inr ⟨by omega, by omega, by omega⟩), fun _ => by decide⟩
              · rw [if_neg e3]
                refine ⟨_, _, rfl, i_s ha (by omega), hb, ?_⟩
                rw [hc, grow]
                exact ⟨Or.inl, fun h9 => h9.elim id (fun h8 => absurd ⟨by omega, by omega⟩ e3)⟩
      obtain ⟨u2, u3, u4⟩ := hM
      rw [u3] at eM2
      cases eX3; cases eM2
      have en := cnR_end (p := p) (k := N) (160 - N) (fun i h1 _ => pb i h1)
      rw [show N + (160 - N) = 160 by omega] at en
      exact Int32.toInt_inj.mp (by rw [b2, u4, en])
    · rw [if_neg c0] at eX2 eM2
      cases eX2; cases eM2; rfl
end ANS14
end
section
/-- the rows of all WINDOWS of a length, once laid -/
def WTk (I : Nat → Int32) (A : Nat → Nat → Int32) (r : Nat → Int32) (N n k : Nat) : Prop := ∀ s : Nat, s < k → ((A 31 s).toInt = 0 ∧ ¬ wnR r N s n) ∨ ((A 31 s).toInt = 1 ∧ wnR r N s n ∧ ((I 30).toInt = (n : Int) ∧ (I 31).toInt = (r 161).toInt ∧ (I 32).toInt = (r 163).toInt) ∧ ∀ i : Nat, i < n → (A 30 (16 * s + i)).toInt = lvl r n (gW r s) i)
theorem WTk.mv {I I' : Nat → Int32} {A A' : Nat → Nat → Int32} {r : Nat → Int32} {N n k : Nat} (h : WTk I A r N n k) (i30 : I' 30 = I 30) (i31 : I' 31 = I 31) (i32 : I' 32 = I 32) (a30 : A' 30 = A 30) (a31 : A' 31 = A 31) : WTk I' A' r N n k := by
  unfold WTk at *
  rw [i30, i31, i32, a30, a31]; exact h
theorem x_give {I : Nat → Int32} {A : Nat → Nat → Int32} {z : Int32} {s n : Nat} (hz : z.toInt = ((16 * s : Nat) : Int)) (hs : s < 160) (h30 : (I 30).toInt = (n : Int)) (hn : n ≤ 16) : ∃ A' : Nat → Nat → Int32, fX2_giveLeft I A z = (0, I, A') ∧ Md [30] A A' ∧ (∀ i : Nat, i < n → A' 30 (16 * s + i) = A 21 i) ∧ ∀ p, p < 16 * s → A' 30 p = A 30 p := by
  have t0 : (0 : Int32).toInt = 0 := rfl
  have t16 : (16 : Int32).toInt = 16 := rfl
  have e1 := i32_sub (x := 16) (y := 0) rfl t16 t0 (by omega) (by omega)
  have e2 := i32_sub (x := 2560) (y := z) (a := 2560) rfl rfl hz (by omega) (by omega)
  have key : ∃ A' : Nat → Nat → Int32, fX2_copyRow I A 0 z = (0, I, A') ∧ Md [30] A A' ∧ (∀ i : Nat, i < n → A' 30 (16 * s + i) = A 21 i) ∧ ∀ p, p < 16 * s → A' 30 p = A 30 p := by
    unfold fX2_copyRow
    simp only [f_lt_eq]
    rw [if_neg (show ¬ (0 : Int32).toInt < 0 by omega), if_neg (show ¬ z.toInt < 0 by omega), if_neg (show ¬ ((16 : Int32) - 0).toInt < (I 30).toInt by omega), if_pos (show (I 30).toInt ≤ ((2560 : Int32) - z).toInt by omega)]
    refine run_iIA (Q := fun v => ∃ A' : Nat → Nat → Int32, v = (0, I, A') ∧ Md [30] A A' ∧ (∀ i : Nat, i < n → A' 30 (16 * s + i) = A 21 i) ∧ ∀ p, p < 16 * s → A' 30 p = A 30 p) n (fun k x I1 A1 => x.toInt = (k : Int) ∧ I1 = I ∧ Md [30] A A1 ∧ (∀ i : Nat, i < k → A1 30 (16 * s + i) = A 21 i) ∧ ∀ p, p < 16 * s → A1 30 p = A 30 p) (fun G k x I1 A1 hk hP => ?_) FU 0 0 I A ⟨rfl, rfl, Md.rf, fun i hi => by omega, fun _ _ => rfl⟩ (by omega) (fu_lt (by omega))
    obtain ⟨hx, eI, mA, hi, ho⟩ := hP
    unfold bX2_copyRow_36
    dsimp only [f_lt]
    by_cases c : (I 30).toInt ≤ x.toInt
    · rw [if_pos c, eI]; right; exact ⟨A1, rfl, mA, fun i h9 => hi i (by omega), ho⟩
    · have e3 : ((0 : Int32) + x).toNatClampNeg = k := by rw [clN (i_ad (x := 0) (a := 0) rfl hx (by omega) (by omega))]; omega
      rw [if_neg c, e3, clN (i_ad hz hx (by omega) (by omega))]
      left
      refine ⟨by omega, _, _, _, rfl, i_s hx (by omega), eI, Md.up3 mA rfl, fun i h9 => ?_, fun p hp => ?_⟩
      · by_cases e : i = k
        · rw [up3_at (by omega), e]
        · rw [up3_ne (by omega)]; exact hi i (by omega)
      · rw [up3_ne (by omega)]; exact ho p hp
  obtain ⟨A', k1, k2, k3, k4⟩ := key
  unfold fX2_giveLeft
  rw [k1, bdX_mk]
  exact ⟨A', rfl, k2, k3, k4⟩
theorem x_takeL {I : Nat → Int32} {A : Nat → Nat → Int32} {z : Int32} {s n : Nat} (hz : z.toInt = ((16 * s : Nat) : Int)) (hs : s < 160) (h30 : (I 30).toInt = (n : Int)) (hn : n ≤ 16) : ∃ A' : Nat → Nat → Int32, fX2_takeLeft I A z = (0, I, A') ∧ Md [21] A A' ∧ ∀ i : Nat, i < n → A' 21 i = A 30 (16 * s + i) := by
  have t0 : (0 : Int32).toInt = 0 := rfl
  have t16 : (16 : Int32).toInt = 16 := rfl
  have e1 := i32_sub (x := 16) (y := 0) rfl t16 t0 (by omega) (by omega)
  have e2 := i32_sub (x := 2560) (y := z) (a := 2560) rfl rfl hz (by omega) (by omega)
  have key : ∃ A' : Nat → Nat → Int32, fX2_copyRow_2 I A z 0 = (0, I, A') ∧ Md [21] A A' ∧ ∀ i : Nat, i < n → A' 21 i = A 30 (16 * s + i) := by
    unfold fX2_copyRow_2
    simp only [f_lt_eq]
    rw [if_neg (show ¬ z.toInt < 0 by omega), if_neg (show ¬ (0 : Int32).toInt < 0 by omega), if_neg (show ¬ ((2560 : Int32) - z).toInt < (I 30).toInt by omega), if_pos (show (I 30).toInt ≤ ((16 : Int32) - 0).toInt by omega)]
    refine run_iIA (Q := fun v => ∃ A' : Nat → Nat → Int32, v = (0, I, A') ∧ Md [21] A A' ∧ ∀ i : Nat, i < n → A' 21 i = A 30 (16 * s + i)) n (fun k x I1 A1 => x.toInt = (k : Int) ∧ I1 = I ∧ Md [21] A A1 ∧ ∀ i : Nat, i < k → A1 21 i = A 30 (16 * s + i)) (fun G k x I1 A1 hk hP => ?_) FU 0 0 I A ⟨rfl, rfl, Md.rf, fun i hi => by omega⟩ (by omega) (fu_lt (by omega))
    obtain ⟨hx, eI, mA, hi⟩ := hP
    unfold bX2_copyRow_2_36
    dsimp only [f_lt]
    by_cases c : (I 30).toInt ≤ x.toInt
    · rw [if_pos c, eI]; right; exact ⟨A1, rfl, mA, fun i h9 => hi i (by omega)⟩
    · have e3 : ((0 : Int32) + x).toNatClampNeg = k := by rw [clN (i_ad (x := 0) (a := 0) rfl hx (by omega) (by omega))]; omega
      rw [if_neg c, e3, clN (i_ad hz hx (by omega) (by omega))]
      left
      refine ⟨by omega, _, _, _, rfl, i_s hx (by omega), eI, Md.up3 mA rfl, fun i h9 => ?_⟩
      by_cases e : i = k
      · rw [up3_at e, e]
      · rw [up3_ne e]; exact hi i (by omega)
  obtain ⟨A', k1, k2, k3⟩ := key
  unfold fX2_takeLeft
  rw [k1, bdX_mk]
  exact ⟨A', rfl, k2, k3⟩
theorem x_takeR {I : Nat → Int32} {A : Nat → Nat → Int32} {z : Int32} {s n : Nat} (hz : z.toInt = ((16 * s : Nat) : Int)) (hs : s < 160) (h30 : (I 30).toInt = (n : Int)) (hn : n ≤ 16) : ∃ A' : Nat → Nat → Int32, fX2_takeRight I A z = (0, I, A') ∧ Md [22] A A' ∧ ∀ i : Nat, i < n → A' 22 i = A 30 (16 * s + i) := by
  have t0 : (0 : Int32).toInt = 0 := rfl
  have t16 : (16 : Int32).toInt = 16 := rfl
  have e1 := i32_sub (x := 16) (y := 0) rfl t16 t0 (by omega) (by omega)
  have e2 := i32_sub (x := 2560) (y := z) (a := 2560) rfl rfl hz (by omega) (by omega)
  have key : ∃ A' : Nat → Nat → Int32, fX2_copyRow_3 I A z 0 = (0, I, A') ∧ Md [22] A A' ∧ ∀ i : Nat, i < n → A' 22 i = A 30 (16 * s + i) := by
    unfold fX2_copyRow_3
    simp only [f_lt_eq]
    rw [if_neg (show ¬ z.toInt < 0 by omega), if_neg (show ¬ (0 : Int32).toInt < 0 by omega), if_neg (show ¬ ((2560 : Int32) - z).toInt < (I 30).toInt by omega), if_pos (show (I 30).toInt ≤ ((16 : Int32) - 0).toInt by omega)]
    refine run_iIA (Q := fun v => ∃ A' : Nat → Nat → Int32, v = (0, I, A') ∧ Md [22] A A' ∧ ∀ i : Nat, i < n → A' 22 i = A 30 (16 * s + i)) n (fun k x I1 A1 => x.toInt = (k : Int) ∧ I1 = I ∧ Md [22] A A1 ∧ ∀ i : Nat, i < k → A1 22 i = A 30 (16 * s + i)) (fun G k x I1 A1 hk hP => ?_) FU 0 0 I A ⟨rfl, rfl, Md.rf, fun i hi => by omega⟩ (by omega) (fu_lt (by omega))
    obtain ⟨hx, eI, mA, hi⟩ := hP
    unfold bX2_copyRow_3_36
    dsimp only [f_lt]
    by_cases c : (I 30).toInt ≤ x.toInt
    · rw [if_pos c, eI]; right; exact ⟨A1, rfl, mA, fun i h9 => hi i (by omega)⟩
    · have e3 : ((0 : Int32) + x).toNatClampNeg = k := by rw [clN (i_ad (x := 0) (a := 0) rfl hx (by omega) (by omega))]; omega
      rw [if_neg c, e3, clN (i_ad hz hx (by omega) (by omega))]
      left
      refine ⟨by omega, _, _, _, rfl, i_s hx (by omega), eI, Md.up3 mA rfl, fun i h9 => ?_⟩
      by_cases e : i = k
      · rw [up3_at e, e]
      · rw [up3_ne e]; exact hi i (by omega)
  obtain ⟨A', k1, k2, k3⟩ := key
  unfold fX2_takeRight
  rw [k1, bdX_mk]
  exact ⟨A', rfl, k2, k3⟩
theorem i_16k {x : Int32} {k : Nat} (h : x.toInt = (k : Int)) (hk : k < 1000) : (x * 16).toInt = ((16 * k : Nat) : Int) := by
  have := i32_mul (x := x) (y := 16) (b := 16) rfl h rfl (by omega) (by omega)
  omega
theorem i_abs {y : Int32} {a : Int} (h : y.toInt = a) (h1 : -100000 < a) : (if 0 ≤ y then y else 0 - y).toInt = if 0 ≤ a then a else -a := by
  have t0 : (0 : Int32).toInt = 0 := rfl
  by_cases c : (0 : Int32) ≤ y
  · have c2 := Int32.le_iff_toInt_le.mp c
    rw [if_pos c, if_pos (by omega)]; exact h
  · have c2 : ¬ (0 : Int32).toInt ≤ y.toInt := fun h9 => c (Int32.le_iff_toInt_le.mpr h9)
    rw [if_neg c, if_neg (by omega)]
    have := i32_sub (x := 0) (y := y) (a := 0) rfl rfl h (by have := Int32.toInt_lt y; omega) (by omega)
    omega
theorem x_bring {I : Nat → Int32} {A : Nat → Nat → Int32} {r : Nat → Int32} {N nq : Nat} {ql : Nat → Nat} {qv : Nat → Nat → Int} (hx : XW I A r N nq ql qv) {z : Int32} {n : Nat} (hz : z.toInt = (n : Int)) (hn : n ≤ 16) : ∃ (I' : Nat → Int32) (A' : Nat → Nat → Int32), fX9_bringAll I A z = (0, I', A') ∧ Md [28, 30, 31, 32] I I' ∧ Md [21, 30, 31] A A' ∧ WTk I' A' r N n 160 := by
  unfold fX9_bringAll
  refine run_iIA (Q := fun v => ∃ (I' : Nat → Int32) (A' : Nat → Nat → Int32), v = (0, I', A') ∧ Md [28, 30, 31, 32] I I' ∧ Md [21, 30, 31] A A' ∧ WTk I' A' r N n 160) 160 (fun k x I1 A1 => x.toInt = (k : Int) ∧ Md [28, 30, 31, 32] I I1 ∧ Md [21, 30, 31] A A1 ∧ WTk I1 A1 r N n k) (fun G k x I1 A1 hk hP => ?_) FU 0 0 I A ⟨rfl, Md.rf, Md.rf, fun s h9 => by omega⟩ (by omega) (fu_lt (by omega))
  obtain ⟨hxk, mI, mA, hw⟩ := hP
  unfold bX9_bringAll_2
  dsimp only [f_lt]
  by_cases c : 160 ≤ x.toInt
  · rw [if_pos c]; right
    have ek : k = 160 := by omega
    subst ek
    exact ⟨I1, A1, rfl, mI, mA, hw⟩
  · rw [if_neg c, clN hxk]
    left
    refine ⟨by omega, ?_⟩
    have hx1 := hx.mv (I' := I1) (A' := A1) (mI 17 rfl) (mI 18 rfl) (mI 19 rfl) (mA 7 rfl) (mA 8 rfl) (mA 9 rfl) (mA 10 rfl)
    rcases x_win hx1.1 (z1 := x) (z2 := z) with ⟨ew, w⟩ | ⟨ew, s2, k2, w1, w2, w3⟩
    · rw [ew, if_pos rfl, if_pos (show (up3 A1 31 k (vp_nar .boolean 0) 31 k).toInt = 0 by rw [up3_at rfl]; exact nar0)]
      refine ⟨_, _, _, rfl, i_s hxk (by omega), mI, Md.up3 mA rfl, fun s h9 => ?_⟩
      by_cases e : s = k
      · left
        rw [e, up3_at rfl]
        exact ⟨nar0, w k n hxk hz⟩
      · rw [up3_ne e, up3_o (by decide)]
        exact hw s (by omega)
    · have w : wnR r N k n := by rw [show k = s2 by omega, show n = k2 by omega]; exact w3
      rw [ew, if_neg (by decide), if_neg (show ¬ (up3 A1 31 k (vp_nar .boolean 1) 31 k).toInt = 0 by rw [up3_at rfl, nar1]; decide)]
      obtain ⟨A2, hA2⟩ : ∃ A2, A2 = up3 A1 31 k (vp_nar .boolean 1) := ⟨_, rfl⟩
      rw [← hA2]
      have hx2 := hx1.mv (I' := I1) (A' := A2) rfl rfl rfl (by rw [hA2, up3_o (by decide)]) (by rw [hA2, up3_o (by decide)]) (by rw [hA2, up3_o (by decide)]) (by rw [hA2, up3_o (by decide)])
      obtain ⟨I3, A3, a1, a2, a3, a4⟩ := x_openW hx2 hxk hz hn w
      rw [a1, bdX_mk]
      obtain ⟨A4, b1, b2, b3, b4⟩ := x_give (I := I3) (A := A3) (z := x * 16) (i_16k hxk (by omega)) (by omega) a4.2.1 hn
      rw [b1, bdX_mk]
      have mA2 : Md [21, 30, 31] A A2 := by rw [hA2]; exact Md.up3 mA rfl
      refine ⟨_, _, _, rfl, i_s hxk (by omega), Md.tr mI a2 rfl, Md.tr (Md.tr mA2 a3 rfl) b2 rfl, fun s h9 => ?_⟩
      have e31 : A4 31 s = A2 31 s := by rw [b2 31 rfl, a3 31 rfl]
      by_cases e : s = k
      · right
        rw [e31, hA2, e, up3_at rfl]
        refine ⟨nar1, w, ⟨a4.2.1, a4.2.2.1, a4.2.2.2.1⟩, fun i hi => ?_⟩
        rw [b3 i hi]; exact a4.2.2.2.2 i hi
      · rw [e31, hA2, up3_ne e]
        rcases hw s (by omega) with h8 | ⟨h8, h7, -, h6⟩
        · exact Or.inl h8
        · refine Or.inr ⟨h8, h7, ⟨a4.2.1, a4.2.2.1, a4.2.2.2.1⟩, fun i hi => ?_⟩
          rw [b4 _ (by omega), a3 30 rfl, hA2, up3_o (by decide)]
          exact h6 i hi
/-- the DISTANCE of two WINDOWS of a length -/
def dW (r : Nat → Int32) (n s o : Nat) : Int := dT (r 161).toInt (cC (r 163).toInt (lvl r n (gW r s)) (lvl r n (gW r o))) n
theorem dW_b {r : Nat → Int32} {N n s o : Nat} (hr : rok r N) (hb : 0 ≤ (r 161).toInt) (hn : n ≤ 16) (ws : wnR r N s n) (wo : wnR r N o n) : 0 ≤ dW r n s o ∧ dW r n s o ≤ 500000000 := dT_b hb (fun i j hi hj => csT_b (lvl_b (gW_raw hr ws) i hi) (lvl_b (gW_raw hr wo) j hj)) ws.1 hn
noncomputable def fN (r : Nat → Int32) (N n s o : Nat) : Int := @ite Int (wnR r N o n ∧ ((s : Int) + n ≤ o ∨ (o : Int) + n ≤ s)) (Classical.propDecidable _) (dW r n s o) (-1)
theorem fN_t {r : Nat → Int32} {N n s o : Nat} (h : wnR r N o n) (h2 : (s : Int) + n ≤ o ∨ (o : Int) + n ≤ s) : fN r N n s o = dW r n s o := if_pos ⟨h, h2⟩
theorem fN_f {r : Nat → Int32} {N n s o : Nat} (h : ¬ (wnR r N o n ∧ ((s : Int) + n ≤ o ∨ (o : Int) + n ≤ s))) : fN r N n s o = -1 := if_neg h
def nV (f : Nat → Int) (v : Int) : Int := if v < 0 then -2 else f v.toNat
theorem bwR_mono {f : Nat → Int} {k : Nat} (h : 0 ≤ bwR f k) : ∀ m, 0 ≤ bwR f (k + m) ∧ f (bwR f (k + m)).toNat ≤ f (bwR f k).toNat := by
  intro m
  induction m with
  | zero => exact ⟨h, Int.le_refl _⟩
  | succ m ih =>
    obtain ⟨i1, i2⟩ := ih
    have e : bwR f (k + m + 1) = if 0 ≤ f (k + m) ∧ (bwR f (k + m) < 0 ∨ f (k + m) < f (bwR f (k + m)).toNat) then ((k + m : Nat) : Int) else bwR f (k + m) := rfl
    rw [show k + (m + 1) = k + m + 1 by omega, e]
    by_cases c : 0 ≤ f (k + m) ∧ (bwR f (k + m) < 0 ∨ f (k + m) < f (bwR f (k + m)).toNat)
    · rw [if_pos c, show (((k + m : Nat) : Int)).toNat = k + m by omega]
      refine ⟨by omega, ?_⟩
      rcases c.2 with c2 | c2 <;> omega
    · rw [if_neg c]; exact ⟨i1, i2⟩
theorem x_nearest {I : Nat → Int32} {A : Nat → Nat → Int32} {r : Nat → Int32} {N n s : Nat} {z1 z2 z3 : Int32} {e : Int} (hw : WTk I A r N n 160) (hr : rok r N) (hb : 0 ≤ (r 161).toInt ∧ (r 161).toInt ≤ 1000) (hn2 : 2 ≤ n) (hn : n ≤ 16) (h1 : z1.toInt = (s : Int)) (h2 : z2.toInt = (n : Int)) (h3 : z3.toInt = e) (he : e < 2147483647) (ws : wnR r N s n) : ∃ (I' : Nat → Int32) (A' : Nat → Nat → Int32), fX9_findNearest I A z1 z2 z3 = (0, I', A') ∧ Md [33, 34, 38, 39] I I' ∧ Md [21, 22, 23] A A' ∧ (((I' 38).toInt = bwR (fN r N n s) 160 ∧ (I' 39).toInt = nV (fN r N n s) (bwR (fN r N n s) 160)) ∨ (0 ≤ (I' 38).toInt ∧ (I' 39).toInt ≤ e ∧ 0 ≤ bwR (fN r N n s) 160 ∧ nV (fN r N n s) (bwR (fN r N n s) 160) ≤ e)) := by
  have hN := hr.2.1
  have hsN := ws.2.1
  have t38 : ((-2 : Int32)).toInt = -2 := rfl
  obtain ⟨f, hf⟩ : ∃ f, f = fN r N n s := ⟨_, rfl⟩
  rw [← hf]
  obtain ⟨i30, i31, i32, ls⟩ : (I 30).toInt = (n : Int) ∧ (I 31).toInt = (r 161).toInt ∧ (I 32).toInt = (r 163).toInt ∧ ∀ i : Nat, i < n → (A 30 (16 * s + i)).toInt = lvl r n (gW r s) i := by
    rcases hw s (by omega) with ⟨-, b⟩ | ⟨-, -, ⟨a, b, c⟩, d⟩
    · exact absurd ws b
    · exact ⟨a, b, c, d⟩
  obtain ⟨A1, a1, a2, a3⟩ := x_takeL (I := upd (upd I 38 (-2)) 39 (-2)) (A := A) (z := z1 * 16) (i_16k h1 (by omega)) (by omega) i30 hn
  unfold fX9_findNearest
  rw [f_lt_eq, a1, bdX_mk]
  refine run_iiIA (Q := fun v => ∃ (I' : Nat → Int32) (A' : Nat → Nat → Int32), v = (0, I', A') ∧ Md [33, 34, 38, 39] I I' ∧ Md [21, 22, 23] A A' ∧ (((I' 38).toInt = bwR f 160 ∧ (I' 39).toInt = nV f (bwR f 160)) ∨ (0 ≤ (I' 38).toInt ∧ (I' 39).toInt ≤ e ∧ 0 ≤ bwR f 160 ∧ nV f (bwR f 160) ≤ e))) 160 (fun k x y I2 A2 => x.toInt = (k : Int) ∧ (y.toInt = if bwR f k < 0 then 2147483647 else f (bwR f k).toNat) ∧ Md [33, 34, 38, 39] I I2 ∧ Md [21, 22, 23] A A2 ∧ (∀ i : Nat, i < n → (A2 21 i).toInt = lvl r n (gW r s) i) ∧ (I2 38).toInt = bwR f k ∧ (I2 39).toInt = nV f (bwR f k)) (fun G k x y I2 A2 hk hP => ?_) FU 0 0 2147483647 _ A1 ⟨rfl, rfl, Md.up (Md.up Md.rf rfl) rfl, Md.tr Md.rf a2 rfl, fun i hi => by rw [a3 i hi]; exact ls i hi, rfl, rfl⟩ (by omega) (fu_lt (by omega))
  obtain ⟨hxk, hy, mI, mA, hl, h38, h39⟩ := hP
  have st : bwR f (k + 1) = if 0 ≤ f k ∧ (bwR f k < 0 ∨ f k < f (bwR f k).toNat) then (k : Int) else bwR f k := rfl
  unfold bX9_findNearest_34
  simp only [f_lt_eq]
  by_cases c : 160 ≤ x.toInt
  · rw [if_pos c]; right
    have ek : k = 160 := by omega
    subst ek
    exact ⟨I2, A2, rfl, mI, mA, Or.inl ⟨h38, h39⟩⟩
  · rw [if_neg c]
    by_cases cb : y.toInt ≤ z3.toInt
    · rw [if_pos cb]; right
      refine ⟨I2, A2, rfl, mI, mA, Or.inr ?_⟩
      by_cases c0 : bwR f k < 0
      · rw [if_pos c0] at hy; omega
      · rw [if_neg c0] at hy
        have mo := bwR_mono (f := f) (k := k) (by omega) (160 - k)
        rw [show k + (160 - k) = 160 by omega] at mo
        unfold nV at h39 ⊢
        rw [if_neg c0] at h39
        rw [if_neg (by omega)]
        exact ⟨by omega, by omega, mo.1, by omega⟩
    · rw [if_neg cb, clN hxk]
      left
      refine ⟨by omega, ?_⟩
      have skip : f k < 0 → ∃ (x' y' : Int32) (I' : Nat → Int32) (A' : Nat → Nat → Int32), G (x + Int32.ofInt 1) y I2 A2 = G x' y' I' A' ∧ x'.toInt = ((k + 1 : Nat) : Int) ∧ (y'.toInt = if bwR f (k + 1) < 0 then 2147483647 else f (bwR f (k + 1)).toNat) ∧ Md [33, 34, 38, 39] I I' ∧ Md [21, 22, 23] A A' ∧ (∀ i : Nat, i < n → (A' 21 i).toInt = lvl r n (gW r s) i) ∧ (I' 38).toInt = bwR f (k + 1) ∧ (I' 39).toInt = nV f (bwR f (k + 1)) := fun fk => by
        rw [bwR_s fk]
        exact ⟨_, _, _, _, rfl, i_s hxk (by omega), hy, mI, mA, hl, h38, h39⟩
      rcases hw k (by omega) with ⟨f1, nw⟩ | ⟨f1, w, -, lk⟩
      · rw [if_pos f1]
        exact skip (by rw [hf, fN_f (fun h9 => nw h9.1)]; omega)
      · rw [if_neg (by omega)]
        have es := i32_sub (x := x) (y := z1) rfl hxk h1 (by omega) (by omega)
        have ea := i_abs es (by omega)
        by_cases cc : (s : Int) + n ≤ k ∨ (k : Int) + n ≤ s
        · rw [if_pos (by rw [ea, h2]; split <;> omega)]
          obtain ⟨A3, b1, b2, b3⟩ := x_takeR (I := I2) (A := A2) (z := x * 16) (i_16k hxk (by omega)) (by omega) (by rw [mI 30 rfl]; exact i30) hn
          rw [b1, bdX_mk]
          have tb : TB I2 A3 n (r 161).toInt (r 163).toInt (lvl r n (gW r s)) (lvl r n (gW r k)) := ⟨⟨by omega, hn⟩, ⟨by rw [mI 30 rfl]; exact i30, by rw [mI 31 rfl]; exact i31, by rw [mI 32 rfl]; exact i32⟩, hb, ⟨fun i hi => by rw [b2 21 rfl]; exact hl i hi, fun i hi => by rw [b3 i hi, mA 30 rfl]; exact lk i hi⟩, lvl_b (gW_raw hr ws), lvl_b (gW_raw hr w)⟩
          obtain ⟨u, I4, A4, d1, d2, d3, d4⟩ := x_isLess tb hn2 (z := y) rfl
          rw [d1, bdX_mk]
          have fk : f k = dW r n s k := by rw [hf, fN_t w cc]
          have db := dW_b hr hb.1 hn ws w
          have dd : dT (r 161).toInt (cC (r 163).toInt (lvl r n (gW r s)) (lvl r n (gW r k))) n = f k := by rw [fk]; rfl
          rw [dd] at d4
          have mI4 : Md [33, 34, 38, 39] I I4 := Md.tr mI d2 rfl
          have mA4 : Md [21, 22, 23] A A4 := Md.tr (Md.tr mA b2 rfl) d3 rfl
          have hl4 : ∀ i : Nat, i < n → (A4 21 i).toInt = lvl r n (gW r s) i := fun i hi => by rw [d3 21 rfl, b2 21 rfl]; exact hl i hi
          rcases d4 with ⟨u1, u2, u3⟩ | ⟨u1, u2⟩
          · rw [if_neg (by omega)]
            have c9 : 0 ≤ f k ∧ (bwR f k < 0 ∨ f k < f (bwR f k).toNat) := by
              refine ⟨by omega, ?_⟩
              by_cases cb : bwR f k < 0
              · exact Or.inl cb
              · rw [if_neg cb] at hy; exact Or.inr (by omega)
            have e2 : bwR f (k + 1) = (k : Int) := by rw [st, if_pos c9]
            refine ⟨_, _, _, _, rfl, i_s hxk (by omega), ?_, Md.up (Md.up mI4 rfl) rfl, mA4, hl4, ?_, ?_⟩
            · rw [e2, if_neg (by omega), show ((k : Int)).toNat = k by omega]; exact u3
            · rw [e2]; exact hxk
            · rw [e2]; unfold nV; rw [if_neg (by omega), show ((k : Int)).toNat = k by omega]; exact u3
          · rw [if_pos u1]
            have c9 : ¬ (0 ≤ f k ∧ (bwR f k < 0 ∨ f k < f (bwR f k).toNat)) := fun h9 => by
              by_cases cb : bwR f k < 0
              · rw [if_pos cb] at hy; omega
              · rw [if_neg cb] at hy
                rcases h9.2 with h8 | h8 <;> omega
            have e2 : bwR f (k + 1) = bwR f k := by rw [st, if_neg c9]
            refine ⟨_, _, _, _, rfl, i_s hxk (by omega), ?_, mI4, mA4, hl4, ?_, ?_⟩
            · rw [e2]; exact hy
            · rw [e2, d2 38 rfl]; exact h38
            · rw [e2, d2 39 rfl]; exact h39
        · rw [if_neg (by rw [ea, h2]; split <;> omega)]
          exact skip (by rw [hf, fN_f (fun h9 => cc h9.2)]; omega)
end
section
theorem run_iiiIAL {ρ : Type} {d : ρ} {b : (Int32 → Int32 → Int32 → (Nat → Int32) → (Nat → Nat → Int32) → (Nat → Nat → Int64) → ρ) → Int32 → Int32 → Int32 → (Nat → Int32) → (Nat → Nat → Int32) → (Nat → Nat → Int64) → ρ} {Q : ρ → Prop} (n : Nat) (P : Nat → Int32 → Int32 → Int32 → (Nat → Int32) → (Nat → Nat → Int32) → (Nat → Nat → Int64) → Prop) (hs : ∀ (G : Int32 → Int32 → Int32 → (Nat → Int32) → (Nat → Nat → Int32) → (Nat → Nat → Int64) → ρ) (k : Nat) (x0 : Int32) (x1 : Int32) (x2 : Int32) (I : (Nat → Int32)) (A : (Nat → Nat → Int32)) (L : (Nat → Nat → Int64)), k ≤ n → P k x0 x1 x2 I A L → (k < n ∧ ∃ (x0' : Int32) (x1' : Int32) (x2' : Int32) (I' : (Nat → Int32)) (A' : (Nat → Nat → Int32)) (L' : (Nat → Nat → Int64)), b G x0 x1 x2 I A L = G x0' x1' x2' I' A' L' ∧ P (k + 1) x0' x1' x2' I' A' L') ∨ Q (b G x0 x1 x2 I A L)) : ∀ (m k : Nat) (x0 : Int32) (x1 : Int32) (x2 : Int32) (I : (Nat → Int32)) (A : (Nat → Nat → Int32)) (L : (Nat → Nat → Int64)), P k x0 x1 x2 I A L → k ≤ n → n - k < m → Q (itr_iiiIAL d b m x0 x1 x2 I A L) := by
  intro m
  induction m with
  | zero => intro k x0 x1 x2 I A L _ _ h; omega
  | succ m ih =>
    intro k x0 x1 x2 I A L hP hk hm
    show Q (b (itr_iiiIAL d b m) x0 x1 x2 I A L)
    rcases hs (itr_iiiIAL d b m) k x0 x1 x2 I A L hk hP with ⟨h1, x0', x1', x2', I', A', L', e, h2⟩ | h1
    · rw [e]; exact ih (k + 1) x0' x1' x2' I' A' L' h2 (by omega) (by omega)
    · exact h1
theorem run_iiiiIAL {ρ : Type} {d : ρ} {b : (Int32 → Int32 → Int32 → Int32 → (Nat → Int32) → (Nat → Nat → Int32) → (Nat → Nat → Int64) → ρ) → Int32 → Int32 → Int32 → Int32 → (Nat → Int32) → (Nat → Nat → Int32) → (Nat → Nat → Int64) → ρ} {Q : ρ → Prop} (n : Nat) (P : Nat → Int32 → Int32 → Int32 → Int32 → (Nat → Int32) → (Nat → Nat → Int32) → (Nat → Nat → Int64) → Prop) (hs : ∀ (G : Int32 → Int32 → Int32 → Int32 → (Nat → Int32) → (Nat → Nat → Int32) → (Nat → Nat → Int64) → ρ) (k : Nat) (x0 : Int32) (x1 : Int32) (x2 : Int32) (x3 : Int32) (I : (Nat → Int32)) (A : (Nat → Nat → Int32)) (L : (Nat → Nat → Int64)), k ≤ n → P k x0 x1 x2 x3 I A L → (k < n ∧ ∃ (x0' : Int32) (x1' : Int32) (x2' : Int32) (x3' : Int32) (I' : (Nat → Int32)) (A' : (Nat → Nat → Int32)) (L' : (Nat → Nat → Int64)), b G x0 x1 x2 x3 I A L = G x0' x1' x2' x3' I' A' L' ∧ P (k + 1) x0' x1' x2' x3' I' A' L') ∨ Q (b G x0 x1 x2 x3 I A L)) : ∀ (m k : Nat) (x0 : Int32) (x1 : Int32) (x2 : Int32) (x3 : Int32) (I : (Nat → Int32)) (A : (Nat → Nat → Int32)) (L : (Nat → Nat → Int64)), P k x0 x1 x2 x3 I A L → k ≤ n → n - k < m → Q (itr_iiiiIAL d b m x0 x1 x2 x3 I A L) := by
  intro m
  induction m with
  | zero => intro k x0 x1 x2 x3 I A L _ _ h; omega
  | succ m ih =>
    intro k x0 x1 x2 x3 I A L hP hk hm
    show Q (b (itr_iiiiIAL d b m) x0 x1 x2 x3 I A L)
    rcases hs (itr_iiiiIAL d b m) k x0 x1 x2 x3 I A L hk hP with ⟨h1, x0', x1', x2', x3', I', A', L', e, h2⟩ | h1
    · rw [e]; exact ih (k + 1) x0' x1' x2' x3' I' A' L' h2 (by omega) (by omega)
    · exact h1
/-- what the reference goes on from -/
def MK (B : Nat → Nat → Int32) (r : Nat → Int32) (N : Nat) : Prop := rok r N ∧ B 17 = r ∧ (∀ k : Nat, k < 165 → B 18 k = r k) ∧ (0 ≤ (r 162).toInt ∧ (r 162).toInt ≤ 3) ∧ 0 ≤ (r 161).toInt ∧ (r 161).toInt ≤ 1000
theorem MK.mv {B B' : Nat → Nat → Int32} {r : Nat → Int32} {N : Nat} (h : MK B r N) (b17 : B' 17 = B 17) (b18 : B' 18 = B 18) : MK B' r N := ⟨h.1, b17.trans h.2.1, fun k hk => by rw [b18]; exact h.2.2.1 k hk, h.2.2.2⟩
section MNEAR
variable {J : Nat → Int32} {B : Nat → Nat → Int32} {L : Nat → Nat → Int64} {r : Nat → Int32} {N n : Nat}
theorem MK.win (h : MK B r N) {z1 z2 : Int32} {s : Nat} (h1 : z1.toInt = (s : Int)) (h2 : z2.toInt = (n : Int)) : (fM12_isWindow J B L z1 z2 = 0 ∧ ¬ wnR r N s n) ∨ (fM12_isWindow J B L z1 z2 = 1 ∧ wnR r N s n) := by
  have hr : rok (B 17) N := by rw [h.2.1]; exact h.1
  rcases m_win (J := J) (L := L) hr (z1 := z1) (z2 := z2) with ⟨a, b⟩ | ⟨a, s2, k2, b, c, d⟩
  · left
    have := b s n h1 h2
    rw [h.2.1] at this
    exact ⟨a, this⟩
  · right
    rw [h.2.1] at d
    refine ⟨a, ?_⟩
    rw [show s = s2 by omega, show n = k2 by omega]; exact d
theorem m_dW (h : MK B r N) {z1 z2 z3 : Int32} {s o : Nat} (h1 : z1.toInt = (s : Int)) (h2 : z2.toInt = (o : Int)) (h3 : z3.toInt = (n : Int)) (hn : n ≤ 16) (ws : wnR r N s n) (wo : wnR r N o n) : ∃ (J1 : Nat → Int32) (B1 : Nat → Nat → Int32) (v : Int32) (J' : Nat → Int32) (B' : Nat → Nat → Int32), fM12_laysWindows J B L z1 z2 z3 = (0, J1, B1, L) ∧ fM12_laysTable J1 B1 L 2000000000 = (v, J', B', L) ∧ v.toInt = dW r n s o ∧ Md [18, 19, 20] J J' ∧ Md [19, 20, 21] B B' := by
  obtain ⟨J1, B1, a1, a2, a3, a4⟩ := m_laysWs (J := J) (L := L) h.1 h.2.2.1 h.2.2.2.1.1 h.2.2.2.1.2 h1 h2 h3 hn ws wo
  have tn : TN J1 B1 n (r 161).toInt (r 163).toInt (lvl r n (gW r s)) (lvl r n (gW r o)) := ⟨⟨ws.1, hn⟩, ⟨a4.1, by rw [a3 18 rfl, h.2.2.1 161 (by omega)], by rw [a3 18 rfl, h.2.2.1 163 (by omega)]⟩, h.2.2.2.2, a4.2, lvl_b (gW_raw h.1 ws), lvl_b (gW_raw h.1 wo)⟩
  obtain ⟨v, J2, B2, b1, b2, b3, b4, -⟩ := m_whole (L := L) tn
  exact ⟨J1, B1, v, J2, B2, a1, b1, b2, Md.tr (Md.tr Md.rf a2 rfl) b3 rfl, Md.tr (Md.tr Md.rf a3 rfl) b4 rfl⟩
theorem fN_tail {s : Nat} (hn : 1 ≤ n) : ∀ i, N ≤ i → fN r N n s i < 0 := fun i hi => by
  rw [fN_f (fun h9 => by have := h9.1.2.1; omega)]; omega
theorem fN_b (hr : rok r N) (hb : 0 ≤ (r 161).toInt) (hn : n ≤ 16) {s : Nat} (ws : wnR r N s n) (o : Nat) : -1 ≤ fN r N n s o ∧ fN r N n s o ≤ 500000000 := by
  by_cases c : wnR r N o n ∧ ((s : Int) + n ≤ o ∨ (o : Int) + n ≤ s)
  · rw [fN_t c.1 c.2]
    have := dW_b hr hb hn ws c.1
    omega
  · rw [fN_f c]; omega
theorem m_nearest (h : MK B r N) {z1 z2 : Int32} {s : Nat} (h1 : z1.toInt = (s : Int)) (h2 : z2.toInt = (n : Int)) (hn : n ≤ 16) (ws : wnR r N s n) : ∃ (v : Int32) (J' : Nat → Int32) (B' : Nat → Nat → Int32), fM12_nearOf J B L z1 z2 = (v, J', B', L) ∧ Md [18, 19, 20, 25] J J' ∧ Md [19, 20, 21] B B' ∧ v.toInt = bwR (fN r N n s) 160 ∧ (J' 25).toInt = nV (fN r N n s) (bwR (fN r N n s) 160) := by
  have hN := h.1.2.1
  have hsN := ws.2.1
  have h17 : (B 17 0).toInt = (N : Int) := by rw [h.2.1]; exact h.1.1
  have t1 : (1 : Int32).toInt = 1 := rfl
  obtain ⟨f, hf⟩ : ∃ f, f = fN r N n s := ⟨_, rfl⟩
  rw [← hf]
  have e160 : bwR f 160 = bwR f N := by
    have := bwR_tail (f := f) (k := N) (160 - N) (fun i h1 h2 => by rw [hf]; exact fN_tail ws.1 i h1)
    rwa [show N + (160 - N) = 160 by omega] at this
  rw [e160]
  have ea := i32_sub (x := 1) (y := z2) rfl t1 h2 (by omega) (by omega)
  have eb := i32_sub (x := z2) (y := 1) rfl h2 t1 (by omega) (by omega)
  unfold fM12_nearOf
  refine run_iiIAL (Q := fun u => ∃ (v : Int32) (J' : Nat → Int32) (B' : Nat → Nat → Int32), u = (v, J', B', L) ∧ Md [18, 19, 20, 25] J J' ∧ Md [19, 20, 21] B B' ∧ v.toInt = bwR f N ∧ (J' 25).toInt = nV f (bwR f N)) N (fun k x y J2 B2 L2 => x.toInt = (k : Int) ∧ y.toInt = bwR f k ∧ (J2 25).toInt = nV f (bwR f k) ∧ Md [18, 19, 20, 25] J J2 ∧ Md [19, 20, 21] B B2 ∧ L2 = L) (fun G k x y J2 B2 L2 hk hP => ?_) FU 0 0 (-2) _ B L ⟨rfl, rfl, rfl, Md.up Md.rf rfl, Md.rf, rfl⟩ (by omega) (fu_lt (by omega))
  obtain ⟨hxk, hy, h25, mJ, mB, eL⟩ := hP
  subst eL
  have st : bwR f (k + 1) = if 0 ≤ f k ∧ (bwR f k < 0 ∨ f k < f (bwR f k).toNat) then (k : Int) else bwR f k := rfl
  unfold bM12_nearOf_12
  dsimp only [f_lt]
  by_cases c : (B 17 0).toInt ≤ x.toInt
  · rw [if_pos c]; right
    have ek : k = N := by omega
    subst ek
    exact ⟨y, J2, B2, rfl, mJ, mB, hy, h25⟩
  · rw [if_neg c]
    left
    refine ⟨by omega, ?_⟩
    have skip : f k < 0 → ∃ (x' y' : Int32) (J' : Nat → Int32) (B' : Nat → Nat → Int32) (L' : Nat → Nat → Int64), G (x + Int32.ofInt 1) y J2 B2 L2 = G x' y' J' B' L' ∧ x'.toInt = ((k + 1 : Nat) : Int) ∧ y'.toInt = bwR f (k + 1) ∧ (J' 25).toInt = nV f (bwR f (k + 1)) ∧ Md [18, 19, 20, 25] J J' ∧ Md [19, 20, 21] B B' ∧ L' = L2 := fun fk => by
      rw [bwR_s fk]
      exact ⟨_, _, _, _, _, rfl, i_s hxk (by omega), hy, h25, mJ, mB, rfl⟩
    have es := i32_sub (x := x) (y := z1) rfl hxk h1 (by omega) (by omega)
    rw [m_in, if10]
    by_cases cc : (s : Int) + n ≤ k ∨ (k : Int) + n ≤ s
    · rw [if_neg (by omega)]
      have h' := h.mv (B' := B2) (mB 17 rfl) (mB 18 rfl)
      rcases h'.win (J := J2) (L := L2) hxk h2 with ⟨ew, w⟩ | ⟨ew, w⟩
      · rw [ew, if_pos rfl]
        exact skip (by rw [hf, fN_f (fun h9 => w h9.1)]; omega)
      · rw [ew, if_neg (by decide)]
        obtain ⟨J3, B3, v, J4, B4, a1, a2, a3, a4, a5⟩ := m_dW (J := J2) (L := L2) h' h1 hxk h2 hn ws w
        rw [a1, bdM_mk, a2, bdM_mk]
        have fk : f k = dW r n s k := by rw [hf, fN_t w cc]
        have db := dW_b h.1 h.2.2.2.2.1 hn ws w
        have mJ4 : Md [18, 19, 20, 25] J J4 := Md.tr mJ a4 rfl
        have mB4 : Md [19, 20, 21] B B4 := Md.tr mB a5 rfl
        have new : (0 ≤ f k ∧ (bwR f k < 0 ∨ f k < f (bwR f k).toNat)) → ∃ (x' y' : Int32) (J' : Nat → Int32) (B' : Nat → Nat → Int32) (L' : Nat → Nat → Int64), G (x + Int32.ofInt 1) x (upd J4 25 v) B4 L2 = G x' y' J' B' L' ∧ x'.toInt = ((k + 1 : Nat) : Int) ∧ y'.toInt = bwR f (k + 1) ∧ (J' 25).toInt = nV f (bwR f (k + 1)) ∧ Md [18, 19, 20, 25] J J' ∧ Md [19, 20, 21] B B' ∧ L' = L2 := fun c9 => by
          rw [st, if_pos c9]
          refine ⟨_, _, _, _, _, rfl, i_s hxk (by omega), hxk, ?_, Md.up mJ4 rfl, mB4, rfl⟩
          unfold nV
          rw [if_neg (by omega), show ((k : Int)).toNat = k by omega, fk]
          exact a3
        by_cases c1 : y.toInt < 0
        · rw [if_pos c1]
          exact new ⟨by omega, Or.inl (by omega)⟩
        · rw [if_neg c1]
          have h25' := h25
          unfold nV at h25'
          rw [if_neg (by omega)] at h25'
          by_cases c2 : v.toInt < (J2 25).toInt
          · rw [if_pos c2]
            exact new ⟨by omega, Or.inr (by omega)⟩
          · rw [if_neg c2]
            have c9 : ¬ (0 ≤ f k ∧ (bwR f k < 0 ∨ f k < f (bwR f k).toNat)) := fun h9 => by
              rcases h9.2 with h8 | h8 <;> omega
            rw [st, if_neg c9]
            exact ⟨_, _, _, _, _, rfl, i_s hxk (by omega), hy, by rw [a4 25 rfl]; exact h25, mJ4, mB4, rfl⟩
    · rw [if_pos (by omega)]
      exact skip (by rw [hf, fN_f (fun h9 => cc h9.2)]; omega)
end MNEAR
theorem RA.mk {J : Nat → Int32} {B : Nat → Nat → Int32} {σ N nq : Nat} {ql : Nat → Nat} {qv : Nat → Nat → Int} (hm : MW J B σ N nq ql qv) (h161 : 0 ≤ (B 17 161).toInt ∧ (B 17 161).toInt ≤ 15) (h162 : 0 ≤ (B 17 162).toInt ∧ (B 17 162).toInt ≤ 3) : MK (up2 B 18 (cpo (B 17) (B 18) 0 165)) (B 17) N := ⟨hm.1, rfl, m_cp, h162, h161.1, by omega⟩
theorem nV_pos {f : Nat → Int} {k : Nat} (h : 0 ≤ bwR f k) : 0 ≤ nV f (bwR f k) := by
  unfold nV
  rw [if_neg (by omega)]
  rcases bwR_ok (f := f) k with o1 | ⟨-, -, o3⟩
  · omega
  · exact o3
section ANS14
variable {I I' J J' : Nat → Int32} {A A' B B' : Nat → Nat → Int32} {M M' : Nat → Nat → Int64} {z z1 z2 z3 z4 v w : Int32}
theorem ans_near (h : RA I A J B M) (_ : IvX I A) (_ : IvM J B) (eX : FE (fX11_near I A z1 z2 z3) (v, I', A')) (eM : FE (fM12_near J B M z1 z2 z3) (w, J', B', M')) : v = w := by
  have eX2 : fX11_near I A z1 z2 z3 = (v, I', A') := eX
  have eM2 : fM12_near J B M z1 z2 z3 = (w, J', B', M') := eM
  obtain ⟨σ, N, nq, ql, qv, hx, hm⟩ := h.xm
  have hs := hx.2.2.2.2.n
  have t0 : (0 : Int32).toInt = 0 := rfl
  have t1 : (1 : Int32).toInt = 1 := rfl
  have t2 : (2 : Int32).toInt = 2 := rfl
  have t16 : (16 : Int32).toInt = 16 := rfl
  unfold fX11_near at eX2
  unfold fM12_near at eM2
  rw [x_str, if10] at eX2
  rw [m_in, if10, m_in, if10] at eM2
  by_cases cn : 2 ≤ z2.toInt ∧ z2.toInt ≤ 16
  · rw [if_pos cn] at eX2
    rw [if_pos (by omega)] at eM2
    rcases win_eq (J := J) (L := M) hx.1 z1 z2 with ⟨a, b⟩ | ⟨a, b, s, n, hs1, hs2, hw⟩
    · rw [b, if_pos rfl] at eM2
      rw [a, if_pos rfl] at eX2
      cases eM2
      by_cases c1 : z3.toInt < 0
      · rw [if_pos c1] at eX2; cases eX2; rfl
      · rw [if_neg c1] at eX2
        by_cases c2 : 1 < z3.toInt
        · rw [if_pos c2] at eX2; cases eX2; rfl
        · rw [if_neg c2] at eX2; cases eX2; rfl
    · rw [b, if_neg (by decide)] at eM2
      rw [a, if_neg (show ¬ (1 : Int32) = 0 by decide)] at eX2
      by_cases c1 : z3.toInt < 0
      · rw [if_pos c1] at eX2
        rw [if_neg (by omega)] at eM2
        cases eX2; cases eM2; rfl
      · rw [if_neg c1] at eX2
        by_cases c2 : 1 < z3.toInt
        · rw [if_pos c2] at eX2
          rw [if_neg (by omega)] at eM2
          cases eX2; cases eM2; rfl
        · rw [if_neg c2] at eX2
          rw [if_pos (by omega)] at eM2
          obtain ⟨I1, A1, a1, a2, a3, a4⟩ := x_bring hx hs2 (by omega)
          obtain ⟨I2, A2, b1, -, -, b4⟩ := x_nearest (z1 := z1) (z2 := z2) (z3 := -1) (e := -1) a4 hx.1.1 ⟨hs.2.2.2.2.1, by omega⟩ (by omega) (by omega) hs1 hs2 rfl (by omega) hw
          have mk := RA.mk hm ⟨hs.2.2.2.2.1, hs.2.2.2.2.2.1⟩ ⟨hs.2.2.2.2.2.2.1, hs.2.2.2.2.2.2.2.1⟩
          obtain ⟨u, J2, B2, c1, -, -, c4, c5⟩ := m_nearest (J := J) (L := M) mk hs1 hs2 (by omega) hw
          have fn : fX9_findNear I A z1 z2 = (0, I2, A2) := by
            unfold fX9_findNear
            rw [a1, bdX_mk, b1, bdX_mk]
          rw [fn, bdX_mk] at eX2
          unfold fM12_copies at eM2
          rw [bdM_mk, c1, bdM_mk] at eM2
          have bw : (I2 38).toInt = bwR (fN (B 17) N n s) 160 ∧ (I2 39).toInt = nV (fN (B 17) N n s) (bwR (fN (B 17) N n s) 160) := by
            rcases b4 with b4 | ⟨-, -, d3, d4⟩
            · exact b4
            · exact absurd (Int.le_trans (nV_pos d3) d4) (by decide)
          by_cases k0 : z3.toInt = 0
          · rw [if_neg (fun h9 => h9 k0)] at eX2 eM2
            cases eX2; cases eM2
            exact Int32.toInt_inj.mp (bw.1.trans c4.symm)
          · rw [if_pos k0] at eX2 eM2
            cases eX2; cases eM2
            exact Int32.toInt_inj.mp (bw.2.trans c5.symm)
  · rw [if_neg cn] at eX2
    rw [if_neg (by omega)] at eM2
    cases eX2; cases eM2; rfl
end ANS14
end
section
/-- the one whose nearest is farthest -/
noncomputable def gO (r : Nat → Int32) (N n s : Nat) : Int := @ite Int (wnR r N s n) (Classical.propDecidable _) (nV (fN r N n s) (bwR (fN r N n s) 160)) (-2)
theorem gO_t {r : Nat → Int32} {N n s : Nat} (h : wnR r N s n) : gO r N n s = nV (fN r N n s) (bwR (fN r N n s) 160) := if_pos h
theorem gO_f {r : Nat → Int32} {N n s : Nat} (h : ¬ wnR r N s n) : gO r N n s = -2 := if_neg h
def oD (g : Nat → Int) : Nat → Int × Int
  | 0 => (-2, -2)
  | k + 1 => if (oD g k).2 < g k then ((k : Int), g k) else oD g k
theorem oD_t {g : Nat → Int} {k : Nat} (h : (oD g k).2 < g k) : oD g (k + 1) = ((k : Int), g k) := if_pos h
theorem oD_f {g : Nat → Int} {k : Nat} (h : ¬ (oD g k).2 < g k) : oD g (k + 1) = oD g k := if_neg h
theorem oD_b {g : Nat → Int} (hg : ∀ k, g k ≤ 500000000) : ∀ k, -2 ≤ (oD g k).2 ∧ (oD g k).2 ≤ 500000000 := by
  intro k
  induction k with
  | zero => exact ⟨by show (-2 : Int) ≤ -2; omega, by show (-2 : Int) ≤ 500000000; omega⟩
  | succ k ih =>
    by_cases c : (oD g k).2 < g k
    · rw [oD_t c]
      have := hg k
      exact ⟨by show -2 ≤ g k; omega, this⟩
    · rw [oD_f c]; exact ih
theorem oD_tail {g : Nat → Int} (hg : ∀ k, g k ≤ 500000000) {k : Nat} : ∀ m, (∀ i, k ≤ i → g i = -2) → oD g (k + m) = oD g k := by
  intro m h
  induction m with
  | zero => rfl
  | succ m ih =>
    have b := oD_b hg (k + m)
    have e := h (k + m) (by omega)
    rw [show k + (m + 1) = k + m + 1 by omega, oD_f (by omega)]; exact ih
section ODD
variable {I J : Nat → Int32} {A B : Nat → Nat → Int32} {L : Nat → Nat → Int64} {r : Nat → Int32} {N n : Nat}
theorem gO_b (hr : rok r N) (hb : 0 ≤ (r 161).toInt) (hn : n ≤ 16) (s : Nat) : gO r N n s ≤ 500000000 := by
  by_cases w : wnR r N s n
  · rw [gO_t w]
    unfold nV
    split
    · omega
    · exact (fN_b hr hb hn w _).2
  · rw [gO_f w]; omega
theorem x_odd (hw : WTk I A r N n 160) (hr : rok r N) (hb : 0 ≤ (r 161).toInt ∧ (r 161).toInt ≤ 1000) (hn2 : 2 ≤ n) (hn : n ≤ 16) {z : Int32} (hz : z.toInt = (n : Int)) (h43 : (I 43).toInt = -2) (h44 : (I 44).toInt = -2) : ∃ (I' : Nat → Int32) (A' : Nat → Nat → Int32), itr_iIA dfX (bX9_findOdd_19 A z) FU 0 I A = (0, I', A') ∧ (I' 43).toInt = (oD (gO r N n) 160).1 ∧ (I' 44).toInt = (oD (gO r N n) 160).2 := by
  obtain ⟨g, hg⟩ : ∃ g, g = gO r N n := ⟨_, rfl⟩
  rw [← hg]
  have gb : ∀ k, g k ≤ 500000000 := fun k => by rw [hg]; exact gO_b hr hb.1 hn k
  refine run_iIA (Q := fun u => ∃ (I' : Nat → Int32) (A' : Nat → Nat → Int32), u = (0, I', A') ∧ (I' 43).toInt = (oD g 160).1 ∧ (I' 44).toInt = (oD g 160).2) 160 (fun k x I2 A2 => x.toInt = (k : Int) ∧ Md [33, 34, 38, 39, 43, 44] I I2 ∧ Md [21, 22, 23] A A2 ∧ (I2 43).toInt = (oD g k).1 ∧ (I2 44).toInt = (oD g k).2) (fun G k x I2 A2 hk hP => ?_) FU 0 0 I A ⟨rfl, Md.rf, Md.rf, h43, h44⟩ (by omega) (fu_lt (by omega))
  obtain ⟨hxk, mI, mA, g1, g2⟩ := hP
  have ob := oD_b gb k
  unfold bX9_findOdd_19
  dsimp only [f_lt]
  by_cases c : 160 ≤ x.toInt
  · rw [if_pos c]; right
    have ek : k = 160 := by omega
    subst ek
    exact ⟨I2, A2, rfl, g1, g2⟩
  · rw [if_neg c, clN hxk]
    left
    refine ⟨by omega, ?_⟩
    rcases hw k (by omega) with ⟨f1, nw⟩ | ⟨f1, w, -, -⟩
    · rw [if_neg (fun h9 => h9 f1)]
      have gk : g k = -2 := by rw [hg, gO_f nw]
      rw [oD_f (by omega)]
      exact ⟨_, _, _, rfl, i_s hxk (by omega), mI, mA, g1, g2⟩
    · rw [if_pos (show (A 31 k).toInt ≠ 0 by omega)]
      have hw2 := hw.mv (I' := I2) (A' := A2) (mI 30 rfl) (mI 31 rfl) (mI 32 rfl) (mA 30 rfl) (mA 31 rfl)
      obtain ⟨I3, A3, a1, a2, a3, a4⟩ := x_nearest (z1 := x) (z2 := z) (z3 := I2 44) (e := (oD g k).2) hw2 hr hb hn2 hn hxk hz g2 (by omega) w
      rw [a1, bdX_mk]
      have gk : g k = nV (fN r N n k) (bwR (fN r N n k) 160) := by rw [hg, gO_t w]
      rw [← gk] at a4
      have mI3 : Md [33, 34, 38, 39, 43, 44] I I3 := Md.tr mI a2 rfl
      have mA3 : Md [21, 22, 23] A A3 := Md.tr mA a3 rfl
      have e43 : (I3 43).toInt = (oD g k).1 := by rw [a2 43 rfl]; exact g1
      have e44 : (I3 44).toInt = (oD g k).2 := by rw [a2 44 rfl]; exact g2
      by_cases c1 : (I3 38).toInt < 0
      · rw [if_pos c1]
        have gn : ¬ (oD g k).2 < g k := by
          rcases a4 with ⟨b1, b2⟩ | ⟨b1, -⟩
          · have : g k = -2 := by rw [gk]; unfold nV; rw [if_pos (by omega)]
            omega
          · omega
        rw [oD_f gn]
        exact ⟨_, _, _, rfl, i_s hxk (by omega), mI3, mA3, e43, e44⟩
      · rw [if_neg c1]
        by_cases c2 : (I3 39).toInt ≤ (I2 44).toInt
        · rw [if_pos c2]
          have gn : ¬ (oD g k).2 < g k := by
            rcases a4 with ⟨b1, b2⟩ | ⟨b1, b2, b3, b4⟩ <;> omega
          rw [oD_f gn]
          exact ⟨_, _, _, rfl, i_s hxk (by omega), mI3, mA3, e43, e44⟩
        · rw [if_neg c2]
          have e39 : (I3 39).toInt = g k := by
            rcases a4 with ⟨b1, b2⟩ | ⟨b1, b2, b3, b4⟩
            · exact b2
            · omega
          rw [oD_t (by omega)]
          exact ⟨_, _, _, rfl, i_s hxk (by omega), Md.up (Md.up mI3 rfl) rfl, mA3, hxk, e39⟩
theorem m_odd {C : Nat → Nat → Int32} (hC : C 17 = B 17) (h : MK B r N) (hn2 : 2 ≤ n) (hn : n ≤ 16) {z1 z2 : Int32} (h1 : z1.toInt = (n : Int)) : ∃ (v : Int32) (J' : Nat → Int32) (B' : Nat → Nat → Int32), itr_iiiIAL dfM (bM12_odd_35 C z2 z1) FU 0 (-2) (-2) J B L = (v, J', B', L) ∧ v.toInt = if z2.toInt = 0 then (oD (gO r N n) 160).1 else (oD (gO r N n) 160).2 := by
  have hN := h.1.2.1
  have h17 : (C 17 0).toInt = (N : Int) := by rw [hC, h.2.1]; exact h.1.1
  obtain ⟨g, hg⟩ : ∃ g, g = gO r N n := ⟨_, rfl⟩
  rw [← hg]
  have gb : ∀ k, g k ≤ 500000000 := fun k => by rw [hg]; exact gO_b h.1 h.2.2.2.2.1 hn k
  have e160 : oD g 160 = oD g N := by
    have := oD_tail gb (k := N) (160 - N) (fun i h9 => by rw [hg]; exact gO_f (fun h8 => by have := h8.2.1; omega))
    rwa [show N + (160 - N) = 160 by omega] at this
  rw [e160]
  refine run_iiiIAL (Q := fun u => ∃ (v : Int32) (J' : Nat → Int32) (B' : Nat → Nat → Int32), u = (v, J', B', L) ∧ v.toInt = if z2.toInt = 0 then (oD g N).1 else (oD g N).2) N (fun k x y p J2 B2 L2 => x.toInt = (k : Int) ∧ y.toInt = (oD g k).2 ∧ p.toInt = (oD g k).1 ∧ Md [18, 19, 20, 25] J J2 ∧ Md [19, 20, 21] B B2 ∧ L2 = L) (fun G k x y p J2 B2 L2 hk hP => ?_) FU 0 0 (-2) (-2) J B L ⟨rfl, rfl, rfl, Md.rf, Md.rf, rfl⟩ (by omega) (fu_lt (by omega))
  obtain ⟨hxk, hy, hp, mJ, mB, eL⟩ := hP
  subst eL
  have ob := oD_b gb k
  unfold bM12_odd_35
  dsimp only [f_lt]
  by_cases c : (C 17 0).toInt ≤ x.toInt
  · rw [if_pos c]; right
    have ek : k = N := by omega
    subst ek
    by_cases k0 : z2.toInt = 0
    · rw [if_neg (fun h9 => h9 k0)]; exact ⟨p, J2, B2, rfl, by rw [if_pos k0]; exact hp⟩
    · rw [if_pos k0]; exact ⟨y, J2, B2, rfl, by rw [if_neg k0]; exact hy⟩
  · rw [if_neg c]
    left
    refine ⟨by omega, ?_⟩
    have h' := h.mv (B' := B2) (mB 17 rfl) (mB 18 rfl)
    rcases h'.win (J := J2) (L := L2) hxk h1 with ⟨ew, w⟩ | ⟨ew, w⟩
    · rw [ew, if_pos rfl]
      have gk : g k = -2 := by rw [hg, gO_f w]
      rw [oD_f (by omega)]
      exact ⟨_, _, _, _, _, _, rfl, i_s hxk (by omega), hy, hp, mJ, mB, rfl⟩
    · rw [ew, if_neg (by decide)]
      obtain ⟨v, J3, B3, a1, a2, a3, a4, a5⟩ := m_nearest (J := J2) (L := L2) h' hxk h1 hn w
      rw [a1, bdM_mk]
      have gk : g k = nV (fN r N n k) (bwR (fN r N n k) 160) := by rw [hg, gO_t w]
      rw [← gk] at a5
      have mJ3 : Md [18, 19, 20, 25] J J3 := Md.tr mJ a2 rfl
      have mB3 : Md [19, 20, 21] B B3 := Md.tr mB a3 rfl
      by_cases c1 : v.toInt < 0
      · rw [if_pos c1]
        have : g k = -2 := by rw [gk]; unfold nV; rw [if_pos (by omega)]
        rw [oD_f (by omega)]
        exact ⟨_, _, _, _, _, _, rfl, i_s hxk (by omega), hy, hp, mJ3, mB3, rfl⟩
      · rw [if_neg c1]
        by_cases c2 : y.toInt < (J3 25).toInt
        · rw [if_pos c2, oD_t (by omega)]
          exact ⟨_, _, _, _, _, _, rfl, i_s hxk (by omega), a5, hxk, mJ3, mB3, rfl⟩
        · rw [if_neg c2, oD_f (by omega)]
          exact ⟨_, _, _, _, _, _, rfl, i_s hxk (by omega), hy, hp, mJ3, mB3, rfl⟩
end ODD
section ANS15
variable {I I' J J' : Nat → Int32} {A A' B B' : Nat → Nat → Int32} {M M' : Nat → Nat → Int64} {z z1 z2 z3 z4 v w : Int32}
theorem ans_odd (h : RA I A J B M) (_ : IvX I A) (_ : IvM J B) (eX : FE (fX11_odd I A z1 z2) (v, I', A')) (eM : FE (fM12_odd J B M z1 z2) (w, J', B', M')) : v = w := by
  have eX2 : fX11_odd I A z1 z2 = (v, I', A') := eX
  have eM2 : fM12_odd J B M z1 z2 = (w, J', B', M') := eM
  obtain ⟨σ, N, nq, ql, qv, hx, hm⟩ := h.xm
  have hs := hx.2.2.2.2.n
  have t0 : (0 : Int32).toInt = 0 := rfl
  have t1 : (1 : Int32).toInt = 1 := rfl
  have t2 : (2 : Int32).toInt = 2 := rfl
  have t16 : (16 : Int32).toInt = 16 := rfl
  unfold fX11_odd at eX2
  unfold fM12_odd at eM2
  rw [x_str, if10] at eX2
  rw [m_in, if10, m_in, if10] at eM2
  by_cases cn : 2 ≤ z1.toInt ∧ z1.toInt ≤ 16
  · rw [if_pos cn] at eX2
    rw [if_pos (show (2 : Int32).toInt ≤ z1.toInt ∧ z1.toInt ≤ (16 : Int32).toInt by omega)] at eM2
    by_cases c1 : z2.toInt < 0
    · rw [if_pos c1] at eX2
      rw [if_neg (by omega)] at eM2
      cases eX2; cases eM2; rfl
    · rw [if_neg c1] at eX2
      by_cases c2 : z2.toInt ≤ 1
      · rw [if_pos c2] at eX2
        rw [if_pos (by omega)] at eM2
        obtain ⟨n, hn⟩ : ∃ n : Nat, z1.toInt = (n : Int) := ⟨z1.toInt.toNat, by omega⟩
        have hx0 := hx.mv (I' := upd (upd I 43 (-2)) 44 (-2)) (A' := A) rfl rfl rfl rfl rfl rfl rfl
        obtain ⟨I1, A1, a1, a2, a3, a4⟩ := x_bring hx0 hn (by omega)
        obtain ⟨I2, A2, b1, b2, b3⟩ := x_odd a4 hx.1.1 ⟨hs.2.2.2.2.1, by omega⟩ (by omega) (by omega) hn (by rw [a2 43 rfl]; rfl) (by rw [a2 44 rfl]; rfl)
        have mk := RA.mk hm ⟨hs.2.2.2.2.1, hs.2.2.2.2.2.1⟩ ⟨hs.2.2.2.2.2.2.1, hs.2.2.2.2.2.2.2.1⟩
        obtain ⟨u, J2, B2, d1, d2⟩ := m_odd (J := J) (L := M) (B := up2 B 18 (cpo (B 17) (B 18) 0 165)) (C := B) rfl mk (z2 := z2) (by omega) (by omega) hn
        have fn : fX9_findOdd I A z1 = (0, I2, A2) := by
          unfold fX9_findOdd
          rw [a1, bdX_mk, b1]
        rw [fn, bdX_mk] at eX2
        unfold fM12_copies at eM2
        rw [bdM_mk, d1] at eM2
        by_cases k0 : z2.toInt = 0
        · rw [if_neg (fun h9 => h9 k0)] at eX2
          rw [if_pos k0] at d2
          cases eX2; cases eM2
          first | exact Int32.toInt_inj.mp (b2.trans d2.symm) | exact Int32.toInt_inj.mp (b3.trans d2.symm)
        · rw [if_pos k0] at eX2
          rw [if_neg k0] at d2
          cases eX2; cases eM2
          first | exact Int32.toInt_inj.mp (b2.trans d2.symm) | exact Int32.toInt_inj.mp (b3.trans d2.symm)
      · rw [if_neg c2] at eX2
        rw [if_neg (by omega)] at eM2
        cases eX2; cases eM2; rfl
  · rw [if_neg cn] at eX2
    rw [if_neg (show ¬ ((2 : Int32).toInt ≤ z1.toInt ∧ z1.toInt ≤ (16 : Int32).toInt) by omega)] at eM2
    cases eX2; cases eM2; rfl
end ANS15
end
section
/-- the two that lie nearest -/
noncomputable def pS (r : Nat → Int32) (N n s o : Nat) (st : Int × Int × Int) : Int × Int × Int := @ite _ (wnR r N o n ∧ (st.2.2 < 0 ∨ dW r n s o < st.2.2)) (Classical.propDecidable _) ((s : Int), (o : Int), dW r n s o) st
theorem pS_t {r : Nat → Int32} {N n s o : Nat} {st : Int × Int × Int} (h : wnR r N o n) (h2 : st.2.2 < 0 ∨ dW r n s o < st.2.2) : pS r N n s o st = ((s : Int), (o : Int), dW r n s o) := if_pos ⟨h, h2⟩
theorem pS_f {r : Nat → Int32} {N n s o : Nat} {st : Int × Int × Int} (h : ¬ (wnR r N o n ∧ (st.2.2 < 0 ∨ dW r n s o < st.2.2))) : pS r N n s o st = st := if_neg h
noncomputable def pI (r : Nat → Int32) (N n s : Nat) (st : Int × Int × Int) : Nat → Int × Int × Int
  | 0 => st
  | k + 1 => pS r N n s (s + n + k) (pI r N n s st k)
noncomputable def pO (r : Nat → Int32) (N n : Nat) : Nat → Int × Int × Int
  | 0 => (-2, -2, -2)
  | k + 1 => @ite _ (wnR r N k n) (Classical.propDecidable _) (pI r N n k (pO r N n k) (160 - (k + n))) (pO r N n k)
theorem pO_t {r : Nat → Int32} {N n k : Nat} (h : wnR r N k n) : pO r N n (k + 1) = pI r N n k (pO r N n k) (160 - (k + n)) := if_pos h
theorem pO_f {r : Nat → Int32} {N n k : Nat} (h : ¬ wnR r N k n) : pO r N n (k + 1) = pO r N n k := if_neg h
def pok (st : Int × Int × Int) : Prop := (st.1 = -2 ∧ st.2.1 = -2 ∧ st.2.2 = -2) ∨ (0 ≤ st.1 ∧ 0 ≤ st.2.1 ∧ 0 ≤ st.2.2 ∧ st.2.2 ≤ 500000000)
section PAIR0
variable {r : Nat → Int32} {N n : Nat}
theorem pS_ok (hr : rok r N) (hb : 0 ≤ (r 161).toInt) (hn : n ≤ 16) {s o : Nat} {st : Int × Int × Int} (ws : wnR r N s n) (h : pok st) : pok (pS r N n s o st) := by
  by_cases c : wnR r N o n ∧ (st.2.2 < 0 ∨ dW r n s o < st.2.2)
  · rw [pS_t c.1 c.2]
    have db := dW_b hr hb hn ws c.1
    exact Or.inr ⟨by show 0 ≤ (s : Int); omega, by show 0 ≤ (o : Int); omega, db.1, db.2⟩
  · rw [pS_f c]; exact h
theorem pI_ok (hr : rok r N) (hb : 0 ≤ (r 161).toInt) (hn : n ≤ 16) {s : Nat} {st : Int × Int × Int} (ws : wnR r N s n) (h : pok st) : ∀ k, pok (pI r N n s st k) := by
  intro k
  induction k with
  | zero => exact h
  | succ k ih => exact pS_ok hr hb hn ws ih
theorem pO_ok (hr : rok r N) (hb : 0 ≤ (r 161).toInt) (hn : n ≤ 16) : ∀ k, pok (pO r N n k) := by
  intro k
  induction k with
  | zero => exact Or.inl ⟨rfl, rfl, rfl⟩
  | succ k ih =>
    by_cases w : wnR r N k n
    · rw [pO_t w]; exact pI_ok hr hb hn w ih _
    · rw [pO_f w]; exact ih
theorem pI_tail {s : Nat} {st : Int × Int × Int} {k : Nat} (hk : N ≤ s + n + k) (hn : 1 ≤ n) : ∀ m, pI r N n s st (k + m) = pI r N n s st k := by
  intro m
  induction m with
  | zero => rfl
  | succ m ih =>
    show pS r N n s (s + n + (k + m)) (pI r N n s st (k + m)) = _
    rw [pS_f (fun h9 => by have := h9.1.2.1; omega)]; exact ih
theorem pO_tail {k : Nat} (hk : N ≤ k) (hn : 1 ≤ n) : ∀ m, pO r N n (k + m) = pO r N n k := by
  intro m
  induction m with
  | zero => rfl
  | succ m ih =>
    rw [show k + (m + 1) = k + m + 1 by omega, pO_f (fun h9 => by have := h9.2.1; omega)]; exact ih
end PAIR0
def S3 (I : Nat → Int32) (st : Int × Int × Int) : Prop := (I 40).toInt = st.1 ∧ (I 41).toInt = st.2.1 ∧ (I 42).toInt = st.2.2
section PAIR
variable {I J : Nat → Int32} {A B : Nat → Nat → Int32} {L : Nat → Nat → Int64} {r : Nat → Int32} {N n : Nat}
theorem x_seek (hw : WTk I A r N n 160) (hr : rok r N) (hb : 0 ≤ (r 161).toInt ∧ (r 161).toInt ≤ 1000) (hn2 : 2 ≤ n) (hn : n ≤ 16) {s : Nat} (ws : wnR r N s n) {z1 z2 : Int32} (h1 : z1.toInt = (s : Int)) (h2 : z2.toInt = (n : Int)) (hl : ∀ i : Nat, i < n → (A 21 i).toInt = lvl r n (gW r s) i) {st : Int × Int × Int} (hok : pok st) (h3 : S3 I st) : ∃ (I' : Nat → Int32) (A' : Nat → Nat → Int32), fX9_seekPairOf I A z1 z2 = (0, I', A') ∧ Md [33, 34, 40, 41, 42] I I' ∧ Md [22, 23] A A' ∧ S3 I' (pI r N n s st (160 - (s + n))) := by
  have hN := hr.2.1
  have hsN := ws.2.1
  obtain ⟨i30, i31, i32⟩ : (I 30).toInt = (n : Int) ∧ (I 31).toInt = (r 161).toInt ∧ (I 32).toInt = (r 163).toInt := by
    rcases hw s (by omega) with ⟨-, b⟩ | ⟨-, -, ⟨a, b, c⟩, -⟩
    · exact absurd ws b
    · exact ⟨a, b, c⟩
  unfold fX9_seekPairOf
  rw [f_lt_eq]
  refine run_iIA (Q := fun u => ∃ (I' : Nat → Int32) (A' : Nat → Nat → Int32), u = (0, I', A') ∧ Md [33, 34, 40, 41, 42] I I' ∧ Md [22, 23] A A' ∧ S3 I' (pI r N n s st (160 - (s + n)))) (160 - (s + n)) (fun k x I2 A2 => x.toInt = ((s + n + k : Nat) : Int) ∧ Md [33, 34, 40, 41, 42] I I2 ∧ Md [22, 23] A A2 ∧ S3 I2 (pI r N n s st k)) (fun G k x I2 A2 hk hP => ?_) FU 0 (z1 + z2) I A ⟨by have q9 := i_ad h1 h2 (by omega) (by omega); exact q9, Md.rf, Md.rf, h3⟩ (by omega) (fu_lt (by omega))
  obtain ⟨hxk, mI, mA, s3⟩ := hP
  obtain ⟨T, hT⟩ : ∃ T, T = pI r N n s st k := ⟨_, rfl⟩
  have ok : pok T := by rw [hT]; exact pI_ok hr hb.1 hn ws hok k
  have st1 : pI r N n s st (k + 1) = pS r N n s (s + n + k) T := by rw [hT]; rfl
  rw [← hT] at s3
  rw [st1]
  unfold bX9_seekPairOf_4
  dsimp only [f_lt]
  by_cases c : 160 ≤ x.toInt
  · rw [if_pos c]; right
    have ek : 160 - (s + n) = k := by omega
    rw [ek, ← hT]
    exact ⟨I2, A2, rfl, mI, mA, s3⟩
  · rw [if_neg c, clN hxk]
    left
    refine ⟨by omega, ?_⟩
    rcases hw (s + n + k) (by omega) with ⟨f1, nw⟩ | ⟨f1, w, -, lk⟩
    · rw [if_neg (fun h9 => h9 f1), pS_f (fun h9 => nw h9.1)]
      exact ⟨_, _, _, rfl, i_s (k := s + n + k) hxk (by omega), mI, mA, s3⟩
    · rw [if_pos (show (A 31 (s + n + k)).toInt ≠ 0 by omega)]
      obtain ⟨A3, b1, b2, b3⟩ := x_takeR (I := I2) (A := A2) (z := x * 16) (i_16k hxk (by omega)) (by omega) (by rw [mI 30 rfl]; exact i30) hn
      rw [b1, bdX_mk]
      have tb : TB I2 A3 n (r 161).toInt (r 163).toInt (lvl r n (gW r s)) (lvl r n (gW r (s + n + k))) := ⟨⟨by omega, hn⟩, ⟨by rw [mI 30 rfl]; exact i30, by rw [mI 31 rfl]; exact i31, by rw [mI 32 rfl]; exact i32⟩, hb, ⟨fun i hi => by rw [b2 21 rfl, mA 21 rfl]; exact hl i hi, fun i hi => by rw [b3 i hi, mA 30 rfl]; exact lk i hi⟩, lvl_b (gW_raw hr ws), lvl_b (gW_raw hr w)⟩
      have db := dW_b hr hb.1 hn ws w
      have dd : dT (r 161).toInt (cC (r 163).toInt (lvl r n (gW r s)) (lvl r n (gW r (s + n + k)))) n = dW r n s (s + n + k) := rfl
      have fin : ∀ (lim : Int32), (T.2.2 < 0 ∧ lim.toInt = 2147483647) ∨ (0 ≤ T.2.2 ∧ lim.toInt = T.2.2) → ∃ (x' : Int32) (I' : Nat → Int32) (A' : Nat → Nat → Int32), (f_bdX (fX2_isLess I2 A3 lim) fun y I4 A4 => if y.toInt = 0 then G (x + Int32.ofInt 1) I4 A4 else G (x + Int32.ofInt 1) (upd (upd (upd I4 40 z1) 41 x) 42 (fX2_laidDistance (upd (upd I4 40 z1) 41 x) A4)) A4) = G x' I' A' ∧ x'.toInt = ((s + n + (k + 1) : Nat) : Int) ∧ Md [33, 34, 40, 41, 42] I I' ∧ Md [22, 23] A A' ∧ S3 I' (pS r N n s (s + n + k) T) := fun lim hlim => by
        obtain ⟨u, I4, A4, d1, d2, d3, d4⟩ := x_isLess tb hn2 (z := lim) rfl
        rw [d1, bdX_mk]
        rw [dd] at d4
        have mI4 : Md [33, 34, 40, 41, 42] I I4 := Md.tr mI d2 rfl
        have mA4 : Md [22, 23] A A4 := Md.tr (Md.tr mA b2 rfl) d3 rfl
        rcases d4 with ⟨u1, u2, u3⟩ | ⟨u1, u2⟩
        · rw [if_neg (by omega), pS_t w (by omega)]
          exact ⟨_, _, _, rfl, i_s (k := s + n + k) hxk (by omega), Md.up (Md.up (Md.up mI4 rfl) rfl) rfl, mA4, h1, hxk, u3⟩
        · rw [if_pos u1, pS_f (fun h9 => by rcases h9.2 with h8 | h8 <;> omega)]
          exact ⟨_, _, _, rfl, i_s (k := s + n + k) hxk (by omega), mI4, mA4, by rw [d2 40 rfl]; exact s3.1, by rw [d2 41 rfl]; exact s3.2.1, by rw [d2 42 rfl]; exact s3.2.2⟩
      have s42 := s3.2.2
      by_cases c4 : 0 ≤ (I2 42).toInt
      · rw [if_pos c4]
        exact fin (I2 42) (Or.inr ⟨by omega, s42⟩)
      · rw [if_neg c4]
        exact fin 2147483647 (Or.inl ⟨by omega, rfl⟩)
theorem x_pair (hw : WTk I A r N n 160) (hr : rok r N) (hb : 0 ≤ (r 161).toInt ∧ (r 161).toInt ≤ 1000) (hn2 : 2 ≤ n) (hn : n ≤ 16) {z : Int32} (hz : z.toInt = (n : Int)) (h3 : S3 I (-2, -2, -2)) : ∃ (I' : Nat → Int32) (A' : Nat → Nat → Int32), itr_iIA dfX (bX9_findPair_25 A z) FU 0 I A = (0, I', A') ∧ S3 I' (pO r N n 160) := by
  have hN := hr.2.1
  refine run_iIA (Q := fun u => ∃ (I' : Nat → Int32) (A' : Nat → Nat → Int32), u = (0, I', A') ∧ S3 I' (pO r N n 160)) 160 (fun k x I2 A2 => x.toInt = (k : Int) ∧ Md [33, 34, 40, 41, 42] I I2 ∧ Md [21, 22, 23] A A2 ∧ S3 I2 (pO r N n k)) (fun G k x I2 A2 hk hP => ?_) FU 0 0 I A ⟨rfl, Md.rf, Md.rf, h3⟩ (by omega) (fu_lt (by omega))
  obtain ⟨hxk, mI, mA, s3⟩ := hP
  unfold bX9_findPair_25
  dsimp only [f_lt]
  by_cases c : 160 ≤ x.toInt
  · rw [if_pos c]; right
    have ek : k = 160 := by omega
    subst ek
    exact ⟨I2, A2, rfl, s3⟩
  · rw [if_neg c, clN hxk]
    left
    refine ⟨by omega, ?_⟩
    rcases hw k (by omega) with ⟨f1, nw⟩ | ⟨f1, w, ⟨i30, i31, i32⟩, lk⟩
    · rw [if_pos f1, pO_f nw]
      exact ⟨_, _, _, rfl, i_s hxk (by omega), mI, mA, s3⟩
    · rw [if_neg (by omega), pO_t w]
      obtain ⟨A3, b1, b2, b3⟩ := x_takeL (I := I2) (A := A2) (z := x * 16) (i_16k hxk (by omega)) (by omega) (by rw [mI 30 rfl]; exact i30) hn
      rw [b1, bdX_mk]
      have hw3 := hw.mv (I' := I2) (A' := A3) (mI 30 rfl) (mI 31 rfl) (mI 32 rfl) (by rw [b2 30 rfl, mA 30 rfl]) (by rw [b2 31 rfl, mA 31 rfl])
      obtain ⟨I4, A4, d1, d2, d3, d4⟩ := x_seek hw3 hr hb hn2 hn w hxk hz (fun i hi => by rw [b3 i hi, mA 30 rfl]; exact lk i hi) (pO_ok hr hb.1 hn k) s3
      rw [d1, bdX_mk]
      exact ⟨_, _, _, rfl, i_s hxk (by omega), Md.tr mI d2 rfl, Md.tr (Md.tr mA b2 rfl) d3 rfl, d4⟩
theorem m_pair {C : Nat → Nat → Int32} (hC : C 17 = B 17) (h : MK B r N) (hn2 : 2 ≤ n) (hn : n ≤ 16) {z1 z2 : Int32} (h1 : z1.toInt = (n : Int)) : ∃ (v : Int32) (J' : Nat → Int32) (B' : Nat → Nat → Int32), itr_iiiiIAL dfM (bM12_pair_39 C z2 z1) FU 0 (-2) (-2) (-2) J B L = (v, J', B', L) ∧ v.toInt = if z2.toInt = 0 then (pO r N n 160).1 else if z2.toInt = 1 then (pO r N n 160).2.1 else (pO r N n 160).2.2 := by
  have hN := h.1.2.1
  have h17 : (C 17 0).toInt = (N : Int) := by rw [hC, h.2.1]; exact h.1.1
  have e160 : pO r N n 160 = pO r N n N := by
    have := pO_tail (r := r) (N := N) (n := n) (k := N) (Nat.le_refl _) (by omega) (160 - N)
    rwa [show N + (160 - N) = 160 by omega] at this
  rw [e160]
  refine run_iiiiIAL (Q := fun u => ∃ (v : Int32) (J' : Nat → Int32) (B' : Nat → Nat → Int32), u = (v, J', B', L) ∧ v.toInt = if z2.toInt = 0 then (pO r N n N).1 else if z2.toInt = 1 then (pO r N n N).2.1 else (pO r N n N).2.2) N (fun k x d p2 p1 J2 B2 L2 => x.toInt = (k : Int) ∧ d.toInt = (pO r N n k).2.2 ∧ p2.toInt = (pO r N n k).2.1 ∧ p1.toInt = (pO r N n k).1 ∧ Md [18, 19, 20] J J2 ∧ Md [19, 20, 21] B B2 ∧ L2 = L) (fun G k x d p2 p1 J2 B2 L2 hk hP => ?_) FU 0 0 (-2) (-2) (-2) J B L ⟨rfl, rfl, rfl, rfl, Md.rf, Md.rf, rfl⟩ (by omega) (fu_lt (by omega))
  obtain ⟨hxk, hd, hp2, hp1, mJ, mB, eL⟩ := hP
  subst eL
  unfold bM12_pair_39
  simp only [f_lt_eq]
  by_cases c : (C 17 0).toInt ≤ x.toInt
  · rw [if_pos c]; right
    have ek : k = N := by omega
    subst ek
    by_cases k0 : z2.toInt = 0
    · rw [if_neg (fun h9 => h9 k0)]; exact ⟨p1, J2, B2, rfl, by rw [if_pos k0]; exact hp1⟩
    · rw [if_pos k0]
      by_cases k1 : z2.toInt = 1
      · rw [if_neg (fun h9 => h9 k1)]; exact ⟨p2, J2, B2, rfl, by rw [if_neg k0, if_pos k1]; exact hp2⟩
      · rw [if_pos k1]; exact ⟨d, J2, B2, rfl, by rw [if_neg k0, if_neg k1]; exact hd⟩
  · rw [if_neg c]
    left
    refine ⟨by omega, ?_⟩
    have h' := h.mv (B' := B2) (mB 17 rfl) (mB 18 rfl)
    rcases h'.win (J := J2) (L := L2) hxk h1 with ⟨ew, w⟩ | ⟨ew, w⟩
    · rw [ew, if_pos rfl, pO_f w]
      exact ⟨_, _, _, _, _, _, _, rfl, i_s hxk (by omega), hd, hp2, hp1, mJ, mB, rfl⟩
    · rw [ew, if_neg (by decide), pO_t w]
      have hkn := w.2.1
      obtain ⟨st, hst⟩ : ∃ st, st = pO r N n k := ⟨_, rfl⟩
      rw [← hst] at hd hp2 hp1 ⊢
      have hok : pok st := by rw [hst]; exact pO_ok h.1 h.2.2.2.2.1 hn k
      have e2 : pI r N n k st (160 - (k + n)) = pI r N n k st (N - (k + n)) := by
        have := pI_tail (r := r) (N := N) (n := n) (s := k) (st := st) (k := N - (k + n)) (by omega) (by omega) (160 - N)
        rwa [show N - (k + n) + (160 - N) = 160 - (k + n) by omega] at this
      rw [e2]
      refine run_iiiiIAL (Q := fun u => ∃ (x' d' p2' p1' : Int32) (J' : Nat → Int32) (B' : Nat → Nat → Int32) (L' : Nat → Nat → Int64), u = G x' d' p2' p1' J' B' L' ∧ x'.toInt = ((k + 1 : Nat) : Int) ∧ d'.toInt = (pI r N n k st (N - (k + n))).2.2 ∧ p2'.toInt = (pI r N n k st (N - (k + n))).2.1 ∧ p1'.toInt = (pI r N n k st (N - (k + n))).1 ∧ Md [18, 19, 20] J J' ∧ Md [19, 20, 21] B B' ∧ L' = L2) (N - (k + n)) (fun j y d p2 p1 J3 B3 L3 => y.toInt = ((k + n + j : Nat) : Int) ∧ d.toInt = (pI r N n k st j).2.2 ∧ p2.toInt = (pI r N n k st j).2.1 ∧ p1.toInt = (pI r N n k st j).1 ∧ Md [18, 19, 20] J J3 ∧ Md [19, 20, 21] B B3 ∧ L3 = L2) (fun G2 j y d p2 p1 J3 B3 L3 hj hP2 => ?_) FU 0 (x + z1) d p2 p1 J2 B2 L2 ⟨by have q9 := i_ad hxk h1 (by omega) (by omega); exact q9, hd, hp2, hp1, mJ, mB, rfl⟩ (by omega) (fu_lt (by omega))
      obtain ⟨hy, gd, g2, g1, nJ, nB, eL3⟩ := hP2
      subst eL3
      obtain ⟨T, hT⟩ : ∃ T, T = pI r N n k st j := ⟨_, rfl⟩
      have ok : pok T := by rw [hT]; exact pI_ok h.1 h.2.2.2.2.1 hn w hok j
      have st1 : pI r N n k st (j + 1) = pS r N n k (k + n + j) T := by rw [hT]; rfl
      rw [← hT] at gd g2 g1
      rw [st1]
      unfold bM12_pair_69
      dsimp only [f_lt]
      by_cases c2 : (C 17 0).toInt ≤ y.toInt
      · rw [if_pos c2]; right
        have ej : N - (k + n) = j := by omega
        rw [ej, ← hT]
        exact ⟨_, _, _, _, _, _, _, rfl, i_s hxk (by omega), gd, g2, g1, nJ, nB, rfl⟩
      · rw [if_neg c2]
        left
        refine ⟨by omega, ?_⟩
        have h3 := h.mv (B' := B3) (nB 17 rfl) (nB 18 rfl)
        rcases h3.win (J := J3) (L := L3) hy h1 with ⟨ew2, w2⟩ | ⟨ew2, w2⟩
        · rw [ew2, if_pos rfl, pS_f (fun h9 => w2 h9.1)]
          exact ⟨_, _, _, _, _, _, _, rfl, i_s (k := k + n + j) hy (by omega), gd, g2, g1, nJ, nB, rfl⟩
        · rw [ew2, if_neg (by decide)]
          obtain ⟨J4, B4, v, J5, B5, a1, a2, a3, a4, a5⟩ := m_dW (J := J3) (L := L3) h3 hxk hy h1 hn w w2
          rw [a1, bdM_mk, a2, bdM_mk]
          have db := dW_b h.1 h.2.2.2.2.1 hn w w2
          have nJ5 : Md [18, 19, 20] J J5 := Md.tr nJ a4 rfl
          have nB5 : Md [19, 20, 21] B B5 := Md.tr nB a5 rfl
          have neg : p1.toInt < 0 ↔ T.2.2 < 0 := by
            rcases ok with ⟨o1, -, o3⟩ | ⟨o1, -, o3, -⟩
            · constructor <;> intro <;> omega
            · constructor <;> intro <;> omega
          by_cases c3 : p1.toInt < 0
          · rw [if_pos c3, pS_t w2 (Or.inl (neg.mp c3))]
            exact ⟨_, _, _, _, _, _, _, rfl, i_s (k := k + n + j) hy (by omega), a3, hy, hxk, nJ5, nB5, rfl⟩
          · rw [if_neg c3]
            by_cases c4 : v.toInt < d.toInt
            · rw [if_pos c4, pS_t w2 (Or.inr (by omega))]
              exact ⟨_, _, _, _, _, _, _, rfl, i_s (k := k + n + j) hy (by omega), a3, hy, hxk, nJ5, nB5, rfl⟩
            · rw [if_neg c4, pS_f (fun h9 => by
                rcases h9.2 with h8 | h8
                · exact c3 (neg.mpr h8)
                · omega)]
              exact ⟨_, _, _, _, _, _, _, rfl, i_s (k := k + n + j) hy (by omega), gd, g2, g1, nJ5, nB5, rfl⟩
end PAIR
section ANS16
variable {I I' J J' : Nat → Int32} {A A' B B' : Nat → Nat → Int32} {M M' : Nat → Nat → Int64} {z z1 z2 z3 z4 v w : Int32}
theorem ans_pair (h : RA I A J B M) (_ : IvX I A) (_ : IvM J B) (eX : FE (fX11_pair I A z1 z2) (v, I', A')) (eM : FE (fM12_pair J B M z1 z2) (w, J', B', M')) : v = w := by
  have eX2 : fX11_pair I A z1 z2 = (v, I', A') := eX
  have eM2 : fM12_pair J B M z1 z2 = (w, J', B', M') := eM
  obtain ⟨σ, N, nq, ql, qv, hx, hm⟩ := h.xm
  have hs := hx.2.2.2.2.n
  have t0 : (0 : Int32).toInt = 0 := rfl
  have t2 : (2 : Int32).toInt = 2 := rfl
  have t16 : (16 : Int32).toInt = 16 := rfl
  unfold fX11_pair at eX2
  unfold fM12_pair at eM2
  rw [x_str, if10] at eX2
  rw [m_in, if10, m_in, if10] at eM2
  by_cases cn : 2 ≤ z1.toInt ∧ z1.toInt ≤ 16
  · rw [if_pos cn] at eX2
    rw [if_pos (show (2 : Int32).toInt ≤ z1.toInt ∧ z1.toInt ≤ (16 : Int32).toInt by omega)] at eM2
    by_cases c1 : z2.toInt < 0
    · rw [if_pos c1] at eX2
      rw [if_neg (by omega)] at eM2
      cases eX2; cases eM2; rfl
    · rw [if_neg c1] at eX2
      by_cases c2 : z2.toInt ≤ 2
      · rw [if_pos c2] at eX2
        rw [if_pos (by omega)] at eM2
        obtain ⟨n, hn⟩ : ∃ n : Nat, z1.toInt = (n : Int) := ⟨z1.toInt.toNat, by omega⟩
        have hx0 := hx.mv (I' := upd (upd (upd I 40 (-2)) 41 (-2)) 42 (-2)) (A' := A) rfl rfl rfl rfl rfl rfl rfl
        obtain ⟨I1, A1, a1, a2, a3, a4⟩ := x_bring hx0 hn (by omega)
        obtain ⟨I2, A2, b1, b2, b3, b4⟩ := x_pair a4 hx.1.1 ⟨hs.2.2.2.2.1, by omega⟩ (by omega) (by omega) hn ⟨by rw [a2 40 rfl]; rfl, by rw [a2 41 rfl]; rfl, by rw [a2 42 rfl]; rfl⟩
        have mk := RA.mk hm ⟨hs.2.2.2.2.1, hs.2.2.2.2.2.1⟩ ⟨hs.2.2.2.2.2.2.1, hs.2.2.2.2.2.2.2.1⟩
        obtain ⟨u, J2, B2, d1, d2⟩ := m_pair (J := J) (L := M) (B := up2 B 18 (cpo (B 17) (B 18) 0 165)) (C := B) rfl mk (z2 := z2) (by omega) (by omega) hn
        have fn : fX9_findPair I A z1 = (0, I2, A2) := by
          unfold fX9_findPair
          rw [a1, bdX_mk, b1]
        rw [fn, bdX_mk] at eX2
        unfold fM12_copies at eM2
        rw [bdM_mk, d1] at eM2
        by_cases k2 : z2.toInt = 2
        · rw [if_neg (fun h9 => h9 k2)] at eX2
          rw [if_neg (by omega), if_neg (by omega)] at d2
          cases eX2; cases eM2
          first | exact Int32.toInt_inj.mp (b2.trans d2.symm) | exact Int32.toInt_inj.mp (b3.trans d2.symm) | exact Int32.toInt_inj.mp (b4.trans d2.symm)
        · rw [if_pos k2] at eX2
          by_cases k0 : z2.toInt = 0
          · rw [if_neg (fun h9 => h9 k0)] at eX2
            rw [if_pos k0] at d2
            cases eX2; cases eM2
            first | exact Int32.toInt_inj.mp (b2.trans d2.symm) | exact Int32.toInt_inj.mp (b3.trans d2.symm) | exact Int32.toInt_inj.mp (b4.trans d2.symm)
          · rw [if_pos k0] at eX2
            rw [if_neg k0, if_pos (by omega)] at d2
            cases eX2; cases eM2
            first | exact Int32.toInt_inj.mp (b2.trans d2.symm) | exact Int32.toInt_inj.mp (b3.trans d2.symm) | exact Int32.toInt_inj.mp (b4.trans d2.symm)
      · rw [if_neg c2] at eX2
        rw [if_neg (by omega)] at eM2
        cases eX2; cases eM2; rfl
  · rw [if_neg cn] at eX2
    rw [if_neg (show ¬ ((2 : Int32).toInt ≤ z1.toInt ∧ z1.toInt ≤ (16 : Int32).toInt) by omega)] at eM2
    cases eX2; cases eM2; rfl
end ANS16
end
