/-- names told ahead -/
def dupN (f : Nat → Int64) (w : Int64) : Nat → Bool
  | 0 => false
  | k + 1 => dupN f w k || decide (f k = w)
def nmI (I : Nat → Int32) (b : Bool) : Nat → Int32 := if b = true then markI I 3 else I
theorem nmI_md {I : Nat → Int32} {b : Bool} : Md [11, 12, 13] I (nmI I b) := by
  unfold nmI
  by_cases h : b = true
  · rw [if_pos h]; exact markI_md
  · rw [if_neg h]; exact Md.rf
theorem mark2 {I : Nat → Int32} : markI (markI I 3) 3 = markI I 3 := by
  have h : (markI I 3 11).toInt ≠ 0 := by
    unfold markI
    by_cases c : (I 11).toInt ≠ 0
    · rw [if_pos c]; exact c
    · rw [if_neg c]; exact (by decide : (3 : Int32).toInt ≠ 0)
  rw [show markI (markI I 3) 3 = if (markI I 3 11).toInt ≠ 0 then markI I 3 else _ from rfl, if_pos h]
theorem nm_mark {I : Nat → Int32} {b : Bool} : markI (nmI I b) 3 = nmI I true := by
  unfold nmI
  rw [if_pos rfl]
  by_cases h : b = true
  · rw [if_pos h]; exact mark2
  · rw [if_neg h]
theorem nmI_11 {I : Nat → Int32} {b : Bool} (h : (nmI I b 11).toInt = 0) : (I 11).toInt = 0 := by
  unfold nmI at h
  by_cases c : b = true
  · rw [if_pos c] at h
    unfold markI at h
    by_cases c2 : (I 11).toInt ≠ 0
    · rw [if_pos c2] at h; exact h
    · rw [if_neg c2] at h
      exact absurd (show (3 : Int32).toInt = 0 from h) (by decide)
  · rw [if_neg c] at h; exact h
theorem x_sameL {I : Nat → Int32} {A : Nat → Nat → Int32} {n s r l : Nat} {z1 z2 : Int32} (hn : (I 0).toInt = (n : Int)) (hn2 : n ≤ 2000) (hs : (I 2).toInt = (s : Int)) (h1 : z1.toInt = (r : Int)) (h2 : z2.toInt = (l : Int)) (hs2 : s + l ≤ n) (hr : r + l ≤ n) : ∀ (m : Nat) (x : Int32) (k : Nat), x.toInt = (k : Int) → k ≤ l → l - k < m → (itr_i (0 : Int32) (bX10_isSameAsAt_12 z2 I A z1) m x = 1 ∧ ∀ j, k ≤ j → j < l → bt A (s + j) = bt A (r + j)) ∨ (itr_i (0 : Int32) (bX10_isSameAsAt_12 z2 I A z1) m x = 0 ∧ ∃ j, k ≤ j ∧ j < l ∧ bt A (s + j) ≠ bt A (r + j)) := by
  intro m
  induction m with
  | zero => intro x k _ _ h; omega
  | succ m ih =>
    intro x k hx hk hm
    show (bX10_isSameAsAt_12 z2 I A z1 (itr_i (0 : Int32) (bX10_isSameAsAt_12 z2 I A z1) m) x = 1 ∧ _) ∨ (bX10_isSameAsAt_12 z2 I A z1 (itr_i (0 : Int32) (bX10_isSameAsAt_12 z2 I A z1) m) x = 0 ∧ _)
    obtain ⟨G, hG⟩ : ∃ G, G = itr_i (0 : Int32) (bX10_isSameAsAt_12 z2 I A z1) m := ⟨_, rfl⟩
    rw [← hG] at ih ⊢
    unfold bX10_isSameAsAt_12
    dsimp only [f_lt]
    by_cases h : z2.toInt ≤ x.toInt
    · rw [if_pos h]
      exact Or.inl ⟨rfl, fun j a b => by omega⟩
    · rw [if_neg h]
      have hz : (I 2 + x).toInt = ((s + k : Nat) : Int) := by rw [i32_add rfl hs hx (by omega) (by omega)]; omega
      have hz1 : (z1 + x).toInt = ((r + k : Nat) : Int) := by rw [i32_add rfl h1 hx (by omega) (by omega)]; omega
      rw [x_byte (I := I) (A := A) (z := I 2 + x) (by omega) (by omega), clN hz, x_byte (I := I) (A := A) (z := z1 + x) (by omega) (by omega), clN hz1]
      by_cases c : (A 0 (s + k)).toInt = (A 0 (r + k)).toInt
      · rw [if_pos c]
        rcases ih (x + 1) (k + 1) (by rw [i32_inc (by omega)]; omega) (by omega) (by omega) with h3 | ⟨h3, j, h4, h5, h6⟩
        · refine Or.inl ⟨h3.1, fun j a b => ?_⟩
          by_cases e : j = k
          · rw [e]; exact c
          · exact h3.2 j (by omega) b
        · exact Or.inr ⟨h3, j, by omega, h5, h6⟩
      · rw [if_neg c]
        exact Or.inr ⟨rfl, k, Nat.le_refl _, by omega, c⟩
theorem x_same {I : Nat → Int32} {A : Nat → Nat → Int32} {n s k r l : Nat} {z1 z2 : Int32} (hn : (I 0).toInt = (n : Int)) (hn2 : n ≤ 2000) (hs : (I 2).toInt = (s : Int)) (hk : (I 5 - I 2).toInt = (k : Int)) (h1 : z1.toInt = (r : Int)) (h2 : z2.toInt = (l : Int)) (hs2 : s + k ≤ n) (hr : r + l ≤ n) (hL : ∀ j, s ≤ j → j < s + k → isL (bt A j)) (hL2 : ∀ j, r ≤ j → j < r + l → isL (bt A j)) : fX10_isSameAsAt I A z1 z2 = if enc (bt A) r l = enc (bt A) s k then 1 else 0 := by
  unfold fX10_isSameAsAt
  show (if z2.toInt = (I 5 - I 2).toInt then itr_i (0 : Int32) (bX10_isSameAsAt_12 z2 I A z1) FU 0 else 0) = _
  by_cases c : z2.toInt = (I 5 - I 2).toInt
  · rw [if_pos c]
    have e : l = k := by omega
    subst e
    rcases x_sameL (A := A) hn hn2 hs h1 h2 hs2 hr FU 0 0 rfl (by omega) (by have := FU_eq; omega) with ⟨a1, a2⟩ | ⟨a1, j, a2, a3, a4⟩
    · rw [a1, if_pos (enc_eq _ (fun j hj => (a2 j (by omega) hj).symm))]
    · rw [a1, if_neg (fun h9 => a4 ((enc_inj _ _ hL2 hL h9).2 j a3).symm)]
  · rw [if_neg c, if_neg (fun h9 => c (by have := (enc_inj _ _ hL2 hL h9).1; omega))]
theorem x_names {I : Nat → Int32} {A A0 : Nat → Nat → Int32} {f7 : Nat → Int64} {w : Int64} {n nq s k : Nat} (hA : A 0 = A0 0) (hn : (I 0).toInt = (n : Int)) (hn2 : n ≤ 2000) (hs : (I 2).toInt = (s : Int)) (hk : (I 5 - I 2).toInt = (k : Int)) (hsk : s + k ≤ n) (hL : ∀ j, s ≤ j → j < s + k → isL (bt A0 j)) (hw : w.toInt = enc (bt A0) s k) (h16 : (I 16).toInt = (nq : Int)) (hnq : nq ≤ 4) (hN : ∀ q, q < nq → NAM n q A0 A (f7 q)) : ∀ (m : Nat) (x : Int32) (o : Nat), x.toInt = (o : Int) → o ≤ nq → nq - o < m → itr_iIA dfX (bX5_acceptName_10 I A) m x (nmI I (dupN f7 w o)) A = (0, upd (upd (nmI I (dupN f7 w nq)) 16 (I 16 + 1)) 6 3, up3 (up3 (up3 A 5 nq (I 2)) 6 nq (I 5 - I 2)) 4 nq 0) := by
  intro m
  induction m with
  | zero => intro x o _ _ h; omega
  | succ m ih =>
    intro x o hx ho hm
    show bX5_acceptName_10 I A (itr_iIA dfX (bX5_acceptName_10 I A) m) x (nmI I (dupN f7 w o)) A = _
    obtain ⟨G, hG⟩ : ∃ G, G = itr_iIA dfX (bX5_acceptName_10 I A) m := ⟨_, rfl⟩
    rw [← hG] at ih ⊢
    have M0 : Md [11, 12, 13] I (nmI I (dupN f7 w o)) := nmI_md
    unfold bX5_acceptName_10
    dsimp only [f_lt]
    by_cases h : (I 16).toInt ≤ x.toInt
    · have e : o = nq := by omega
      subst e
      rw [if_pos h, if_neg (by omega), if_neg (by omega), clN h16]
      have e1 : fX10_lengthAtHand (nmI I (dupN f7 w o)) (up3 A 5 o (I 2)) = I 5 - I 2 := by
        show nmI I (dupN f7 w o) 5 - nmI I (dupN f7 w o) 2 = _
        rw [M0 5 rfl, M0 2 rfl]
      rw [e1]
      have e2 : fX4_open (nmI I (dupN f7 w o)) (up3 (up3 A 5 o (I 2)) 6 o (I 5 - I 2)) = (0, upd (nmI I (dupN f7 w o)) 16 (I 16 + 1), up3 (up3 (up3 A 5 o (I 2)) 6 o (I 5 - I 2)) 4 o 0) := by
        unfold fX4_open
        rw [M0 16 rfl, if_neg (by omega), if_neg (by omega), clN h16]; rfl
      rw [e2]; rfl
    · rw [if_neg h, if_neg (by omega), clN hx]
      obtain ⟨r, l, n1, n2, n3, n4, n5, n6⟩ := hN o (by omega)
      have es : fX10_isSameAsAt (nmI I (dupN f7 w o)) A (A 5 o) (A 6 o) = if f7 o = w then 1 else 0 := by
        rw [x_same (I := nmI I (dupN f7 w o)) (A := A) (n := n) (s := s) (k := k) (by rw [M0 0 rfl]; exact hn) hn2 (by rw [M0 2 rfl]; exact hs) (by rw [M0 5 rfl, M0 2 rfl]; exact hk) n1 n2 hsk n4 (by rw [bt_eq hA]; exact hL) (by rw [bt_eq hA]; exact n5), bt_eq hA, ← n6, ← hw]
        by_cases c : f7 o = w
        · rw [if_pos c, if_pos (by rw [c])]
        · rw [if_neg c, if_neg (fun h9 => c (Int64.toInt_inj.mp h9))]
      rw [es]
      have hx1 : (x + 1).toInt = ((o + 1 : Nat) : Int) := by rw [i32_inc (by omega)]; omega
      by_cases c : f7 o = w
      · rw [if_pos c, if_neg (by decide), x_mark, nm_mark]
        have e9 : dupN f7 w (o + 1) = true := by show (dupN f7 w o || decide (f7 o = w)) = true; rw [decide_eq_true c, Bool.or_true]
        have := ih (x + 1) (o + 1) hx1 (by omega) (by omega)
        rw [e9] at this
        exact this
      · rw [if_neg c, if_pos rfl]
        have e9 : dupN f7 w (o + 1) = dupN f7 w o := by show (dupN f7 w o || decide (f7 o = w)) = _; rw [decide_eq_false c, Bool.or_false]
        have := ih (x + 1) (o + 1) hx1 (by omega) (by omega)
        rw [e9] at this
        exact this
noncomputable def bN (σ : Nat) (Jr : Nat → Int32) (Br : Nat → Nat → Int32) (y : Int32) (J1 : Nat → Int32) := if σ = 0 then bM12_tellQuery_34 Jr Br y J1 else bM12_tellQuery_34x Jr Br y J1
theorem names_body {G : Int32 → (Nat → Int32) → (Nat → Nat → Int32) → (Nat → Nat → Int64) → (Int32 × (Nat → Int32) × (Nat → Nat → Int32) × (Nat → Nat → Int64))} {J1 Jr J : Nat → Int32} {B Br : Nat → Nat → Int32} {L : Nat → Nat → Int64} {σ : Nat} {x y : Int32} : bN σ Jr Br y J1 G x J B L = if (Jr 17).toInt ≤ x.toInt then itr_IAL dfM (bQ σ Jr Br y) FU J (up3 B 11 y.toNatClampNeg 0) L else if (J1 6).toInt ≠ 0 then itr_IAL dfM (bQ σ Jr Br y) FU J (up3 B 11 y.toNatClampNeg 0) L else if (lg_cmp (L 7 x.toNatClampNeg) (L 5 (Jr 4).toNatClampNeg)).toInt ≠ 0 then G (x + Int32.ofInt 1) J B L else f_bdM (fM12_wrong J B L 3 (Jr 4)) (fun _ J3 B3 L3 => G (x + Int32.ofInt 1) J3 B3 L3) := by
  unfold bN bQ
  by_cases c : σ = 0
  · rw [if_pos c, if_pos c]; rfl
  · rw [if_neg c, if_neg c]; rfl
theorem m_names {J1 Jr I : Nat → Int32} {B Br : Nat → Nat → Int32} {L : Nat → Nat → Int64} {σ nq tq : Nat} {y : Int32} {p : Int} (h17 : (Jr 17).toInt = (nq : Int)) (hnq : nq ≤ 5) (h4 : (Jr 4).toInt = (tq : Int)) (j6 : (J1 6).toInt = 0) (hB : B 3 tq = I 2) (hW0 : WRK I J1 p) (hp : p ≤ (I 2).toInt) (j11 : J1 11 = I 9) : ∀ (m : Nat) (x : Int32) (o : Nat) (J2 : Nat → Int32), x.toInt = (o : Int) → o ≤ nq → nq - o < m → Md [8, 9, 13] J1 J2 → WRK (nmI I (dupN (L 7) (L 5 tq) o)) J2 ((I 2).toInt + 1) → ∃ J3 : Nat → Int32, itr_iIAL dfM (bN σ Jr Br y J1) m x J2 B L = itr_IAL dfM (bQ σ Jr Br y) FU J3 (up3 B 11 y.toNatClampNeg 0) L ∧ Md [8, 9, 13] J1 J3 ∧ WRK (nmI I (dupN (L 7) (L 5 tq) nq)) J3 ((I 2).toInt + 1) := by
  intro m
  induction m with
  | zero => intro x o J2 _ _ h; omega
  | succ m ih =>
    intro x o J2 hx ho hm mJ hW
    show ∃ J3 : Nat → Int32, bN σ Jr Br y J1 (itr_iIAL dfM (bN σ Jr Br y J1) m) x J2 B L = itr_IAL dfM (bQ σ Jr Br y) FU J3 (up3 B 11 y.toNatClampNeg 0) L ∧ Md [8, 9, 13] J1 J3 ∧ WRK (nmI I (dupN (L 7) (L 5 tq) nq)) J3 ((I 2).toInt + 1)
    obtain ⟨G, hG⟩ : ∃ G, G = itr_iIAL dfM (bN σ Jr Br y J1) m := ⟨_, rfl⟩
    rw [← hG] at ih ⊢
    rw [names_body]
    by_cases h : (Jr 17).toInt ≤ x.toInt
    · rw [if_pos h]
      have e : o = nq := by omega
      subst e
      exact ⟨J2, rfl, mJ, hW⟩
    · rw [if_neg h, if_neg (fun h9 => h9 j6), clN hx, clN h4]
      have hx1 : (x + Int32.ofInt 1).toInt = ((o + 1 : Nat) : Int) := by rw [show x + Int32.ofInt 1 = x + 1 from rfl, i32_inc (by omega)]; omega
      have M0 : Md [11, 12, 13] I (nmI I (dupN (L 7) (L 5 tq) o)) := nmI_md
      by_cases c : L 7 o = L 5 tq
      · rw [if_neg (fun h9 => h9 (lcmp_0.mpr c))]
        have e9 : dupN (L 7) (L 5 tq) (o + 1) = true := by show (dupN (L 7) (L 5 tq) o || decide (L 7 o = L 5 tq)) = true; rw [decide_eq_true c, Bool.or_true]
        obtain ⟨J3, d1, d2, d3⟩ := m_wrong (I := nmI I (dupN (L 7) (L 5 tq) o)) (J := J2) (B := B) (L := L) (k := 3) (z := Jr 4) hW (by rw [M0 2 rfl]; omega) (fun h9 h8 => by
          unfold nmI at h9 h8 ⊢
          by_cases c1 : dupN (L 7) (L 5 tq) o = true
          · rw [if_pos c1] at h9 h8 ⊢
            unfold markI at h9 h8 ⊢
            by_cases c2 : (I 11).toInt ≠ 0
            · rw [if_pos c2] at h9 h8 ⊢
              have := (hW0.2.2.2 h9).2.2; omega
            · rw [if_neg c2]
              exact Int.le_refl _
          · rw [if_neg c1] at h9 h8 ⊢
            have := (hW0.2.2.2 h9).2.2; omega) (by rw [mJ 6 rfl]; exact j6) (by rw [mJ 11 rfl, M0 9 rfl]; exact j11) (by rw [clN h4, M0 2 rfl]; exact hB) (by decide)
        rw [d1, bdM_mk]
        rw [nm_mark, M0 2 rfl] at d3
        obtain ⟨J4, g1, g2, g3⟩ := ih (x + Int32.ofInt 1) (o + 1) J3 hx1 (by omega) (by omega) (Md.tr mJ d2 rfl) (by rw [e9]; exact d3)
        exact ⟨J4, g1, g2, g3⟩
      · rw [if_pos (fun h9 => c (lcmp_0.mp h9))]
        have e9 : dupN (L 7) (L 5 tq) (o + 1) = dupN (L 7) (L 5 tq) o := by show (dupN (L 7) (L 5 tq) o || decide (L 7 o = L 5 tq)) = _; rw [decide_eq_false c, Bool.or_false]
        exact ih (x + Int32.ofInt 1) (o + 1) J2 hx1 (by omega) (by omega) mJ (by rw [e9]; exact hW)
