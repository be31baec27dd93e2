theorem RdE.gap {v w : Int32} (h : RdE v w) : v.toInt = -1000 ↔ w.toInt = 100000 := by
  rcases h with ⟨a, b⟩ | ⟨a, b, c⟩
  · rw [a, b]; exact ⟨fun _ => rfl, fun _ => rfl⟩
  · rw [a]; constructor <;> intro h <;> omega
theorem RdE.val {v w : Int32} (h : RdE v w) (hv : v.toInt ≠ -1000) : w = v ∧ -999 ≤ v.toInt ∧ v.toInt ≤ 999 := by
  rcases h with ⟨a, b⟩ | h
  · rw [a] at hv; exact absurd rfl hv
  · exact h
theorem x_val {I : Nat → Int32} {A : Nat → Nat → Int32} {fs : Int} (h17 : (I 17).toInt = fs % 256) {z : Int32} (h0 : 0 ≤ z.toInt) (h1 : z.toInt < (I 18).toInt) : fX6_valueAt I A z = A 7 (ri (fs + z.toInt)) := by
  unfold fX6_valueAt
  dsimp only [f_lt]
  rw [if_neg (by omega), if_neg (by omega), ri_and h17]
theorem x_valo {I : Nat → Int32} {A : Nat → Nat → Int32} {z : Int32} (h : z.toInt < 0 ∨ (I 18).toInt ≤ z.toInt) : fX6_valueAt I A z = -1000 := by
  unfold fX6_valueAt
  dsimp only [f_lt]
  by_cases c : z.toInt < 0
  · rw [if_pos c]
  · rw [if_neg c, if_pos (by omega)]
theorem x_has {I : Nat → Int32} {A : Nat → Nat → Int32} {z : Int32} : fX6_hasReading I A z = if (fX6_valueAt I A z).toInt = -1000 then 0 else 1 := rfl
theorem m_isPlace {J : Nat → Int32} {B : Nat → Nat → Int32} {L : Nat → Nat → Int64} {n : Int} (r0 : (B 17 0).toInt = n) (r1 : 0 ≤ n) (r2 : n ≤ 160) {z : Int32} : fM12_isPlace J B L z = if 0 ≤ z.toInt ∧ z.toInt < n then 1 else 0 := by
  have e := i32_sub (x := B 17 0) (y := 1) (b := 1) rfl r0 rfl (by omega) (by omega)
  have e0 : (0 : Int32).toInt = 0 := rfl
  unfold fM12_isPlace
  dsimp only [f_lt]
  rw [m_in, if10]
  by_cases c1 : 0 ≤ z.toInt ∧ z.toInt < n
  · rw [if_pos c1, if_pos (by omega)]
  · rw [if_neg c1, if_neg (by omega)]
theorem m_there {J : Nat → Int32} {B : Nat → Nat → Int32} {L : Nat → Nat → Int64} {n : Int} (r0 : (B 17 0).toInt = n) (r1 : 0 ≤ n) (r2 : n ≤ 160) {z : Int32} : fM12_isThere J B L z = if 0 ≤ z.toInt ∧ z.toInt < n ∧ (B 17 (1 + z.toInt.toNat)).toInt ≠ 100000 then 1 else 0 := by
  unfold fM12_isThere
  dsimp only [f_lt]
  rw [m_isPlace r0 r1 r2, if10]
  by_cases c : 0 ≤ z.toInt ∧ z.toInt < n
  · have e : (1 + z).toInt = ((1 + z.toInt.toNat : Nat) : Int) := by
      have := i32_add (x := 1) (y := z) (a := 1) rfl rfl rfl (by omega) (by omega)
      omega
    rw [if_pos c, clN e]
    by_cases d : (B 17 (1 + z.toInt.toNat)).toInt = 100000
    · rw [if_pos d, if_neg (fun h => h.2.2 d)]
    · rw [if_neg d, if_pos ⟨c.1, c.2, d⟩]
  · rw [if_neg c, if_neg (fun h => c ⟨h.1, h.2.1⟩)]
theorem x_there {I : Nat → Int32} {A : Nat → Nat → Int32} {J : Nat → Int32} {B : Nat → Nat → Int32} {L : Nat → Nat → Int64} {fs : Int} (h17 : (I 17).toInt = fs % 256) (hR : Rep fs (I 18).toInt (A 7) (A 10) (B 17)) (z : Int32) : fX6_hasReading I A z = fM12_isThere J B L z := by
  obtain ⟨r0, r1, r2, r3, -⟩ := hR
  rw [m_there r0 r1 r2, x_has]
  by_cases c : 0 ≤ z.toInt ∧ z.toInt < (I 18).toInt
  · rw [x_val h17 c.1 c.2]
    have h := r3 z.toInt.toNat (by omega)
    rw [show ((z.toInt.toNat : Nat) : Int) = z.toInt by omega] at h
    have g := h.gap
    by_cases d : (A 7 (ri (fs + z.toInt))).toInt = -1000
    · rw [if_pos d, if_neg (fun h9 => h9.2.2 (g.mp d))]
    · rw [if_neg d, if_pos ⟨c.1, c.2, fun h9 => d (g.mpr h9)⟩]
  · rw [x_valo (by omega), if_pos (by decide), if_neg (by omega)]
/-- a reading that is there is the same in both -/
theorem x_sam2 {I : Nat → Int32} {A : Nat → Nat → Int32} {J : Nat → Int32} {B : Nat → Nat → Int32} {L : Nat → Nat → Int64} {fs : Int} (h17 : (I 17).toInt = fs % 256) (hR : Rep fs (I 18).toInt (A 7) (A 10) (B 17)) {z : Int32} (h : ¬ fM12_isThere J B L z = 0) : 0 ≤ z.toInt ∧ z.toInt < (I 18).toInt ∧ B 17 (1 + z.toInt.toNat) = fX6_valueAt I A z ∧ fX6_valueAt I A z = A 7 (ri (fs + z.toInt)) ∧ -999 ≤ (fX6_valueAt I A z).toInt ∧ (fX6_valueAt I A z).toInt ≤ 999 := by
  obtain ⟨r0, r1, r2, r3, -⟩ := hR
  rw [m_there r0 r1 r2] at h
  by_cases c : 0 ≤ z.toInt ∧ z.toInt < (I 18).toInt ∧ (B 17 (1 + z.toInt.toNat)).toInt ≠ 100000
  · have h2 := r3 z.toInt.toNat (by omega)
    rw [show ((z.toInt.toNat : Nat) : Int) = z.toInt by omega] at h2
    have g := h2.gap
    have k := h2.val (fun h9 => c.2.2 (g.mp h9))
    rw [x_val h17 c.1 c.2.1]
    exact ⟨c.1, c.2.1, k.1, rfl, k.2⟩
  · rw [if_neg c] at h; exact absurd rfl h
theorem at_eq {I : Nat → Int32} {A : Nat → Nat → Int32} {J : Nat → Int32} {B : Nat → Nat → Int32} {L : Nat → Nat → Int64} {fs : Int} (h17 : (I 17).toInt = fs % 256) (hR : Rep fs (I 18).toInt (A 7) (A 10) (B 17)) (z : Int32) : fX11_at I A z = fM12_at J B L z := by
  unfold fX11_at fM12_at
  dsimp only [f_lt]
  have ht := x_there (J := J) (L := L) h17 hR z
  by_cases c : fM12_isThere J B L z = 0
  · rw [if_pos c]
    rw [c, x_has] at ht
    by_cases d : (fX6_valueAt I A z).toInt = -1000
    · exact Int32.toInt_inj.mp (by rw [d]; rfl)
    · rw [if_neg d] at ht; exact absurd ht (by decide)
  · rw [if_neg c]
    obtain ⟨a, b, e, -⟩ := x_sam2 (J := J) (L := L) h17 hR c
    have r2 := hR.2.2.1
    have e2 : (1 + z).toInt = ((1 + z.toInt.toNat : Nat) : Int) := by
      have := i32_add (x := 1) (y := z) (a := 1) rfl rfl rfl (by omega) (by omega)
      omega
    rw [clN e2, e]
theorem m_drop0 {z : Int32} {d : Nat} {J : Nat → Int32} {B : Nat → Nat → Int32} {L : Nat → Nat → Int64} (hd : z.toInt = (d : Int)) (hd2 : d ≤ 160) : ∀ (m : Nat) (x : Int32) (k : Nat) (B1 : Nat → Nat → Int32), x.toInt = (k : Int) → k ≤ 160 → 160 - k < m → Md [18] B B1 → (∀ i, i < k → B1 18 (1 + i) = if (B 17 0).toInt ≤ (i : Int) + d then 0 else B 17 (1 + i + d)) → (B1 18 0 = B 17 0) → (∀ i, i < 4 → B1 18 (161 + i) = B 17 (161 + i)) → ∃ B2 : Nat → Nat → Int32, Md [18] B B2 ∧ (∀ i, i < 160 → B2 18 (1 + i) = if (B 17 0).toInt ≤ (i : Int) + d then 0 else B 17 (1 + i + d)) ∧ B2 18 0 = B 17 0 ∧ (∀ i, i < 4 → B2 18 (161 + i) = B 17 (161 + i)) ∧ itr_iIAL dfM (bM12_drop_22 z B) m x J B1 L = f_bdM (fM12_records J (up3 B2 18 0 (B 17 0 - z)) L) (fun _ J2 B2 L2 => (1, J2, B2, L2)) := by
  intro m
  induction m with
  | zero => intro x k B1 _ _ h; omega
  | succ m ih =>
    intro x k B1 hx hk hm mB h1 h2 h3
    show ∃ B2 : Nat → Nat → Int32, Md [18] B B2 ∧ _ ∧ _ ∧ _ ∧ bM12_drop_22 z B (itr_iIAL dfM (bM12_drop_22 z B) m) x J B1 L = _
    obtain ⟨G, hG⟩ : ∃ G, G = itr_iIAL dfM (bM12_drop_22 z B) m := ⟨_, rfl⟩
    rw [← hG] at ih ⊢
    unfold bM12_drop_22
    dsimp only [f_lt]
    by_cases c : 160 ≤ x.toInt
    · rw [if_pos c]
      refine ⟨B1, mB, fun i hi => h1 i (by omega), h2, h3, ?_⟩
      rw [h2]
    · rw [if_neg c]
      have hx1 : (x + Int32.ofInt 1).toInt = ((k + 1 : Nat) : Int) := by rw [show x + Int32.ofInt 1 = x + 1 from rfl, i32_inc (by omega)]; omega
      have hx2 : (1 + x).toInt = ((1 + k : Nat) : Int) := by
        have := i32_add (x := 1) (y := x) (a := 1) rfl rfl hx (by omega) (by omega)
        omega
      have hx3 : (x + z).toInt = (k : Int) + d := i32_add (x := x) (y := z) rfl hx hd (by omega) (by omega)
      have hx4 : (1 + x + z).toInt = ((1 + k + d : Nat) : Int) := by
        have := i32_add (x := 1 + x) (y := z) rfl hx2 hd (by omega) (by omega)
        omega
      rw [hx3, clN hx2, clN hx4]
      by_cases c2 : (B 17 0).toInt ≤ (k : Int) + d
      · rw [if_pos c2]
        refine ih (x + Int32.ofInt 1) (k + 1) _ hx1 (by omega) (by omega) (Md.up3 mB rfl) (fun i hi => ?_) ?_ (fun i hi => ?_)
        · by_cases e : i = k
          · rw [e, up3_at rfl, if_pos c2]
          · rw [up3_ne (by omega)]; exact h1 i (by omega)
        · rw [up3_ne (by omega)]; exact h2
        · rw [up3_ne (by omega)]; exact h3 i hi
      · rw [if_neg c2]
        refine ih (x + Int32.ofInt 1) (k + 1) _ hx1 (by omega) (by omega) (Md.up3 mB rfl) (fun i hi => ?_) ?_ (fun i hi => ?_)
        · by_cases e : i = k
          · rw [e, up3_at rfl, if_neg c2]
          · rw [up3_ne (by omega)]; exact h1 i (by omega)
        · rw [up3_ne (by omega)]; exact h2
        · rw [up3_ne (by omega)]; exact h3 i hi
theorem HS.drop {I I' J J' : Nat → Int32} {A A' B B' : Nat → Nat → Int32} {M M' : Nat → Nat → Int64} {z a b : Int32} (h : HS I A J B) (eX : FE (fX11_drop I A z) (a, I', A')) (eM : FE (fM12_drop J B M z) (b, J', B', M')) : HS I' A' J' B' ∧ a = b := by
  have eX2 : fX11_drop I A z = (a, I', A') := eX
  have eM2 : fM12_drop J B M z = (b, J', B', M') := eM
  obtain ⟨fs, u, nx, h17, h21, h22, hu, h20, hx, hR, hX⟩ := h
  have hR2 := hR
  obtain ⟨r0, r1, r2, r3, r4⟩ := hR2
  have e1 : (1 : Int32).toInt = 1 := rfl
  unfold fX11_drop at eX2
  unfold fM12_drop at eM2
  rw [m_in, if10] at eM2
  by_cases c : 1 ≤ z.toInt ∧ z.toInt ≤ (I 18).toInt
  · have e18 : (I 18 - z).toInt = (I 18).toInt - z.toInt := i32_sub (x := I 18) (y := z) rfl rfl rfl (by omega) (by omega)
    obtain ⟨y, hy⟩ : ∃ y : Int32, y = (I 17 + z) &&& 255 := ⟨_, rfl⟩
    have ey : y.toInt = (fs + z.toInt) % 256 := by rw [hy, and255_add, h17]; omega
    have eA : fX6_cutFirst I A z = (1, upd (upd I 17 y) 18 (I 18 - z), A) := by
      unfold fX6_cutFirst
      dsimp only [f_lt]
      rw [if_neg (by omega), if_pos c.2, ← hy]
    rw [eA, bdX_mk, if_pos (by decide)] at eX2
    obtain ⟨I9, n1, n2, n3, n4⟩ := x_note (I := upd (upd I 17 y) 18 (I 18 - z)) (A := A) (k := 2) (f := z) (s := 0) (nx := nx) (u := u) h20 hx h21 hu
    rw [n1, bdX_mk] at eX2
    rw [if_pos (by omega)] at eM2
    unfold fM12_copies at eM2
    rw [bdM_mk] at eM2
    obtain ⟨d, hd⟩ : ∃ d : Nat, z.toInt = (d : Int) := ⟨z.toInt.toNat, by omega⟩
    have q0 : ∀ i, i < 165 → (up2 B 18 (cpo (B 17) (B 18) 0 165)) 18 i = B 17 i := fun i hi => by
      show cpo (B 17) (B 18) 0 165 i = B 17 i
      rw [cpo_in (by omega) (by omega)]; rfl
    obtain ⟨B2, k1, k2, k3, k4, k5⟩ := m_drop0 (z := z) (d := d) (J := J) (B := B) (L := M) hd (by omega) FU 0 0 (up2 B 18 (cpo (B 17) (B 18) 0 165)) rfl (by omega) (by have := FU_eq; omega) (Md.up2 Md.rf rfl) (fun i hi => by omega) (q0 0 (by omega)) (fun i hi => q0 _ (by omega))
    rw [k5] at eM2
    have e0 : (B 17 0 - z).toInt = (I 18).toInt - z.toInt := i32_sub (x := B 17 0) (y := z) rfl r0 rfl (by omega) (by omega)
    obtain ⟨B1, hB1⟩ : ∃ B1, B1 = up3 B2 18 0 (B 17 0 - z) := ⟨_, rfl⟩
    rw [← hB1] at eM2
    obtain ⟨J9, B9, u0, sh, m1, -⟩ := m_records (J := J) (B := B1) (L := M) (u := u) h22 hu
    have st := HS.step (I := I) (I1 := upd (upd I 17 y) 18 (I 18 - z)) (A := A) (A1 := A) (J := J) (J1 := J) (B := B) (B1 := B1) (L := M) (fs := fs) (fs' := fs + z.toInt) (k := 2) (f := z) (s := 0) h21 h22 hu h20 hx hR hX rfl rfl rfl rfl rfl rfl (by rw [hB1]; exact (up3_o (by decide)).trans (k1 17 rfl)) (by rw [hB1]; exact (up3_o (by decide)).trans (k1 22 rfl)) ey
      (by
        show Rep (fs + z.toInt) (I 18 - z).toInt (A 7) (A 10) (B1 18)
        rw [e18]
        have g : ∀ i, i ≠ 0 → B1 18 i = B2 18 i := fun i hi => by rw [hB1, up3_ne hi]
        refine ⟨by rw [hB1, up3_at rfl]; exact e0, by omega, by omega, fun i hi => ?_, ?_⟩
        · rw [g (1 + i) (by omega), k2 i (by omega), if_neg (by omega)]
          have := r3 (i + d) (by omega)
          rw [show fs + z.toInt + (i : Int) = fs + ((i + d : Nat) : Int) by omega, show 1 + i + d = 1 + (i + d) by omega]
          exact this
        · unfold StE at *
          rw [g 161 (by omega), g 162 (by omega), g 163 (by omega), g 164 (by omega)]
          have w0 := k4 0 (by omega)
          have w1 := k4 1 (by omega)
          have w2 := k4 2 (by omega)
          have w3 := k4 3 (by omega)
          rw [show B2 18 161 = B 17 161 from w0, show B2 18 162 = B 17 162 from w1, show B2 18 163 = B 17 163 from w2, show B2 18 164 = B 17 164 from w3]
          exact r4)
      (by
        intro K' F' S' rw' u0 hu0 x1 x2
        refine Or.inr (Or.inr (Or.inl ⟨rfl, c.1, ?_, ?_⟩))
        · show z.toInt + (I 18 - z).toInt ≤ 160
          omega
        · show Rep (fs + z.toInt - z.toInt) ((I 18 - z).toInt + z.toInt) (A 7) (A 10) (rw' u0) ∧ XP K' F' S' rw' u0 (fs + z.toInt - z.toInt) ((I 18 - z).toInt + z.toInt) (A 7) (A 10) nx
          rw [show fs + z.toInt - z.toInt = fs by omega, show (I 18 - z).toInt + z.toInt = (I 18).toInt by omega]
          exact ⟨x2, x1⟩)
      n1 m1
    rw [m1, bdM_mk] at eM2
    cases eX2; cases eM2
    exact ⟨st.1, rfl⟩
  · have eA : fX6_cutFirst I A z = (0, I, A) := by
      unfold fX6_cutFirst
      dsimp only [f_lt]
      by_cases d : z.toInt < 1
      · rw [if_pos d]
      · rw [if_neg d, if_neg (by omega)]
    rw [eA, bdX_mk, if_neg (by decide)] at eX2
    rw [if_neg (by omega)] at eM2
    cases eX2; cases eM2
    exact ⟨⟨fs, u, nx, h17, h21, h22, hu, h20, hx, hR, hX⟩, rfl⟩
