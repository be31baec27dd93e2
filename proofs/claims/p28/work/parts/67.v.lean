section
theorem run_i {ρ : Type} {d : ρ} {b : (Int32 → ρ) → Int32 → ρ} {Q : ρ → Prop} (n : Nat) (P : Nat → Int32 → Prop) (hs : ∀ (G : Int32 → ρ) (k : Nat) (x0 : Int32), k ≤ n → P k x0 → (k < n ∧ ∃ (x0' : Int32), b G x0 = G x0' ∧ P (k + 1) x0') ∨ Q (b G x0)) : ∀ (m k : Nat) (x0 : Int32), P k x0 → k ≤ n → n - k < m → Q (itr_i d b m x0) := by
  intro m
  induction m with
  | zero => intro k x0 _ _ h; omega
  | succ m ih =>
    intro k x0 hP hk hm
    show Q (b (itr_i d b m) x0)
    rcases hs (itr_i d b m) k x0 hk hP with ⟨h1, x0', e, h2⟩ | h1
    · rw [e]; exact ih (k + 1) x0' h2 (by omega) (by omega)
    · exact h1
theorem run_ii {ρ : Type} {d : ρ} {b : (Int32 → Int32 → ρ) → Int32 → Int32 → ρ} {Q : ρ → Prop} (n : Nat) (P : Nat → Int32 → Int32 → Prop) (hs : ∀ (G : Int32 → Int32 → ρ) (k : Nat) (x0 : Int32) (x1 : Int32), k ≤ n → P k x0 x1 → (k < n ∧ ∃ (x0' : Int32) (x1' : Int32), b G x0 x1 = G x0' x1' ∧ P (k + 1) x0' x1') ∨ Q (b G x0 x1)) : ∀ (m k : Nat) (x0 : Int32) (x1 : Int32), P k x0 x1 → k ≤ n → n - k < m → Q (itr_ii d b m x0 x1) := by
  intro m
  induction m with
  | zero => intro k x0 x1 _ _ h; omega
  | succ m ih =>
    intro k x0 x1 hP hk hm
    show Q (b (itr_ii d b m) x0 x1)
    rcases hs (itr_ii d b m) k x0 x1 hk hP with ⟨h1, x0', x1', e, h2⟩ | h1
    · rw [e]; exact ih (k + 1) x0' x1' h2 (by omega) (by omega)
    · exact h1
theorem run_iii {ρ : Type} {d : ρ} {b : (Int32 → Int32 → Int32 → ρ) → Int32 → Int32 → Int32 → ρ} {Q : ρ → Prop} (n : Nat) (P : Nat → Int32 → Int32 → Int32 → Prop) (hs : ∀ (G : Int32 → Int32 → Int32 → ρ) (k : Nat) (x0 : Int32) (x1 : Int32) (x2 : Int32), k ≤ n → P k x0 x1 x2 → (k < n ∧ ∃ (x0' : Int32) (x1' : Int32) (x2' : Int32), b G x0 x1 x2 = G x0' x1' x2' ∧ P (k + 1) x0' x1' x2') ∨ Q (b G x0 x1 x2)) : ∀ (m k : Nat) (x0 : Int32) (x1 : Int32) (x2 : Int32), P k x0 x1 x2 → k ≤ n → n - k < m → Q (itr_iii d b m x0 x1 x2) := by
  intro m
  induction m with
  | zero => intro k x0 x1 x2 _ _ h; omega
  | succ m ih =>
    intro k x0 x1 x2 hP hk hm
    show Q (b (itr_iii d b m) x0 x1 x2)
    rcases hs (itr_iii d b m) k x0 x1 x2 hk hP with ⟨h1, x0', x1', x2', e, h2⟩ | h1
    · rw [e]; exact ih (k + 1) x0' x1' x2' h2 (by omega) (by omega)
    · exact h1
theorem run_iIA {ρ : Type} {d : ρ} {b : (Int32 → (Nat → Int32) → (Nat → Nat → Int32) → ρ) → Int32 → (Nat → Int32) → (Nat → Nat → Int32) → ρ} {Q : ρ → Prop} (n : Nat) (P : Nat → Int32 → (Nat → Int32) → (Nat → Nat → Int32) → Prop) (hs : ∀ (G : Int32 → (Nat → Int32) → (Nat → Nat → Int32) → ρ) (k : Nat) (x0 : Int32) (I : (Nat → Int32)) (A : (Nat → Nat → Int32)), k ≤ n → P k x0 I A → (k < n ∧ ∃ (x0' : Int32) (I' : (Nat → Int32)) (A' : (Nat → Nat → Int32)), b G x0 I A = G x0' I' A' ∧ P (k + 1) x0' I' A') ∨ Q (b G x0 I A)) : ∀ (m k : Nat) (x0 : Int32) (I : (Nat → Int32)) (A : (Nat → Nat → Int32)), P k x0 I A → k ≤ n → n - k < m → Q (itr_iIA d b m x0 I A) := by
  intro m
  induction m with
  | zero => intro k x0 I A _ _ h; omega
  | succ m ih =>
    intro k x0 I A hP hk hm
    show Q (b (itr_iIA d b m) x0 I A)
    rcases hs (itr_iIA d b m) k x0 I A hk hP with ⟨h1, x0', I', A', e, h2⟩ | h1
    · rw [e]; exact ih (k + 1) x0' I' A' h2 (by omega) (by omega)
    · exact h1
theorem run_iIAL {ρ : Type} {d : ρ} {b : (Int32 → (Nat → Int32) → (Nat → Nat → Int32) → (Nat → Nat → Int64) → ρ) → Int32 → (Nat → Int32) → (Nat → Nat → Int32) → (Nat → Nat → Int64) → ρ} {Q : ρ → Prop} (n : Nat) (P : Nat → Int32 → (Nat → Int32) → (Nat → Nat → Int32) → (Nat → Nat → Int64) → Prop) (hs : ∀ (G : Int32 → (Nat → Int32) → (Nat → Nat → Int32) → (Nat → Nat → Int64) → ρ) (k : Nat) (x0 : Int32) (I : (Nat → Int32)) (A : (Nat → Nat → Int32)) (L : (Nat → Nat → Int64)), k ≤ n → P k x0 I A L → (k < n ∧ ∃ (x0' : Int32) (I' : (Nat → Int32)) (A' : (Nat → Nat → Int32)) (L' : (Nat → Nat → Int64)), b G x0 I A L = G x0' I' A' L' ∧ P (k + 1) x0' I' A' L') ∨ Q (b G x0 I A L)) : ∀ (m k : Nat) (x0 : Int32) (I : (Nat → Int32)) (A : (Nat → Nat → Int32)) (L : (Nat → Nat → Int64)), P k x0 I A L → k ≤ n → n - k < m → Q (itr_iIAL d b m x0 I A L) := by
  intro m
  induction m with
  | zero => intro k x0 I A L _ _ h; omega
  | succ m ih =>
    intro k x0 I A L hP hk hm
    show Q (b (itr_iIAL d b m) x0 I A L)
    rcases hs (itr_iIAL d b m) k x0 I A L hk hP with ⟨h1, x0', I', A', L', e, h2⟩ | h1
    · rw [e]; exact ih (k + 1) x0' I' A' L' h2 (by omega) (by omega)
    · exact h1
theorem run_iiIA {ρ : Type} {d : ρ} {b : (Int32 → Int32 → (Nat → Int32) → (Nat → Nat → Int32) → ρ) → Int32 → Int32 → (Nat → Int32) → (Nat → Nat → Int32) → ρ} {Q : ρ → Prop} (n : Nat) (P : Nat → Int32 → Int32 → (Nat → Int32) → (Nat → Nat → Int32) → Prop) (hs : ∀ (G : Int32 → Int32 → (Nat → Int32) → (Nat → Nat → Int32) → ρ) (k : Nat) (x0 : Int32) (x1 : Int32) (I : (Nat → Int32)) (A : (Nat → Nat → Int32)), k ≤ n → P k x0 x1 I A → (k < n ∧ ∃ (x0' : Int32) (x1' : Int32) (I' : (Nat → Int32)) (A' : (Nat → Nat → Int32)), b G x0 x1 I A = G x0' x1' I' A' ∧ P (k + 1) x0' x1' I' A') ∨ Q (b G x0 x1 I A)) : ∀ (m k : Nat) (x0 : Int32) (x1 : Int32) (I : (Nat → Int32)) (A : (Nat → Nat → Int32)), P k x0 x1 I A → k ≤ n → n - k < m → Q (itr_iiIA d b m x0 x1 I A) := by
  intro m
  induction m with
  | zero => intro k x0 x1 I A _ _ h; omega
  | succ m ih =>
    intro k x0 x1 I A hP hk hm
    show Q (b (itr_iiIA d b m) x0 x1 I A)
    rcases hs (itr_iiIA d b m) k x0 x1 I A hk hP with ⟨h1, x0', x1', I', A', e, h2⟩ | h1
    · rw [e]; exact ih (k + 1) x0' x1' I' A' h2 (by omega) (by omega)
    · exact h1
theorem run_iiIAL {ρ : Type} {d : ρ} {b : (Int32 → Int32 → (Nat → Int32) → (Nat → Nat → Int32) → (Nat → Nat → Int64) → ρ) → Int32 → Int32 → (Nat → Int32) → (Nat → Nat → Int32) → (Nat → Nat → Int64) → ρ} {Q : ρ → Prop} (n : Nat) (P : Nat → Int32 → Int32 → (Nat → Int32) → (Nat → Nat → Int32) → (Nat → Nat → Int64) → Prop) (hs : ∀ (G : Int32 → Int32 → (Nat → Int32) → (Nat → Nat → Int32) → (Nat → Nat → Int64) → ρ) (k : Nat) (x0 : Int32) (x1 : Int32) (I : (Nat → Int32)) (A : (Nat → Nat → Int32)) (L : (Nat → Nat → Int64)), k ≤ n → P k x0 x1 I A L → (k < n ∧ ∃ (x0' : Int32) (x1' : Int32) (I' : (Nat → Int32)) (A' : (Nat → Nat → Int32)) (L' : (Nat → Nat → Int64)), b G x0 x1 I A L = G x0' x1' I' A' L' ∧ P (k + 1) x0' x1' I' A' L') ∨ Q (b G x0 x1 I A L)) : ∀ (m k : Nat) (x0 : Int32) (x1 : Int32) (I : (Nat → Int32)) (A : (Nat → Nat → Int32)) (L : (Nat → Nat → Int64)), P k x0 x1 I A L → k ≤ n → n - k < m → Q (itr_iiIAL d b m x0 x1 I A L) := by
  intro m
  induction m with
  | zero => intro k x0 x1 I A L _ _ h; omega
  | succ m ih =>
    intro k x0 x1 I A L hP hk hm
    show Q (b (itr_iiIAL d b m) x0 x1 I A L)
    rcases hs (itr_iiIAL d b m) k x0 x1 I A L hk hP with ⟨h1, x0', x1', I', A', L', e, h2⟩ | h1
    · rw [e]; exact ih (k + 1) x0' x1' I' A' L' h2 (by omega) (by omega)
    · exact h1
theorem fu_lt {n : Nat} (h : n < 1000000) : n - 0 < FU := by have := FU_eq; omega
theorem i_s {x : Int32} {k : Nat} (h : x.toInt = (k : Int)) (hk : k < 100000) : (x + Int32.ofInt 1).toInt = ((k + 1 : Nat) : Int) := by rw [show x + Int32.ofInt 1 = x + 1 from rfl, i32_inc (by omega)]; omega
theorem i_16 {x y : Int32} {k j : Nat} (h : x.toInt = (k : Int)) (h2 : y.toInt = (j : Int)) (hk : k < 1000) (hj : j < 1000) : (x * 16 + y).toNatClampNeg = 16 * k + j := by
  have e1 := i32_mul (x := x) (y := 16) (b := 16) rfl h rfl (by omega) (by omega)
  have e2 := i32_add (x := x * 16) (y := y) rfl e1 h2 (by omega) (by omega)
  exact clN (by omega)
theorem x_hasR {I : Nat → Int32} {A : Nat → Nat → Int32} {nq : Nat} (h : (I 16).toInt = (nq : Int)) (hn : nq ≤ 5) {z : Int32} : fX4_has I A z = if 0 ≤ z.toInt ∧ z.toInt < (nq : Int) then 1 else 0 := by
  unfold fX4_has
  by_cases c : z.toInt < 0
  · rw [if_pos c, if_neg (by omega)]
  · rw [if_neg c]
    by_cases d : (I 16).toInt ≤ z.toInt
    · rw [if_pos d, if_neg (by omega)]
    · rw [if_neg d, if_neg (by omega), if_pos (by omega)]
theorem x_hasQ {I : Nat → Int32} {A : Nat → Nat → Int32} {nq : Nat} (h19 : (I 19).toInt = (nq : Int)) (hn : nq ≤ 5) {z : Int32} : fX4_has_2 I A z = if 0 ≤ z.toInt ∧ z.toInt < (nq : Int) then 1 else 0 := by
  unfold fX4_has_2
  by_cases c : z.toInt < 0
  · rw [if_pos c, if_neg (by omega)]
  · rw [if_neg c]
    by_cases d : (I 19).toInt ≤ z.toInt
    · rw [if_pos d, if_neg (by omega)]
    · rw [if_neg d, if_neg (by omega), if_pos (by omega)]
theorem ifp {α : Type} {x : Int32} {a b : α} : (if ((x, (1 : Nat)) : Int32 × Nat).2 = 0 then a else b) = b := if_neg (by show ¬ (1 : Nat) = 0; decide)
theorem ifp0 {α : Type} {x : Int32} {a b : α} : (if ((x, (0 : Nat)) : Int32 × Nat).2 = 0 then a else b) = a := if_pos rfl
/-- the class's QUERIES are taken out of the text's -/
theorem x_takeQ {I : Nat → Int32} {A : Nat → Nat → Int32} {nq : Nat} (h16 : (I 16).toInt = (nq : Int)) (hn : nq ≤ 5) (hl : ∀ q, q < nq → 0 ≤ (A 4 q).toInt ∧ (A 4 q).toInt ≤ 16) : ∃ (I' : Nat → Int32) (A' : Nat → Nat → Int32), fX4_takeFrom I A = (0, I', A') ∧ Md [19] I I' ∧ Md [8, 9] A A' ∧ (I' 19).toInt = (nq : Int) ∧ ∀ q, q < nq → A' 9 q = A 4 q ∧ ∀ i : Nat, (i : Int) < (A 4 q).toInt → A' 8 (16 * q + i) = A 3 (16 * q + i) := by
  unfold fX4_takeFrom
  refine run_iIA (Q := fun r => ∃ (I' : Nat → Int32) (A' : Nat → Nat → Int32), r = (0, I', A') ∧ Md [19] I I' ∧ Md [8, 9] A A' ∧ (I' 19).toInt = (nq : Int) ∧ ∀ q, q < nq → A' 9 q = A 4 q ∧ ∀ i : Nat, (i : Int) < (A 4 q).toInt → A' 8 (16 * q + i) = A 3 (16 * q + i)) nq (fun k x I1 A1 => x.toInt = (k : Int) ∧ Md [19] I I1 ∧ Md [8, 9] A A1 ∧ (I1 19).toInt = (k : Int) ∧ ∀ q, q < k → A1 9 q = A 4 q ∧ ∀ i : Nat, (i : Int) < (A 4 q).toInt → A1 8 (16 * q + i) = A 3 (16 * q + i)) (fun G k x I1 A1 hk hP => ?_) FU 0 0 (upd I 19 0) A ⟨rfl, Md.up Md.rf rfl, Md.rf, rfl, fun q hq => by omega⟩ (by omega) (fu_lt (by omega))
  obtain ⟨hx, mI, mA, h19, hq⟩ := hP
  unfold bX4_takeFrom_7
  by_cases c : (I 16).toInt ≤ x.toInt
  · rw [if_pos c]
    have e : k = nq := by omega
    subst e
    exact Or.inr ⟨I1, A1, rfl, mI, mA, h19, hq⟩
  · rw [if_neg c]
    left
    have hkn : k < nq := by omega
    refine ⟨hkn, ?_⟩
    have e19 : (I1 19 + 1).toInt = ((k + 1 : Nat) : Int) := by rw [i32_inc (by omega)]; omega
    have eO : fX4_open_2 I1 A1 = (0, upd I1 19 (I1 19 + 1), up3 A1 9 k 0) := by
      unfold fX4_open_2
      dsimp only [f_lt]
      rw [if_neg (by omega), if_neg (by omega), clN h19]
    rw [eO, bdX_mk]
    obtain ⟨l, hlk⟩ : ∃ l : Nat, (A 4 k).toInt = (l : Int) := ⟨(A 4 k).toInt.toNat, by have := hl k hkn; omega⟩
    have hl16 := hl k hkn
    refine run_iIA (Q := fun r => ∃ (x' : Int32) (I' : Nat → Int32) (A' : Nat → Nat → Int32), r = G x' I' A' ∧ x'.toInt = ((k + 1 : Nat) : Int) ∧ Md [19] I I' ∧ Md [8, 9] A A' ∧ (I' 19).toInt = ((k + 1 : Nat) : Int) ∧ ∀ q, q < k + 1 → A' 9 q = A 4 q ∧ ∀ i : Nat, (i : Int) < (A 4 q).toInt → A' 8 (16 * q + i) = A 3 (16 * q + i)) l (fun j x2 I2 A2 => x2.toInt = (j : Int) ∧ I2 = upd I1 19 (I1 19 + 1) ∧ Md [8, 9] A A2 ∧ (A2 9 k).toInt = (j : Int) ∧ (∀ i : Nat, i < j → A2 8 (16 * k + i) = A 3 (16 * k + i)) ∧ ∀ q, q < k → A2 9 q = A 4 q ∧ ∀ i : Nat, (i : Int) < (A 4 q).toInt → A2 8 (16 * q + i) = A 3 (16 * q + i)) (fun G2 j x2 I2 A2 hj hP2 => ?_) FU 0 0 _ _ ⟨rfl, rfl, Md.up3 mA rfl, by rw [up3_at rfl]; rfl, fun i hi => by omega, fun q hq9 => ⟨by rw [up3_ne (by omega)]; exact (hq q hq9).1, fun i hi => by rw [up3_o (by decide)]; exact (hq q hq9).2 i hi⟩⟩ (by omega) (fu_lt (by omega))
    obtain ⟨hx2, eI, mA2, h9, h8, hq2⟩ := hP2
    have i16 : I2 16 = I 16 := by rw [eI]; exact mI 16 rfl
    have i19 : (I2 19).toInt = ((k + 1 : Nat) : Int) := by rw [eI]; exact e19
    have a4 : A2 4 k = A 4 k := by rw [mA2 4 rfl]
    have hL : fX4_lengthOf I2 A2 x = (A 4 k, 1) := by
      unfold fX4_lengthOf
      rw [x_hasR (by rw [i16]; exact h16) hn, if10, if_pos (by omega), clN hx, a4]
    unfold bX4_takeFrom_21
    dsimp only [f_lt]
    rw [hL, ifp]
    by_cases c2 : (A 4 k).toInt ≤ x2.toInt
    · rw [if_pos c2]
      have ej : j = l := by omega
      subst ej
      refine Or.inr ⟨_, _, _, rfl, i_s hx (by omega), ?_, mA2, i19, fun q hq9 => ?_⟩
      · rw [eI]; exact Md.up mI rfl
      · by_cases eq : q = k
        · subst eq
          exact ⟨Int32.toInt_inj.mp (by omega), fun i hi => h8 i (by omega)⟩
        · exact hq2 q (by omega)
    · rw [if_neg c2]
      left
      refine ⟨by omega, ?_⟩
      have hV : fX4_valueAt I2 A2 x x2 = A 3 (16 * k + j) := by
        unfold fX4_valueAt
        dsimp only [f_lt]
        rw [hL, if_neg (by omega), if_neg (by omega), ifp, if_neg (by omega), i_16 hx hx2 (by omega) (by omega), mA2 3 rfl]
      have e1 : (I2 19 - 1).toInt = (k : Int) := by
        have := i32_sub (x := I2 19) (y := 1) (b := 1) rfl i19 rfl (by omega) (by omega)
        omega
      have hA : fX4_append_2 I2 A2 (A 3 (16 * k + j)) = (0, I2, up3 (up3 A2 8 (16 * k + j) (A 3 (16 * k + j))) 9 k (A2 9 k + 1)) := by
        unfold fX4_append_2
        dsimp only [f_lt]
        rw [x_hasQ i19 (by omega), if10, if_pos (by omega), clN e1, if_neg (by omega), i_16 e1 h9 (by omega) (by omega)]
      rw [hV, hA, bdX_mk]
      refine ⟨_, _, _, rfl, i_s hx2 (by omega), eI, Md.up3 (Md.up3 mA2 rfl) rfl, ?_, fun i hi => ?_, fun q hq9 => ⟨?_, fun i hi => ?_⟩⟩
      · rw [up3_at rfl, i32_inc (by omega)]; omega
      · rw [up3_o (by decide)]
        by_cases ei : i = j
        · rw [up3_at (by omega), ei]
        · rw [up3_ne (by omega)]; exact h8 i (by omega)
      · rw [up3_ne (by omega), up3_o (by decide)]; exact (hq2 q hq9).1
      · have h16q := hl q (by omega)
        rw [up3_o (by decide), up3_ne (by omega)]; exact (hq2 q hq9).2 i hi
theorem x_ser0 {I : Nat → Int32} {A : Nat → Nat → Int32} {n : Nat} (h : (I 14).toInt = (n : Int)) (hn : n ≤ 160) : ∃ (I' : Nat → Int32) (A' : Nat → Nat → Int32), fX6_takeFrom I A = (0, I', A') ∧ Md [17, 18] I I' ∧ Md [7] A A' ∧ (I' 17).toInt = 0 ∧ (I' 18).toInt = (n : Int) ∧ ∀ i : Nat, i < n → A' 7 i = A 1 i := by
  unfold fX6_takeFrom
  refine run_iIA (Q := fun r => ∃ (I' : Nat → Int32) (A' : Nat → Nat → Int32), r = (0, I', A') ∧ Md [17, 18] I I' ∧ Md [7] A A' ∧ (I' 17).toInt = 0 ∧ (I' 18).toInt = (n : Int) ∧ ∀ i : Nat, i < n → A' 7 i = A 1 i) n (fun k x I1 A1 => x.toInt = (k : Int) ∧ Md [17, 18] I I1 ∧ Md [7] A A1 ∧ (I1 17).toInt = 0 ∧ (I1 18).toInt = (k : Int) ∧ ∀ i : Nat, i < k → A1 7 i = A 1 i) (fun G k x I1 A1 hk hP => ?_) FU 0 0 _ A ⟨rfl, Md.up (Md.up Md.rf rfl) rfl, Md.rf, rfl, rfl, fun i hi => by omega⟩ (by omega) (fu_lt (by omega))
  obtain ⟨hx, mI, mA, h17, h18, ha⟩ := hP
  unfold bX6_takeFrom_12
  dsimp only [f_lt]
  by_cases c : (I 14).toInt ≤ x.toInt
  · rw [if_pos c]
    have e : k = n := by omega
    subst e
    exact Or.inr ⟨I1, A1, rfl, mI, mA, h17, h18, ha⟩
  · rw [if_neg c]
    left
    refine ⟨by omega, ?_⟩
    have hV : fX8_valueAt I1 A1 x = A 1 k := by
      unfold fX8_valueAt
      rw [if_neg (by omega), mI 14 rfl, if_neg (by omega), if_neg (by omega), clN hx, mA 1 rfl]
    have hA : fX6_append I1 A1 (A 1 k) = (1, upd I1 18 (I1 18 + 1), up3 A1 7 k (A 1 k)) := by
      unfold fX6_append
      dsimp only [f_lt]
      rw [if_pos (by omega), ri_and (fs := 0) (by rw [h17]; rfl), h18, show ri (0 + (k : Int)) = k by unfold ri; omega]
    rw [hV, hA, bdX_mk]
    refine ⟨_, _, _, rfl, i_s hx (by omega), Md.up mI rfl, Md.up3 mA rfl, h17, ?_, fun i hi => ?_⟩
    · show (I1 18 + 1).toInt = _
      rw [i32_inc (by omega)]; omega
    · by_cases ei : i = k
      · rw [up3_at ei, ei]
      · rw [up3_ne ei]; exact ha i (by omega)
theorem x_set0 {I : Nat → Int32} {A : Nat → Nat → Int32} : ∃ A' : Nat → Nat → Int32, fX7_takeFrom I A = (0, I, A') ∧ Md [10] A A' ∧ ∀ i : Nat, i < 4 → A' 10 i = A 2 i := by
  unfold fX7_takeFrom
  refine run_iIA (Q := fun r => ∃ A' : Nat → Nat → Int32, r = (0, I, A') ∧ Md [10] A A' ∧ ∀ i : Nat, i < 4 → A' 10 i = A 2 i) 4 (fun k x I1 A1 => x.toInt = (k : Int) ∧ I1 = I ∧ Md [10] A A1 ∧ ∀ i : Nat, i < k → A1 10 i = A 2 i) (fun G k x I1 A1 hk hP => ?_) FU 0 0 I A ⟨rfl, rfl, Md.rf, fun i hi => by omega⟩ (by omega) (fu_lt (by omega))
  obtain ⟨hx, eI, mA, ha⟩ := hP
  unfold bX7_takeFrom_2
  dsimp only [f_lt]
  by_cases c : 4 ≤ x.toInt
  · rw [if_pos c, eI]
    exact Or.inr ⟨A1, rfl, mA, fun i hi => ha i (by omega)⟩
  · rw [if_neg c]
    left
    refine ⟨by omega, ?_⟩
    have hV : fX7_valueOf I1 A1 x = A 2 k := by
      unfold fX7_valueOf
      rw [if_neg (by omega), if_neg (by omega), clN hx, mA 2 rfl]
    rw [hV, clN hx]
    refine ⟨_, _, _, rfl, i_s hx (by omega), eI, Md.up3 mA rfl, fun i hi => ?_⟩
    by_cases ei : i = k
    · rw [up3_at ei, ei]
    · rw [up3_ne ei]; exact ha i (by omega)
theorem x_go0 {I : Nat → Int32} {A : Nat → Nat → Int32} {n : Nat} (h : (I 14).toInt = (n : Int)) (hn : n ≤ 160) : ∃ (I' : Nat → Int32) (A' : Nat → Nat → Int32), fX11_goOnFrom I A = (0, I', A') ∧ Md [17, 18, 21] I I' ∧ Md [7, 10] A A' ∧ (I' 17).toInt = 0 ∧ (I' 18).toInt = (n : Int) ∧ (I' 21).toInt = 0 ∧ (∀ i : Nat, i < n → A' 7 i = A 1 i) ∧ ∀ i : Nat, i < 4 → A' 10 i = A 2 i := by
  obtain ⟨I1, A1, a1, a2, a3, a4, a5, a6⟩ := x_ser0 (A := A) h hn
  obtain ⟨A2, b1, b2, b3⟩ := x_set0 (I := I1) (A := A1)
  unfold fX11_goOnFrom fX3_forget
  rw [a1, bdX_mk, b1, bdX_mk, bdX_mk]
  refine ⟨_, _, rfl, Md.up (Md.tr Md.rf a2 rfl) rfl, Md.tr (Md.tr Md.rf a3 rfl) b2 rfl, a4, a5, rfl, fun i hi => ?_, fun i hi => ?_⟩
  · rw [b2 7 rfl]; exact a6 i hi
  · rw [b3 i hi, a3 2 rfl]
theorem x_ser1 {I : Nat → Int32} {A : Nat → Nat → Int32} {n : Nat} (h : (I 22).toInt = (n : Int)) (hn : n ≤ 160) : ∃ (I' : Nat → Int32) (A' : Nat → Nat → Int32), fX6_takeFrom_2 I A = (0, I', A') ∧ Md [17, 18] I I' ∧ Md [7] A A' ∧ (I' 17).toInt = 0 ∧ (I' 18).toInt = (n : Int) ∧ ∀ i : Nat, i < n → A' 7 i = A 15 i := by
  unfold fX6_takeFrom_2
  refine run_iIA (Q := fun r => ∃ (I' : Nat → Int32) (A' : Nat → Nat → Int32), r = (0, I', A') ∧ Md [17, 18] I I' ∧ Md [7] A A' ∧ (I' 17).toInt = 0 ∧ (I' 18).toInt = (n : Int) ∧ ∀ i : Nat, i < n → A' 7 i = A 15 i) n (fun k x I1 A1 => x.toInt = (k : Int) ∧ Md [17, 18] I I1 ∧ Md [7] A A1 ∧ (I1 17).toInt = 0 ∧ (I1 18).toInt = (k : Int) ∧ ∀ i : Nat, i < k → A1 7 i = A 15 i) (fun G k x I1 A1 hk hP => ?_) FU 0 0 _ A ⟨rfl, Md.up (Md.up Md.rf rfl) rfl, Md.rf, rfl, rfl, fun i hi => by omega⟩ (by omega) (fu_lt (by omega))
  obtain ⟨hx, mI, mA, h17, h18, ha⟩ := hP
  unfold bX6_takeFrom_2_12
  dsimp only [f_lt]
  by_cases c : (I 22).toInt ≤ x.toInt
  · rw [if_pos c]
    have e : k = n := by omega
    subst e
    exact Or.inr ⟨I1, A1, rfl, mI, mA, h17, h18, ha⟩
  · rw [if_neg c]
    left
    refine ⟨by omega, ?_⟩
    have hV : fX8_valueAt_2 I1 A1 x = A 15 k := by
      unfold fX8_valueAt_2
      rw [if_neg (by omega), mI 22 rfl, if_neg (by omega), if_neg (by omega), clN hx, mA 15 rfl]
    have hA : fX6_append I1 A1 (A 15 k) = (1, upd I1 18 (I1 18 + 1), up3 A1 7 k (A 15 k)) := by
      unfold fX6_append
      dsimp only [f_lt]
      rw [if_pos (by omega), ri_and (fs := 0) (by rw [h17]; rfl), h18, show ri (0 + (k : Int)) = k by unfold ri; omega]
    rw [hV, hA, bdX_mk]
    refine ⟨_, _, _, rfl, i_s hx (by omega), Md.up mI rfl, Md.up3 mA rfl, h17, ?_, fun i hi => ?_⟩
    · show (I1 18 + 1).toInt = _
      rw [i32_inc (by omega)]; omega
    · by_cases ei : i = k
      · rw [up3_at ei, ei]
      · rw [up3_ne ei]; exact ha i (by omega)
theorem x_set1 {I : Nat → Int32} {A : Nat → Nat → Int32} : ∃ A' : Nat → Nat → Int32, fX7_takeFrom_5 I A = (0, I, A') ∧ Md [10] A A' ∧ ∀ i : Nat, i < 4 → A' 10 i = A 16 i := by
  unfold fX7_takeFrom_5
  refine run_iIA (Q := fun r => ∃ A' : Nat → Nat → Int32, r = (0, I, A') ∧ Md [10] A A' ∧ ∀ i : Nat, i < 4 → A' 10 i = A 16 i) 4 (fun k x I1 A1 => x.toInt = (k : Int) ∧ I1 = I ∧ Md [10] A A1 ∧ ∀ i : Nat, i < k → A1 10 i = A 16 i) (fun G k x I1 A1 hk hP => ?_) FU 0 0 I A ⟨rfl, rfl, Md.rf, fun i hi => by omega⟩ (by omega) (fu_lt (by omega))
  obtain ⟨hx, eI, mA, ha⟩ := hP
  unfold bX7_takeFrom_5_2
  dsimp only [f_lt]
  by_cases c : 4 ≤ x.toInt
  · rw [if_pos c, eI]
    exact Or.inr ⟨A1, rfl, mA, fun i hi => ha i (by omega)⟩
  · rw [if_neg c]
    left
    refine ⟨by omega, ?_⟩
    have hV : fX7_valueOf_3 I1 A1 x = A 16 k := by
      unfold fX7_valueOf_3
      rw [if_neg (by omega), if_neg (by omega), clN hx, mA 16 rfl]
    rw [hV, clN hx]
    refine ⟨_, _, _, rfl, i_s hx (by omega), eI, Md.up3 mA rfl, fun i hi => ?_⟩
    by_cases ei : i = k
    · rw [up3_at ei, ei]
    · rw [up3_ne ei]; exact ha i (by omega)
theorem x_go1 {I : Nat → Int32} {A : Nat → Nat → Int32} {n : Nat} (h : (I 22).toInt = (n : Int)) (hn : n ≤ 160) : ∃ (I' : Nat → Int32) (A' : Nat → Nat → Int32), fX11_goOnFrom_2 I A = (0, I', A') ∧ Md [17, 18, 21] I I' ∧ Md [7, 10] A A' ∧ (I' 17).toInt = 0 ∧ (I' 18).toInt = (n : Int) ∧ (I' 21).toInt = 0 ∧ (∀ i : Nat, i < n → A' 7 i = A 15 i) ∧ ∀ i : Nat, i < 4 → A' 10 i = A 16 i := by
  obtain ⟨I1, A1, a1, a2, a3, a4, a5, a6⟩ := x_ser1 (A := A) h hn
  obtain ⟨A2, b1, b2, b3⟩ := x_set1 (I := I1) (A := A1)
  unfold fX11_goOnFrom_2 fX3_forget
  rw [a1, bdX_mk, b1, bdX_mk, bdX_mk]
  refine ⟨_, _, rfl, Md.up (Md.tr Md.rf a2 rfl) rfl, Md.tr (Md.tr Md.rf a3 rfl) b2 rfl, a4, a5, rfl, fun i hi => ?_, fun i hi => ?_⟩
  · rw [b2 7 rfl]; exact a6 i hi
  · rw [b3 i hi, a3 16 rfl]
theorem x_ser2 {I : Nat → Int32} {A : Nat → Nat → Int32} {n : Nat} (h : (I 24).toInt = (n : Int)) (hn : n ≤ 160) : ∃ (I' : Nat → Int32) (A' : Nat → Nat → Int32), fX6_takeFrom_3 I A = (0, I', A') ∧ Md [17, 18] I I' ∧ Md [7] A A' ∧ (I' 17).toInt = 0 ∧ (I' 18).toInt = (n : Int) ∧ ∀ i : Nat, i < n → A' 7 i = A 17 i := by
  unfold fX6_takeFrom_3
  refine run_iIA (Q := fun r => ∃ (I' : Nat → Int32) (A' : Nat → Nat → Int32), r = (0, I', A') ∧ Md [17, 18] I I' ∧ Md [7] A A' ∧ (I' 17).toInt = 0 ∧ (I' 18).toInt = (n : Int) ∧ ∀ i : Nat, i < n → A' 7 i = A 17 i) n (fun k x I1 A1 => x.toInt = (k : Int) ∧ Md [17, 18] I I1 ∧ Md [7] A A1 ∧ (I1 17).toInt = 0 ∧ (I1 18).toInt = (k : Int) ∧ ∀ i : Nat, i < k → A1 7 i = A 17 i) (fun G k x I1 A1 hk hP => ?_) FU 0 0 _ A ⟨rfl, Md.up (Md.up Md.rf rfl) rfl, Md.rf, rfl, rfl, fun i hi => by omega⟩ (by omega) (fu_lt (by omega))
  obtain ⟨hx, mI, mA, h17, h18, ha⟩ := hP
  unfold bX6_takeFrom_3_12
  dsimp only [f_lt]
  by_cases c : (I 24).toInt ≤ x.toInt
  · rw [if_pos c]
    have e : k = n := by omega
    subst e
    exact Or.inr ⟨I1, A1, rfl, mI, mA, h17, h18, ha⟩
  · rw [if_neg c]
    left
    refine ⟨by omega, ?_⟩
    have hV : fX8_valueAt_3 I1 A1 x = A 17 k := by
      unfold fX8_valueAt_3
      rw [if_neg (by omega), mI 24 rfl, if_neg (by omega), if_neg (by omega), clN hx, mA 17 rfl]
    have hA : fX6_append I1 A1 (A 17 k) = (1, upd I1 18 (I1 18 + 1), up3 A1 7 k (A 17 k)) := by
      unfold fX6_append
      dsimp only [f_lt]
      rw [if_pos (by omega), ri_and (fs := 0) (by rw [h17]; rfl), h18, show ri (0 + (k : Int)) = k by unfold ri; omega]
    rw [hV, hA, bdX_mk]
    refine ⟨_, _, _, rfl, i_s hx (by omega), Md.up mI rfl, Md.up3 mA rfl, h17, ?_, fun i hi => ?_⟩
    · show (I1 18 + 1).toInt = _
      rw [i32_inc (by omega)]; omega
    · by_cases ei : i = k
      · rw [up3_at ei, ei]
      · rw [up3_ne ei]; exact ha i (by omega)
theorem x_set2 {I : Nat → Int32} {A : Nat → Nat → Int32} : ∃ A' : Nat → Nat → Int32, fX7_takeFrom_6 I A = (0, I, A') ∧ Md [10] A A' ∧ ∀ i : Nat, i < 4 → A' 10 i = A 18 i := by
  unfold fX7_takeFrom_6
  refine run_iIA (Q := fun r => ∃ A' : Nat → Nat → Int32, r = (0, I, A') ∧ Md [10] A A' ∧ ∀ i : Nat, i < 4 → A' 10 i = A 18 i) 4 (fun k x I1 A1 => x.toInt = (k : Int) ∧ I1 = I ∧ Md [10] A A1 ∧ ∀ i : Nat, i < k → A1 10 i = A 18 i) (fun G k x I1 A1 hk hP => ?_) FU 0 0 I A ⟨rfl, rfl, Md.rf, fun i hi => by omega⟩ (by omega) (fu_lt (by omega))
  obtain ⟨hx, eI, mA, ha⟩ := hP
  unfold bX7_takeFrom_6_2
  dsimp only [f_lt]
  by_cases c : 4 ≤ x.toInt
  · rw [if_pos c, eI]
    exact Or.inr ⟨A1, rfl, mA, fun i hi => ha i (by omega)⟩
  · rw [if_neg c]
    left
    refine ⟨by omega, ?_⟩
    have hV : fX7_valueOf_4 I1 A1 x = A 18 k := by
      unfold fX7_valueOf_4
      rw [if_neg (by omega), if_neg (by omega), clN hx, mA 18 rfl]
    rw [hV, clN hx]
    refine ⟨_, _, _, rfl, i_s hx (by omega), eI, Md.up3 mA rfl, fun i hi => ?_⟩
    by_cases ei : i = k
    · rw [up3_at ei, ei]
    · rw [up3_ne ei]; exact ha i (by omega)
theorem x_go2 {I : Nat → Int32} {A : Nat → Nat → Int32} {n : Nat} (h : (I 24).toInt = (n : Int)) (hn : n ≤ 160) : ∃ (I' : Nat → Int32) (A' : Nat → Nat → Int32), fX11_goOnFrom_3 I A = (0, I', A') ∧ Md [17, 18, 21] I I' ∧ Md [7, 10] A A' ∧ (I' 17).toInt = 0 ∧ (I' 18).toInt = (n : Int) ∧ (I' 21).toInt = 0 ∧ (∀ i : Nat, i < n → A' 7 i = A 17 i) ∧ ∀ i : Nat, i < 4 → A' 10 i = A 18 i := by
  obtain ⟨I1, A1, a1, a2, a3, a4, a5, a6⟩ := x_ser2 (A := A) h hn
  obtain ⟨A2, b1, b2, b3⟩ := x_set2 (I := I1) (A := A1)
  unfold fX11_goOnFrom_3 fX3_forget
  rw [a1, bdX_mk, b1, bdX_mk, bdX_mk]
  refine ⟨_, _, rfl, Md.up (Md.tr Md.rf a2 rfl) rfl, Md.tr (Md.tr Md.rf a3 rfl) b2 rfl, a4, a5, rfl, fun i hi => ?_, fun i hi => ?_⟩
  · rw [b2 7 rfl]; exact a6 i hi
  · rw [b3 i hi, a3 18 rfl]
theorem x_ser3 {I : Nat → Int32} {A : Nat → Nat → Int32} {n : Nat} (h : (I 26).toInt = (n : Int)) (hn : n ≤ 160) : ∃ (I' : Nat → Int32) (A' : Nat → Nat → Int32), fX6_takeFrom_4 I A = (0, I', A') ∧ Md [17, 18] I I' ∧ Md [7] A A' ∧ (I' 17).toInt = 0 ∧ (I' 18).toInt = (n : Int) ∧ ∀ i : Nat, i < n → A' 7 i = A 19 i := by
  unfold fX6_takeFrom_4
  refine run_iIA (Q := fun r => ∃ (I' : Nat → Int32) (A' : Nat → Nat → Int32), r = (0, I', A') ∧ Md [17, 18] I I' ∧ Md [7] A A' ∧ (I' 17).toInt = 0 ∧ (I' 18).toInt = (n : Int) ∧ ∀ i : Nat, i < n → A' 7 i = A 19 i) n (fun k x I1 A1 => x.toInt = (k : Int) ∧ Md [17, 18] I I1 ∧ Md [7] A A1 ∧ (I1 17).toInt = 0 ∧ (I1 18).toInt = (k : Int) ∧ ∀ i : Nat, i < k → A1 7 i = A 19 i) (fun G k x I1 A1 hk hP => ?_) FU 0 0 _ A ⟨rfl, Md.up (Md.up Md.rf rfl) rfl, Md.rf, rfl, rfl, fun i hi => by omega⟩ (by omega) (fu_lt (by omega))
  obtain ⟨hx, mI, mA, h17, h18, ha⟩ := hP
  unfold bX6_takeFrom_4_12
  dsimp only [f_lt]
  by_cases c : (I 26).toInt ≤ x.toInt
  · rw [if_pos c]
    have e : k = n := by omega
    subst e
    exact Or.inr ⟨I1, A1, rfl, mI, mA, h17, h18, ha⟩
  · rw [if_neg c]
    left
    refine ⟨by omega, ?_⟩
    have hV : fX8_valueAt_4 I1 A1 x = A 19 k := by
      unfold fX8_valueAt_4
      rw [if_neg (by omega), mI 26 rfl, if_neg (by omega), if_neg (by omega), clN hx, mA 19 rfl]
    have hA : fX6_append I1 A1 (A 19 k) = (1, upd I1 18 (I1 18 + 1), up3 A1 7 k (A 19 k)) := by
      unfold fX6_append
      dsimp only [f_lt]
      rw [if_pos (by omega), ri_and (fs := 0) (by rw [h17]; rfl), h18, show ri (0 + (k : Int)) = k by unfold ri; omega]
    rw [hV, hA, bdX_mk]
    refine ⟨_, _, _, rfl, i_s hx (by omega), Md.up mI rfl, Md.up3 mA rfl, h17, ?_, fun i hi => ?_⟩
    · show (I1 18 + 1).toInt = _
      rw [i32_inc (by omega)]; omega
    · by_cases ei : i = k
      · rw [up3_at ei, ei]
      · rw [up3_ne ei]; exact ha i (by omega)
theorem x_set3 {I : Nat → Int32} {A : Nat → Nat → Int32} : ∃ A' : Nat → Nat → Int32, fX7_takeFrom_7 I A = (0, I, A') ∧ Md [10] A A' ∧ ∀ i : Nat, i < 4 → A' 10 i = A 20 i := by
  unfold fX7_takeFrom_7
  refine run_iIA (Q := fun r => ∃ A' : Nat → Nat → Int32, r = (0, I, A') ∧ Md [10] A A' ∧ ∀ i : Nat, i < 4 → A' 10 i = A 20 i) 4 (fun k x I1 A1 => x.toInt = (k : Int) ∧ I1 = I ∧ Md [10] A A1 ∧ ∀ i : Nat, i < k → A1 10 i = A 20 i) (fun G k x I1 A1 hk hP => ?_) FU 0 0 I A ⟨rfl, rfl, Md.rf, fun i hi => by omega⟩ (by omega) (fu_lt (by omega))
  obtain ⟨hx, eI, mA, ha⟩ := hP
  unfold bX7_takeFrom_7_2
  dsimp only [f_lt]
  by_cases c : 4 ≤ x.toInt
  · rw [if_pos c, eI]
    exact Or.inr ⟨A1, rfl, mA, fun i hi => ha i (by omega)⟩
  · rw [if_neg c]
    left
    refine ⟨by omega, ?_⟩
    have hV : fX7_valueOf_5 I1 A1 x = A 20 k := by
      unfold fX7_valueOf_5
      rw [if_neg (by omega), if_neg (by omega), clN hx, mA 20 rfl]
    rw [hV, clN hx]
    refine ⟨_, _, _, rfl, i_s hx (by omega), eI, Md.up3 mA rfl, fun i hi => ?_⟩
    by_cases ei : i = k
    · rw [up3_at ei, ei]
    · rw [up3_ne ei]; exact ha i (by omega)
theorem x_go3 {I : Nat → Int32} {A : Nat → Nat → Int32} {n : Nat} (h : (I 26).toInt = (n : Int)) (hn : n ≤ 160) : ∃ (I' : Nat → Int32) (A' : Nat → Nat → Int32), fX11_goOnFrom_4 I A = (0, I', A') ∧ Md [17, 18, 21] I I' ∧ Md [7, 10] A A' ∧ (I' 17).toInt = 0 ∧ (I' 18).toInt = (n : Int) ∧ (I' 21).toInt = 0 ∧ (∀ i : Nat, i < n → A' 7 i = A 19 i) ∧ ∀ i : Nat, i < 4 → A' 10 i = A 20 i := by
  obtain ⟨I1, A1, a1, a2, a3, a4, a5, a6⟩ := x_ser3 (A := A) h hn
  obtain ⟨A2, b1, b2, b3⟩ := x_set3 (I := I1) (A := A1)
  unfold fX11_goOnFrom_4 fX3_forget
  rw [a1, bdX_mk, b1, bdX_mk, bdX_mk]
  refine ⟨_, _, rfl, Md.up (Md.tr Md.rf a2 rfl) rfl, Md.tr (Md.tr Md.rf a3 rfl) b2 rfl, a4, a5, rfl, fun i hi => ?_, fun i hi => ?_⟩
  · rw [b2 7 rfl]; exact a6 i hi
  · rw [b3 i hi, a3 20 rfl]
theorem x_put0 {I : Nat → Int32} {A : Nat → Nat → Int32} {n : Nat} {fs : Int} (h17 : (I 17).toInt = fs % 256) (h : (I 18).toInt = (n : Int)) (hn : n ≤ 160) : ∃ (I' : Nat → Int32) (A' : Nat → Nat → Int32), fX6_copyInto I A = (0, I', A') ∧ Md [22] I I' ∧ Md [15] A A' ∧ (I' 22).toInt = (n : Int) ∧ ∀ i : Nat, i < n → A' 15 i = A 7 (ri (fs + i)) := by
  unfold fX6_copyInto
  refine run_iIA (Q := fun r => ∃ (I' : Nat → Int32) (A' : Nat → Nat → Int32), r = (0, I', A') ∧ Md [22] I I' ∧ Md [15] A A' ∧ (I' 22).toInt = (n : Int) ∧ ∀ i : Nat, i < n → A' 15 i = A 7 (ri (fs + i))) n (fun k x I1 A1 => x.toInt = (k : Int) ∧ Md [22] I I1 ∧ Md [15] A A1 ∧ (I1 22).toInt = (k : Int) ∧ ∀ i : Nat, i < k → A1 15 i = A 7 (ri (fs + i))) (fun G k x I1 A1 hk hP => ?_) FU 0 0 _ A ⟨rfl, Md.up Md.rf rfl, Md.rf, rfl, fun i hi => by omega⟩ (by omega) (fu_lt (by omega))
  obtain ⟨hx, mI, mA, h18, ha⟩ := hP
  unfold bX6_copyInto_7
  dsimp only [f_lt]
  by_cases c : (I 18).toInt ≤ x.toInt
  · rw [if_pos c]
    have e : k = n := by omega
    subst e
    exact Or.inr ⟨I1, A1, rfl, mI, mA, h18, ha⟩
  · rw [if_neg c]
    left
    refine ⟨by omega, ?_⟩
    have hV : fX6_valueAt I1 A1 x = A 7 (ri (fs + k)) := by
      rw [x_val (fs := fs) (by rw [mI 17 rfl]; exact h17) (by omega) (by rw [mI 18 rfl]; omega), mA 7 rfl, hx]
    have hA : fX8_append_2 I1 A1 (A 7 (ri (fs + k))) = (0, upd I1 22 (I1 22 + 1), up3 A1 15 k (A 7 (ri (fs + k)))) := by
      unfold fX8_append_2
      dsimp only [f_lt]
      rw [if_neg (by omega), if_neg (by omega), clN h18]
    rw [hV, hA, bdX_mk]
    refine ⟨_, _, _, rfl, i_s hx (by omega), Md.up mI rfl, Md.up3 mA rfl, ?_, fun i hi => ?_⟩
    · show (I1 22 + 1).toInt = _
      rw [i32_inc (by omega)]; omega
    · by_cases ei : i = k
      · rw [up3_at ei, ei]
      · rw [up3_ne ei]; exact ha i (by omega)
theorem x_puts0 {I : Nat → Int32} {A : Nat → Nat → Int32} : ∃ A' : Nat → Nat → Int32, fX7_takeFrom_2 I A = (0, I, A') ∧ Md [16] A A' ∧ ∀ i : Nat, i < 4 → A' 16 i = A 10 i := by
  unfold fX7_takeFrom_2
  refine run_iIA (Q := fun r => ∃ A' : Nat → Nat → Int32, r = (0, I, A') ∧ Md [16] A A' ∧ ∀ i : Nat, i < 4 → A' 16 i = A 10 i) 4 (fun k x I1 A1 => x.toInt = (k : Int) ∧ I1 = I ∧ Md [16] A A1 ∧ ∀ i : Nat, i < k → A1 16 i = A 10 i) (fun G k x I1 A1 hk hP => ?_) FU 0 0 I A ⟨rfl, rfl, Md.rf, fun i hi => by omega⟩ (by omega) (fu_lt (by omega))
  obtain ⟨hx, eI, mA, ha⟩ := hP
  unfold bX7_takeFrom_2_2
  dsimp only [f_lt]
  by_cases c : 4 ≤ x.toInt
  · rw [if_pos c, eI]
    exact Or.inr ⟨A1, rfl, mA, fun i hi => ha i (by omega)⟩
  · rw [if_neg c]
    left
    refine ⟨by omega, ?_⟩
    have hV : fX7_valueOf_2 I1 A1 x = A 10 k := by
      unfold fX7_valueOf_2
      rw [if_neg (by omega), if_neg (by omega), clN hx, mA 10 rfl]
    rw [hV, clN hx]
    refine ⟨_, _, _, rfl, i_s hx (by omega), eI, Md.up3 mA rfl, fun i hi => ?_⟩
    by_cases ei : i = k
    · rw [up3_at ei, ei]
    · rw [up3_ne ei]; exact ha i (by omega)
theorem x_put1 {I : Nat → Int32} {A : Nat → Nat → Int32} {n : Nat} {fs : Int} (h17 : (I 17).toInt = fs % 256) (h : (I 18).toInt = (n : Int)) (hn : n ≤ 160) : ∃ (I' : Nat → Int32) (A' : Nat → Nat → Int32), fX6_copyInto_2 I A = (0, I', A') ∧ Md [24] I I' ∧ Md [17] A A' ∧ (I' 24).toInt = (n : Int) ∧ ∀ i : Nat, i < n → A' 17 i = A 7 (ri (fs + i)) := by
  unfold fX6_copyInto_2
  refine run_iIA (Q := fun r => ∃ (I' : Nat → Int32) (A' : Nat → Nat → Int32), r = (0, I', A') ∧ Md [24] I I' ∧ Md [17] A A' ∧ (I' 24).toInt = (n : Int) ∧ ∀ i : Nat, i < n → A' 17 i = A 7 (ri (fs + i))) n (fun k x I1 A1 => x.toInt = (k : Int) ∧ Md [24] I I1 ∧ Md [17] A A1 ∧ (I1 24).toInt = (k : Int) ∧ ∀ i : Nat, i < k → A1 17 i = A 7 (ri (fs + i))) (fun G k x I1 A1 hk hP => ?_) FU 0 0 _ A ⟨rfl, Md.up Md.rf rfl, Md.rf, rfl, fun i hi => by omega⟩ (by omega) (fu_lt (by omega))
  obtain ⟨hx, mI, mA, h18, ha⟩ := hP
  unfold bX6_copyInto_2_7
  dsimp only [f_lt]
  by_cases c : (I 18).toInt ≤ x.toInt
  · rw [if_pos c]
    have e : k = n := by omega
    subst e
    exact Or.inr ⟨I1, A1, rfl, mI, mA, h18, ha⟩
  · rw [if_neg c]
    left
    refine ⟨by omega, ?_⟩
    have hV : fX6_valueAt I1 A1 x = A 7 (ri (fs + k)) := by
      rw [x_val (fs := fs) (by rw [mI 17 rfl]; exact h17) (by omega) (by rw [mI 18 rfl]; omega), mA 7 rfl, hx]
    have hA : fX8_append_3 I1 A1 (A 7 (ri (fs + k))) = (0, upd I1 24 (I1 24 + 1), up3 A1 17 k (A 7 (ri (fs + k)))) := by
      unfold fX8_append_3
      dsimp only [f_lt]
      rw [if_neg (by omega), if_neg (by omega), clN h18]
    rw [hV, hA, bdX_mk]
    refine ⟨_, _, _, rfl, i_s hx (by omega), Md.up mI rfl, Md.up3 mA rfl, ?_, fun i hi => ?_⟩
    · show (I1 24 + 1).toInt = _
      rw [i32_inc (by omega)]; omega
    · by_cases ei : i = k
      · rw [up3_at ei, ei]
      · rw [up3_ne ei]; exact ha i (by omega)
theorem x_puts1 {I : Nat → Int32} {A : Nat → Nat → Int32} : ∃ A' : Nat → Nat → Int32, fX7_takeFrom_3 I A = (0, I, A') ∧ Md [18] A A' ∧ ∀ i : Nat, i < 4 → A' 18 i = A 10 i := by
  unfold fX7_takeFrom_3
  refine run_iIA (Q := fun r => ∃ A' : Nat → Nat → Int32, r = (0, I, A') ∧ Md [18] A A' ∧ ∀ i : Nat, i < 4 → A' 18 i = A 10 i) 4 (fun k x I1 A1 => x.toInt = (k : Int) ∧ I1 = I ∧ Md [18] A A1 ∧ ∀ i : Nat, i < k → A1 18 i = A 10 i) (fun G k x I1 A1 hk hP => ?_) FU 0 0 I A ⟨rfl, rfl, Md.rf, fun i hi => by omega⟩ (by omega) (fu_lt (by omega))
  obtain ⟨hx, eI, mA, ha⟩ := hP
  unfold bX7_takeFrom_3_2
  dsimp only [f_lt]
  by_cases c : 4 ≤ x.toInt
  · rw [if_pos c, eI]
    exact Or.inr ⟨A1, rfl, mA, fun i hi => ha i (by omega)⟩
  · rw [if_neg c]
    left
    refine ⟨by omega, ?_⟩
    have hV : fX7_valueOf_2 I1 A1 x = A 10 k := by
      unfold fX7_valueOf_2
      rw [if_neg (by omega), if_neg (by omega), clN hx, mA 10 rfl]
    rw [hV, clN hx]
    refine ⟨_, _, _, rfl, i_s hx (by omega), eI, Md.up3 mA rfl, fun i hi => ?_⟩
    by_cases ei : i = k
    · rw [up3_at ei, ei]
    · rw [up3_ne ei]; exact ha i (by omega)
theorem x_put2 {I : Nat → Int32} {A : Nat → Nat → Int32} {n : Nat} {fs : Int} (h17 : (I 17).toInt = fs % 256) (h : (I 18).toInt = (n : Int)) (hn : n ≤ 160) : ∃ (I' : Nat → Int32) (A' : Nat → Nat → Int32), fX6_copyInto_3 I A = (0, I', A') ∧ Md [26] I I' ∧ Md [19] A A' ∧ (I' 26).toInt = (n : Int) ∧ ∀ i : Nat, i < n → A' 19 i = A 7 (ri (fs + i)) := by
  unfold fX6_copyInto_3
  refine run_iIA (Q := fun r => ∃ (I' : Nat → Int32) (A' : Nat → Nat → Int32), r = (0, I', A') ∧ Md [26] I I' ∧ Md [19] A A' ∧ (I' 26).toInt = (n : Int) ∧ ∀ i : Nat, i < n → A' 19 i = A 7 (ri (fs + i))) n (fun k x I1 A1 => x.toInt = (k : Int) ∧ Md [26] I I1 ∧ Md [19] A A1 ∧ (I1 26).toInt = (k : Int) ∧ ∀ i : Nat, i < k → A1 19 i = A 7 (ri (fs + i))) (fun G k x I1 A1 hk hP => ?_) FU 0 0 _ A ⟨rfl, Md.up Md.rf rfl, Md.rf, rfl, fun i hi => by omega⟩ (by omega) (fu_lt (by omega))
  obtain ⟨hx, mI, mA, h18, ha⟩ := hP
  unfold bX6_copyInto_3_7
  dsimp only [f_lt]
  by_cases c : (I 18).toInt ≤ x.toInt
  · rw [if_pos c]
    have e : k = n := by omega
    subst e
    exact Or.inr ⟨I1, A1, rfl, mI, mA, h18, ha⟩
  · rw [if_neg c]
    left
    refine ⟨by omega, ?_⟩
    have hV : fX6_valueAt I1 A1 x = A 7 (ri (fs + k)) := by
      rw [x_val (fs := fs) (by rw [mI 17 rfl]; exact h17) (by omega) (by rw [mI 18 rfl]; omega), mA 7 rfl, hx]
    have hA : fX8_append_4 I1 A1 (A 7 (ri (fs + k))) = (0, upd I1 26 (I1 26 + 1), up3 A1 19 k (A 7 (ri (fs + k)))) := by
      unfold fX8_append_4
      dsimp only [f_lt]
      rw [if_neg (by omega), if_neg (by omega), clN h18]
    rw [hV, hA, bdX_mk]
    refine ⟨_, _, _, rfl, i_s hx (by omega), Md.up mI rfl, Md.up3 mA rfl, ?_, fun i hi => ?_⟩
    · show (I1 26 + 1).toInt = _
      rw [i32_inc (by omega)]; omega
    · by_cases ei : i = k
      · rw [up3_at ei, ei]
      · rw [up3_ne ei]; exact ha i (by omega)
theorem x_puts2 {I : Nat → Int32} {A : Nat → Nat → Int32} : ∃ A' : Nat → Nat → Int32, fX7_takeFrom_4 I A = (0, I, A') ∧ Md [20] A A' ∧ ∀ i : Nat, i < 4 → A' 20 i = A 10 i := by
  unfold fX7_takeFrom_4
  refine run_iIA (Q := fun r => ∃ A' : Nat → Nat → Int32, r = (0, I, A') ∧ Md [20] A A' ∧ ∀ i : Nat, i < 4 → A' 20 i = A 10 i) 4 (fun k x I1 A1 => x.toInt = (k : Int) ∧ I1 = I ∧ Md [20] A A1 ∧ ∀ i : Nat, i < k → A1 20 i = A 10 i) (fun G k x I1 A1 hk hP => ?_) FU 0 0 I A ⟨rfl, rfl, Md.rf, fun i hi => by omega⟩ (by omega) (fu_lt (by omega))
  obtain ⟨hx, eI, mA, ha⟩ := hP
  unfold bX7_takeFrom_4_2
  dsimp only [f_lt]
  by_cases c : 4 ≤ x.toInt
  · rw [if_pos c, eI]
    exact Or.inr ⟨A1, rfl, mA, fun i hi => ha i (by omega)⟩
  · rw [if_neg c]
    left
    refine ⟨by omega, ?_⟩
    have hV : fX7_valueOf_2 I1 A1 x = A 10 k := by
      unfold fX7_valueOf_2
      rw [if_neg (by omega), if_neg (by omega), clN hx, mA 10 rfl]
    rw [hV, clN hx]
    refine ⟨_, _, _, rfl, i_s hx (by omega), eI, Md.up3 mA rfl, fun i hi => ?_⟩
    by_cases ei : i = k
    · rw [up3_at ei, ei]
    · rw [up3_ne ei]; exact ha i (by omega)
end
section
theorem m_begE0 {J : Nat → Int32} {B : Nat → Nat → Int32} {L : Nat → Nat → Int64} {n : Nat} (h : (J 15).toInt = 0) (h8 : (B 8 0).toInt = (n : Int)) (hn : n ≤ 160) : ∃ B2 : Nat → Nat → Int32, itr_iIAL dfM (bM12_begins_39 J B) FU 0 J (up3 (up2 B 18 (cpo (fun _ => 0) (B 18) 0 165)) 18 0 (B 8 0)) L = (0, J, B2, L) ∧ Md [18] B B2 ∧ B2 18 0 = B 8 0 ∧ (∀ i : Nat, i < n → B2 18 (1 + i) = B 9 (0 + i)) ∧ B2 18 161 = B 13 0 ∧ B2 18 162 = B 14 0 ∧ B2 18 163 = B 15 0 ∧ B2 18 164 = B 16 0 := by
  refine run_iIAL (Q := fun r => ∃ B2 : Nat → Nat → Int32, r = (0, J, B2, L) ∧ Md [18] B B2 ∧ B2 18 0 = B 8 0 ∧ (∀ i : Nat, i < n → B2 18 (1 + i) = B 9 (0 + i)) ∧ B2 18 161 = B 13 0 ∧ B2 18 162 = B 14 0 ∧ B2 18 163 = B 15 0 ∧ B2 18 164 = B 16 0) n (fun k x J1 B1 L1 => x.toInt = (k : Int) ∧ J1 = J ∧ L1 = L ∧ Md [18] B B1 ∧ B1 18 0 = B 8 0 ∧ (∀ i : Nat, i < k → B1 18 (1 + i) = B 9 (0 + i))) (fun G k x J1 B1 L1 hk hP => ?_) FU 0 0 J _ L ⟨rfl, rfl, rfl, Md.up3 (Md.up2 Md.rf rfl) rfl, up3_at rfl, fun i hi => by omega⟩ (by omega) (fu_lt (by omega))
  obtain ⟨hx, eJ, eL, mB, h0, hi⟩ := hP
  unfold bM12_begins_39
  simp only [h, ↓reduceIte, f_lt]
  rw [h0]
  by_cases c : (B 8 0).toInt ≤ x.toInt
  · rw [if_pos c, eJ, eL]
    refine Or.inr ⟨_, rfl, Md.up3 (Md.up3 (Md.up3 (Md.up3 mB rfl) rfl) rfl) rfl, ?_, fun i hi2 => ?_, ?_, ?_, ?_, ?_⟩
    · rw [up3_ne (by omega), up3_ne (by omega), up3_ne (by omega), up3_ne (by omega)]; exact h0
    · rw [up3_ne (by omega), up3_ne (by omega), up3_ne (by omega), up3_ne (by omega)]; exact hi i (by omega)
    · rw [up3_ne (by omega), up3_ne (by omega), up3_ne (by omega), up3_at rfl]
    · rw [up3_ne (by omega), up3_ne (by omega), up3_at rfl]
    · rw [up3_ne (by omega), up3_at rfl]
    · rw [up3_at rfl]
  · rw [if_neg c]
    left
    refine ⟨by omega, ?_⟩
    have e1 : (1 + x).toInt = ((1 + k : Nat) : Int) := by
      have := i32_add (x := 1) (y := x) (a := 1) rfl rfl hx (by omega) (by omega)
      omega
    have e2 : (0 + x).toInt = ((0 + k : Nat) : Int) := by
      have := i32_add (x := 0) (y := x) (a := 0) rfl rfl hx (by omega) (by omega)
      omega
    rw [clN e1, clN e2]
    refine ⟨_, _, _, _, rfl, i_s hx (by omega), eJ, eL, Md.up3 mB rfl, ?_, fun i hi2 => ?_⟩
    · rw [up3_ne (by omega)]; exact h0
    · by_cases ei : i = k
      · rw [up3_at (by omega), ei]
      · rw [up3_ne (by omega)]; exact hi i (by omega)
theorem m_begE1 {J : Nat → Int32} {B : Nat → Nat → Int32} {L : Nat → Nat → Int64} {n : Nat} (h : (J 15).toInt = 1) (h8 : (B 8 1).toInt = (n : Int)) (hn : n ≤ 160) : ∃ B2 : Nat → Nat → Int32, itr_iIAL dfM (bM12_begins_39x J B) FU 0 J (up3 (up2 B 18 (cpo (fun _ => 0) (B 18) 0 165)) 18 0 (B 8 1)) L = (0, J, B2, L) ∧ Md [18] B B2 ∧ B2 18 0 = B 8 1 ∧ (∀ i : Nat, i < n → B2 18 (1 + i) = B 9 (160 + i)) ∧ B2 18 161 = B 13 1 ∧ B2 18 162 = B 14 1 ∧ B2 18 163 = B 15 1 ∧ B2 18 164 = B 16 1 := by
  refine run_iIAL (Q := fun r => ∃ B2 : Nat → Nat → Int32, r = (0, J, B2, L) ∧ Md [18] B B2 ∧ B2 18 0 = B 8 1 ∧ (∀ i : Nat, i < n → B2 18 (1 + i) = B 9 (160 + i)) ∧ B2 18 161 = B 13 1 ∧ B2 18 162 = B 14 1 ∧ B2 18 163 = B 15 1 ∧ B2 18 164 = B 16 1) n (fun k x J1 B1 L1 => x.toInt = (k : Int) ∧ J1 = J ∧ L1 = L ∧ Md [18] B B1 ∧ B1 18 0 = B 8 1 ∧ (∀ i : Nat, i < k → B1 18 (1 + i) = B 9 (160 + i))) (fun G k x J1 B1 L1 hk hP => ?_) FU 0 0 J _ L ⟨rfl, rfl, rfl, Md.up3 (Md.up2 Md.rf rfl) rfl, up3_at rfl, fun i hi => by omega⟩ (by omega) (fu_lt (by omega))
  obtain ⟨hx, eJ, eL, mB, h0, hi⟩ := hP
  unfold bM12_begins_39x
  simp only [h, ↓reduceIte, f_lt]
  rw [h0]
  by_cases c : (B 8 1).toInt ≤ x.toInt
  · rw [if_pos c, eJ, eL]
    refine Or.inr ⟨_, rfl, Md.up3 (Md.up3 (Md.up3 (Md.up3 mB rfl) rfl) rfl) rfl, ?_, fun i hi2 => ?_, ?_, ?_, ?_, ?_⟩
    · rw [up3_ne (by omega), up3_ne (by omega), up3_ne (by omega), up3_ne (by omega)]; exact h0
    · rw [up3_ne (by omega), up3_ne (by omega), up3_ne (by omega), up3_ne (by omega)]; exact hi i (by omega)
    · rw [up3_ne (by omega), up3_ne (by omega), up3_ne (by omega), up3_at rfl]
    · rw [up3_ne (by omega), up3_ne (by omega), up3_at rfl]
    · rw [up3_ne (by omega), up3_at rfl]
    · rw [up3_at rfl]
  · rw [if_neg c]
    left
    refine ⟨by omega, ?_⟩
    have e1 : (1 + x).toInt = ((1 + k : Nat) : Int) := by
      have := i32_add (x := 1) (y := x) (a := 1) rfl rfl hx (by omega) (by omega)
      omega
    have e2 : (160 + x).toInt = ((160 + k : Nat) : Int) := by
      have := i32_add (x := 160) (y := x) (a := 160) rfl rfl hx (by omega) (by omega)
      omega
    rw [clN e1, clN e2]
    refine ⟨_, _, _, _, rfl, i_s hx (by omega), eJ, eL, Md.up3 mB rfl, ?_, fun i hi2 => ?_⟩
    · rw [up3_ne (by omega)]; exact h0
    · by_cases ei : i = k
      · rw [up3_at (by omega), ei]
      · rw [up3_ne (by omega)]; exact hi i (by omega)
theorem m_begE {J : Nat → Int32} {B : Nat → Nat → Int32} {L : Nat → Nat → Int64} {σ n : Nat} (h : (J 15).toInt = (σ : Int)) (hσ : σ ≤ 1) (h8 : (B 8 σ).toInt = (n : Int)) (hn : n ≤ 160) : ∃ B2 : Nat → Nat → Int32, fM12_begins J B L = (0, J, B2, L) ∧ Md [18] B B2 ∧ B2 18 0 = B 8 σ ∧ (∀ i : Nat, i < n → B2 18 (1 + i) = B 9 (160 * σ + i)) ∧ B2 18 161 = B 13 σ ∧ B2 18 162 = B 14 σ ∧ B2 18 163 = B 15 σ ∧ B2 18 164 = B 16 σ := by
  unfold fM12_begins
  have hc : σ = 0 ∨ σ = 1 := by omega
  rcases hc with e | e
  · subst e
    rw [if_pos (show (J 15).toInt = 0 from h)]
    exact m_begE0 h h8 hn
  · subst e
    rw [if_neg (by omega), if_pos (show (J 15).toInt = 1 from h)]
    exact m_begE1 h h8 hn
theorem nar0 : (vp_nar .boolean 0).toInt = 0 := by decide +kernel
theorem nar1 : (vp_nar .boolean 1).toInt = 1 := by decide +kernel
theorem m_224E {J : Nat → Int32} {B : Nat → Nat → Int32} {L : Nat → Nat → Int64} : ∃ B2 : Nat → Nat → Int32, itr_iIAL dfM bM12_read_224 FU 0 J B L = (0, J, B2, L) ∧ Md [27] B B2 ∧ ∀ s, s < 3 → (B2 27 s).toInt = 0 := by
  refine run_iIAL (Q := fun r => ∃ B2 : Nat → Nat → Int32, r = (0, J, B2, L) ∧ Md [27] B B2 ∧ ∀ s, s < 3 → (B2 27 s).toInt = 0) 3 (fun k x J1 B1 L1 => x.toInt = (k : Int) ∧ J1 = J ∧ L1 = L ∧ Md [27] B B1 ∧ ∀ s, s < k → (B1 27 s).toInt = 0) (fun G k x J1 B1 L1 hk hP => ?_) FU 0 0 J B L ⟨rfl, rfl, rfl, Md.rf, fun i hi => by omega⟩ (by omega) (fu_lt (by omega))
  obtain ⟨hx, eJ, eL, mB, hi⟩ := hP
  unfold bM12_read_224
  dsimp only [f_lt]
  by_cases c : 3 ≤ x.toInt
  · rw [if_pos c, eJ, eL]
    exact Or.inr ⟨_, rfl, mB, fun s hs => hi s (by omega)⟩
  · rw [if_neg c, clN hx]
    left
    refine ⟨by omega, _, _, _, _, rfl, i_s hx (by omega), eJ, eL, Md.up3 mB rfl, fun s hs => ?_⟩
    by_cases e : s = k
    · rw [up3_at e]; exact nar0
    · rw [up3_ne e]; exact hi s (by omega)
/-- a text without a fault: what the reference goes on from -/
theorem m_sucE {J : Nat → Int32} {B : Nat → Nat → Int32} {L : Nat → Nat → Int64} {σ n : Nat} (hσ : σ ≤ 1) (h8 : (B 8 σ).toInt = (n : Int)) (hn : n ≤ 160) : ∃ (J2 : Nat → Int32) (B2 : Nat → Nat → Int32), SUC σ J B L = (0, J2, B2, L) ∧ Md [10, 14, 15, 22] J J2 ∧ J2 10 = -1 ∧ J2 14 = -1 ∧ (J2 15).toInt = (σ : Int) ∧ (J2 22).toInt = 0 ∧ Md [17, 18, 27] B B2 ∧ (∀ s, s < 3 → (B2 27 s).toInt = 0) ∧ B2 17 0 = B 8 σ ∧ (∀ i : Nat, i < n → B2 17 (1 + i) = B 9 (160 * σ + i)) ∧ B2 17 161 = B 13 σ ∧ B2 17 162 = B 14 σ ∧ B2 17 163 = B 15 σ ∧ B2 17 164 = B 16 σ := by
  obtain ⟨s, hs, hj⟩ : ∃ s : Int32, s.toInt = (σ : Int) ∧ SUC σ J B L = f_bdM (fM12_begins (upd (upd (upd J 10 (-1)) 14 (-1)) 15 s) B L) (fun _ J1 B1 L1 => f_bdM (fM12_keepsRow J1 B1 L1) (fun _ J2 B2 L2 => itr_iIAL dfM (bM12_read_224) FU 0 (upd J2 22 0) B2 L2)) := by
    have hc : σ = 0 ∨ σ = 1 := by omega
    rcases hc with e | e
    · subst e
      refine ⟨0, rfl, ?_⟩
      unfold SUC
      rw [if_neg (by decide), m_224x]
    · subst e
      refine ⟨1, rfl, ?_⟩
      unfold SUC
      rw [if_pos rfl]
  obtain ⟨B1, b1, b2, b3, b4, b5, b6, b7, b8⟩ := m_begE (J := upd (upd (upd J 10 (-1)) 14 (-1)) 15 s) (B := B) (L := L) (σ := σ) hs hσ h8 hn
  rw [hj, b1, bdM_mk]
  unfold fM12_keepsRow
  rw [bdM_mk]
  obtain ⟨B2, c1, c2, c3⟩ := m_224E (J := upd (upd (upd (upd J 10 (-1)) 14 (-1)) 15 s) 22 0) (B := up2 B1 17 (cpo (B1 18) (B1 17) 0 165)) (L := L)
  have q : ∀ k, k < 165 → B2 17 k = B1 18 k := fun k hk => by
    rw [c2 17 rfl]
    show cpo (B1 18) (B1 17) 0 165 k = B1 18 k
    rw [cpo_in (by omega) (by omega)]; rfl
  refine ⟨_, B2, c1, Md.up (Md.up (Md.up (Md.up Md.rf rfl) rfl) rfl) rfl, rfl, rfl, hs, rfl, Md.tr (Md.up2 (Md.tr Md.rf b2 rfl) rfl) c2 rfl, c3, ?_, fun i hi => ?_, ?_, ?_, ?_, ?_⟩
  · rw [q 0 (by omega), b3]
  · rw [q (1 + i) (by omega), b4 i hi]
  · rw [q 161 (by omega), b5]
  · rw [q 162 (by omega), b6]
  · rw [q 163 (by omega), b7]
  · rw [q 164 (by omega), b8]
theorem x_47E {y : Int32} {I : Nat → Int32} {A : Nat → Nat → Int32} : itr_iIA dfX (bX11_read_47 y) FU 0 I A = (y, upd (upd (upd I 23 0) 25 0) 27 0, A) := by
  have e : ∀ (m : Nat) (x : Int32) (I : Nat → Int32), itr_iIA dfX (bX11_read_47 y) (m + 1) x I A = bX11_read_47 y (itr_iIA dfX (bX11_read_47 y) m) x I A := fun _ _ _ => rfl
  obtain ⟨m, hm⟩ : ∃ m, FU = m + 1 + 1 + 1 + 1 := ⟨FU - 4, by have := FU_eq; omega⟩
  rw [hm, e]
  generalize hG : itr_iIA dfX (bX11_read_47 y) (m + 1 + 1 + 1) = G
  show G 1 (upd I 23 0) A = _
  rw [← hG, e]
  generalize hG2 : itr_iIA dfX (bX11_read_47 y) (m + 1 + 1) = G2
  show G2 2 (upd (upd I 23 0) 25 0) A = _
  rw [← hG2, e]
  generalize hG3 : itr_iIA dfX (bX11_read_47 y) (m + 1) = G3
  show G3 3 (upd (upd (upd I 23 0) 25 0) 27 0) A = _
  rw [← hG3, e]
  generalize itr_iIA dfX (bX11_read_47 y) m = G4
  rfl
/-- the QUERIES are alike -/
def QS (I : Nat → Int32) (A : Nat → Nat → Int32) (J : Nat → Int32) (B : Nat → Nat → Int32) : Prop := ∃ σ nq : Nat, (J 15).toInt = (σ : Int) ∧ σ ≤ 1 ∧ (I 19).toInt = (nq : Int) ∧ (B 10 σ).toInt = (nq : Int) ∧ nq ≤ 5 ∧ ∀ q : Nat, q < nq → A 9 q = B 11 (5 * σ + q) ∧ 2 ≤ (A 9 q).toInt ∧ (A 9 q).toInt ≤ 16 ∧ ∀ i : Nat, (i : Int) < (A 9 q).toInt → A 8 (16 * q + i) = B 12 (80 * σ + (16 * q + i)) ∧ -999 ≤ (A 8 (16 * q + i)).toInt ∧ (A 8 (16 * q + i)).toInt ≤ 999
theorem QS.keep {I I' J J' : Nat → Int32} {A A' B B' : Nat → Nat → Int32} (h : QS I A J B) (i19 : I' 19 = I 19) (a8 : A' 8 = A 8) (a9 : A' 9 = A 9) (j15 : J' 15 = J 15) (b10 : B' 10 = B 10) (b11 : B' 11 = B 11) (b12 : B' 12 = B 12) : QS I' A' J' B' := by
  unfold QS at *
  rw [i19, a8, a9, j15, b10, b11, b12]; exact h
/-- a SLOT is alike -/
def SL (s : Nat) (I : Nat → Int32) (A B : Nat → Nat → Int32) : Prop := ((I (23 + 2 * s)).toInt ≠ 0 ↔ (B 27 s).toInt ≠ 0) ∧ ((I (23 + 2 * s)).toInt ≠ 0 → Rep 0 (I (22 + 2 * s)).toInt (A (15 + 2 * s)) (A (16 + 2 * s)) (fun k => B 28 (165 * s + k)))
def SLS (I : Nat → Int32) (A B : Nat → Nat → Int32) : Prop := SL 0 I A B ∧ SL 1 I A B ∧ SL 2 I A B
theorem SL.keep {s : Nat} {I I' : Nat → Int32} {A A' B B' : Nat → Nat → Int32} (h : SL s I A B) (i0 : I' (22 + 2 * s) = I (22 + 2 * s)) (i1 : I' (23 + 2 * s) = I (23 + 2 * s)) (a0 : A' (15 + 2 * s) = A (15 + 2 * s)) (a1 : A' (16 + 2 * s) = A (16 + 2 * s)) (b0 : B' 27 s = B 27 s) (b1 : ∀ k, k < 165 → B' 28 (165 * s + k) = B 28 (165 * s + k)) : SL s I' A' B' := by
  unfold SL at *
  rw [i0, i1, a0, a1, b0]
  exact ⟨h.1, fun h9 => (h.2 h9).cg b1⟩
theorem SLS.keep {I I' : Nat → Int32} {A A' B B' : Nat → Nat → Int32} (h : SLS I A B) (i22 : I' 22 = I 22) (i23 : I' 23 = I 23) (i24 : I' 24 = I 24) (i25 : I' 25 = I 25) (i26 : I' 26 = I 26) (i27 : I' 27 = I 27) (a15 : A' 15 = A 15) (a16 : A' 16 = A 16) (a17 : A' 17 = A 17) (a18 : A' 18 = A 18) (a19 : A' 19 = A 19) (a20 : A' 20 = A 20) (b27 : B' 27 = B 27) (b28 : B' 28 = B 28) : SLS I' A' B' :=
  ⟨h.1.keep i22 i23 a15 a16 (by rw [b27]) (fun k _ => by rw [b28]), h.2.1.keep i24 i25 a17 a18 (by rw [b27]) (fun k _ => by rw [b28]), h.2.2.keep i26 i27 a19 a20 (by rw [b27]) (fun k _ => by rw [b28])⟩
end
section
/-- a whole text: series, what is set, QUERIES, SLOTS and what can be undone alike -/
theorem read_st {I I' J J' : Nat → Int32} {A A' B B' : Nat → Nat → Int32} {M M' : Nat → Nat → Int64} {v w : Int32} (h : RT I A J B M) (hHS : HS I A J B) (hQ : QS I A J B) (hL9 : SLS I A B) (hI : IvX I A) (hJ : IvM J B) (eX : FE (fX11_read I A) (v, I', A')) (eM : FE (fM12_read J B M) (w, J', B', M')) : HS I' A' J' B' ∧ QS I' A' J' B' ∧ SLS I' A' B' := by
  obtain ⟨hT, hL⟩ := h
  have h0 := IvX_f0 hI
  have h15 := IvM_f15 hJ
  have eX2 : fX11_read I A = (v, I', A') := eX
  have eM2 : fM12_read J B M = (w, J', B', M') := eM
  have hc0 := cl_int (y := I 0) h0.1
  obtain ⟨n, hn⟩ : ∃ n : Nat, n = (I 0).toNatClampNeg := ⟨_, rfl⟩
  have hnI : (I 0).toInt = (n : Int) := by omega
  have hnJ : (J 1).toInt = (n : Int) := by rw [← hT.1]; exact hnI
  have hn2 : n ≤ 2000 := by omega
  -- the sides
  obtain ⟨σ, s, hs⟩ : ∃ (σ : Nat) (s : Int32), ((J 15).toInt = 0 ∧ σ = 1 ∧ s = 1) ∨ ((J 15).toInt = 1 ∧ σ = 0 ∧ s = 0) := by
    by_cases c : (J 15).toInt = 0
    · exact ⟨1, 1, Or.inl ⟨c, rfl, rfl⟩⟩
    · exact ⟨0, 0, Or.inr ⟨by omega, rfl, rfl⟩⟩
  have hσ : σ ≤ 1 := by rcases hs with h | h <;> omega
  have hss : s.toInt = (σ : Int) := by rcases hs with ⟨_, a, b⟩ | ⟨_, a, b⟩ <;> rw [a, b] <;> rfl
  -- the reference: copy and cut
  obtain ⟨B2, mB2, hB2, e1⟩ := m_copy (J := J) (B := B) (M := M) (σ := σ) (s := s) hnJ hn2 hs FU 0 0 B rfl (by omega) (by have := FU_eq; omega) Md.rf (fun j hj => by omega)
  have e2 : fM12_read J B M = RDM σ s J B2 M := e1
  have hf : ∀ j, j < n → (B2 1 j &&& 255).toInt = bt A j := fun j hj => by
    rw [hB2 j hj, ← hT.2 j (by omega)]; rfl
  obtain ⟨J3, B3, L3, c, pos, k1, k2, k3, k4, k5, k6, k7, k8, k9, k10⟩ := m_cut (J := upd (upd J 2 (J 1)) 1 0) (B := B2) (L := M) (f := bt A) (n := n) hnJ hn2 hf FU 0 (upd (upd (upd J 2 (J 1)) 1 0) 3 0) B2 M 0 0 0 (fun _ => 0) rfl (by omega) rfl (by omega) (Md.up Md.rf rfl) Md.rf Md.rf rfl rfl (fun _ _ => Nat.zero_le n) (Nat.le_refl _) (fun j a b => by omega) (fun t ht => by omega) (by have := FU_eq; omega)
  have e3 : fM12_cut (upd (upd J 2 (J 1)) 1 0) B2 M = (0, J3, B3, L3) := k1
  unfold RDM at e2
  rw [e3, bdM_mk] at e2
  have lk3 : LK L3 := fun k hk => by rw [k4 6 rfl]; exact hL k hk
  have hE : ENV n c pos A (bin B3 σ) L3 := by
    refine ⟨hn2, fun j hj => ?_, lk3, k8, fun u hu => ?_, k10, k6⟩
    · rw [hT.2 j (by omega)]
      exact (i32_mask 8 rfl (by decide) (by decide)).1
    · obtain ⟨s9, cl9, h9⟩ := k9 u hu
      exact ⟨s9, cl9, h9.cg rfl rfl rfl⟩
  -- the class begins
  obtain ⟨Ac, hAc⟩ : ∃ Ac, Ac = up3 (up3 (up3 (up3 A 2 0 2) 2 1 0) 2 2 0) 2 3 8 := ⟨_, rfl⟩
  obtain ⟨Ib, hIb⟩ : ∃ Ib, Ib = upd (upd (upd (upd (upd (upd (upd (upd (upd (upd (upd I 14 0) 16 0) 6 0) 8 0) 9 (-2)) 10 0) 11 0) 12 (-1)) 13 (-1)) 5 0) 4 0 := ⟨_, rfl⟩
  have hA0 : Ac 0 = A 0 := by rw [hAc]; rfl
  obtain ⟨I1, s1, e1', c1, n1, n2, n3, n4⟩ := x_next (I := Ib) (A := Ac) (n := n) (p := pos 0) (by rw [hIb]; exact hnI) hn2 (fun j hj => by rw [hA0]; exact hE.2.1 j hj) (by rw [hIb, k7]; rfl) (by rw [k7]; omega)
  have eb : fX5_begin I A = (0, I1, Ac) := by
    have e8 : fX8_clear I A = (0, upd I 14 0, Ac) := by
      unfold fX8_clear
      rw [x_clear7, ← hAc]; rfl
    rw [hIb] at n1
    have e9 : fX10_toFirstToken (upd (upd (upd (upd (upd (upd (upd (upd (upd I 14 0) 16 0) 6 0) 8 0) 9 (-2)) 10 0) 11 0) 12 (-1)) 13 (-1)) Ac = (0, I1, Ac) := by
      unfold fX10_toFirstToken
      rw [n1]; rfl
    unfold fX5_begin
    rw [e8, bdX_mk, e9]; rfl
  have hc1 : 0 < c := by
    rcases k10 with h9 | ⟨u, h9, -⟩ <;> omega
  have hH : HAND n c pos A I1 Ac 0 := ⟨hA0, by rw [n2 0 rfl, hIb]; exact hnI, by rw [n3, hIb]; rfl, hc1, by omega, s1, e1', c1, n4⟩
  have i2 : 0 ≤ (I1 2).toInt := by rw [n4.2.2.1]; omega
  have g : ∀ k, [1, 2, 3, 4, 5].contains k = false → I1 k = Ib k := n2
  have hS : ST0 n c pos A (bin B3 σ) L3 (jin J3 s) σ 0 I1 Ac (jin J3 s) (bin B3 σ) L3 0 := by
    refine ⟨⟨hH, Md.rf, Md.rf, Md.rf, ⟨rfl, fun _ _ => rfl, fun _ _ => rfl⟩, rfl, rfl, by rw [g 10 rfl, hIb]; rfl, hss, hσ⟩, ?_, ?_, ?_, by rw [g 6 rfl, hIb]; rfl, by rw [g 9 rfl, hIb]; rfl, rfl, by rw [g 8 rfl, hIb]; rfl, by rw [g 16 rfl, hIb]; rfl⟩
    · have z11 : I1 11 = 0 := by rw [g 11 rfl, hIb]; rfl
      refine ⟨by rw [z11]; rfl, by rw [z11]; decide, fun _ => ⟨by rw [g 12 rfl, hIb]; rfl, by rw [g 13 rfl, hIb]; rfl⟩, fun h9 => absurd (show (I1 11).toInt = 0 by rw [z11]; rfl) h9⟩
    · have z14 : I1 14 = 0 := by rw [g 14 rfl, hIb]; rfl
      refine ⟨?_, by rw [z14]; decide, by rw [z14]; decide, fun j hj => absurd (show (j : Int) < (0 : Int32).toInt by rw [← z14]; exact hj) (by have : (0 : Int32).toInt = 0 := rfl; omega), ?_, fun _ => ?_⟩
      · rw [z14]
        unfold bin
        rw [up3_o (by decide), up3_o (by decide), up3_o (by decide), up3_o (by decide), up3_o (by decide)]; exact up3_at rfl
      · rw [hAc]
        unfold bin
        refine ⟨?_, ?_, ?_, ?_⟩
        · rw [up3_o (by decide), up3_o (by decide), up3_o (by decide), up3_at rfl]; rfl
        · rw [up3_o (by decide), up3_o (by decide), up3_at rfl]; rfl
        · rw [up3_o (by decide), up3_at rfl]; rfl
        · rw [up3_at rfl]; rfl
      · rw [hAc]
        exact ⟨⟨(by decide : 0 ≤ (2 : Int32).toInt), (by decide : (2 : Int32).toInt ≤ 15)⟩, ⟨(by decide : 0 ≤ (0 : Int32).toInt), (by decide : (0 : Int32).toInt ≤ 3)⟩, ⟨(by decide : 0 ≤ (0 : Int32).toInt), (by decide : (0 : Int32).toInt ≤ 1)⟩, ⟨(by decide : 1 ≤ (8 : Int32).toInt), (by decide : (8 : Int32).toInt ≤ 99)⟩⟩
    · refine ⟨?_, rfl, by omega, fun q hq => by omega⟩
      unfold bin
      rw [up3_o (by decide), up3_o (by decide), up3_o (by decide), up3_o (by decide), up3_at rfl]; rfl
  have hO := sim_all hE FU I1 Ac (jin J3 s) (bin B3 σ) L3 0 0 hS (by have := FU_eq; omega)
  rw [← e2, eM2] at hO
  have i14 : I1 4 = 1 := by rw [n3, hIb]; rfl
  have run : ∀ (k : Int32) (If : Nat → Int32) (Af : Nat → Nat → Int32), Ev I1 Ac (k, If, Af) → fX5_readText I A = (k, If, Af) := fun k If Af hev => by
    unfold fX5_readText
    rw [eb, bdX_mk]
    exact hev FU 0 (by rw [i14]; rfl) (by decide) (by have := FU_eq; have : (0 : Int32).toInt = 0 := rfl; omega)
  unfold fX11_read at eX2
  have jx : ∀ k, [1, 2, 3, 4, 6, 8, 11, 16, 17].contains k = false → jin J3 s k = J k := fun k hk => by
    have a0 : (k ≠ 1 ∧ k ≠ 2 ∧ k ≠ 3 ∧ k ≠ 4 ∧ k ≠ 6 ∧ k ≠ 8 ∧ k ≠ 11 ∧ k ≠ 16 ∧ k ≠ 17) := by
      simp only [List.contains_cons, List.contains_nil, Bool.or_false, Bool.or_eq_false_iff, beq_eq_false_iff_ne, ne_eq] at hk
      omega
    unfold jin
    rw [upd_ne a0.2.2.2.2.2.2.2.2, upd_ne a0.2.2.2.2.2.2.2.1, upd_ne a0.2.2.2.2.2.2.1, upd_ne a0.2.2.2.2.2.1, upd_ne a0.2.2.2.2.1, upd_ne a0.2.2.2.1]
    rw [k2 k (by simp only [List.contains_cons, List.contains_nil, Bool.or_false, beq_eq_false_iff_ne, ne_eq]; exact a0.2.2.1), upd_ne a0.1, upd_ne a0.2.1]
  have bx : ∀ k, [1, 2, 3, 4, 8, 10, 13, 14, 15, 16].contains k = false → bin B3 σ k = B k := fun k hk => by
    have a0 : (k ≠ 1 ∧ k ≠ 2 ∧ k ≠ 3 ∧ k ≠ 4 ∧ k ≠ 8 ∧ k ≠ 10 ∧ k ≠ 13 ∧ k ≠ 14 ∧ k ≠ 15 ∧ k ≠ 16) := by
      simp only [List.contains_cons, List.contains_nil, Bool.or_false, Bool.or_eq_false_iff, beq_eq_false_iff_ne, ne_eq] at hk
      omega
    unfold bin
    rw [up3_o a0.2.2.2.2.2.2.2.2.2, up3_o a0.2.2.2.2.2.2.2.2.1, up3_o a0.2.2.2.2.2.2.2.1, up3_o a0.2.2.2.2.2.2.1, up3_o a0.2.2.2.2.2.1, up3_o a0.2.2.2.2.1]
    rw [k3 k (by simp only [List.contains_cons, List.contains_nil, Bool.or_false, Bool.or_eq_false_iff, beq_eq_false_iff_ne, ne_eq]; exact ⟨a0.2.1, a0.2.2.1, a0.2.2.2.1⟩), mB2 k (by simp only [List.contains_cons, List.contains_nil, Bool.or_false, beq_eq_false_iff_ne, ne_eq]; exact a0.1)]
  have ix : ∀ k, [1, 2, 3, 4, 5, 6, 8, 9, 10, 11, 12, 13, 14, 16].contains k = false → I1 k = I k := fun k hk => by
    have a0 : (k ≠ 1 ∧ k ≠ 2 ∧ k ≠ 3 ∧ k ≠ 4 ∧ k ≠ 5 ∧ k ≠ 6 ∧ k ≠ 8 ∧ k ≠ 9 ∧ k ≠ 10 ∧ k ≠ 11 ∧ k ≠ 12 ∧ k ≠ 13 ∧ k ≠ 14 ∧ k ≠ 16) := by
      simp only [List.contains_cons, List.contains_nil, Bool.or_false, Bool.or_eq_false_iff, beq_eq_false_iff_ne, ne_eq] at hk
      omega
    rw [g k (by simp only [List.contains_cons, List.contains_nil, Bool.or_false, Bool.or_eq_false_iff, beq_eq_false_iff_ne, ne_eq]; omega), hIb, upd_ne (by omega), upd_ne (by omega), upd_ne (by omega), upd_ne (by omega), upd_ne (by omega), upd_ne (by omega), upd_ne (by omega), upd_ne (by omega), upd_ne (by omega), upd_ne (by omega), upd_ne (by omega)]
  have ax : ∀ k, k ≠ 2 → Ac k = A k := fun k hk => by
    rw [hAc, up3_o hk, up3_o hk, up3_o hk, up3_o hk]
  have b10 : (bin B3 σ) 10 (1 - σ) = B 10 (1 - σ) := by
    have e : B3 10 = B 10 := by rw [k3 10 rfl, mB2 10 rfl]
    unfold bin
    rw [up3_o (by decide), up3_o (by decide), up3_o (by decide), up3_o (by decide), up3_ne (by omega), up3_o (by decide), e]
  obtain ⟨fs, u, nx, h17, h21, h22, hu, h20, hx, hR, hX⟩ := hHS
  rcases hO with ⟨k, pl, ca, Jf, Bf, Lf, o1, o2, ⟨If, Af, o3, u1, u2, u3, u4⟩, o4, o5, o6, o9⟩ | ⟨If, Af, Jf, Bf, Lf, t9, nq9, o1, o3, p1, p2, o7, o8⟩
  · rw [run k If Af o3, bdX_mk, if_pos o2] at eX2
    cases eX2; cases o1
    have fi : ∀ k, SX.contains k = false → k ≠ 0 → (upd If 0 0) k = I k := fun k hk h0 => by
      rw [upd_ne h0, u3 k hk, ix k (by
        simp only [SX, List.contains_cons, List.contains_nil, Bool.or_false, Bool.or_eq_false_iff, beq_eq_false_iff_ne, ne_eq] at hk ⊢
        omega)]
    have fa : ∀ k, SXA.contains k = false → A' k = A k := fun k hk => by
      rw [u4 k hk, ax k (by
        simp only [SXA, List.contains_cons, List.contains_nil, Bool.or_false, Bool.or_eq_false_iff, beq_eq_false_iff_ne, ne_eq] at hk
        omega)]
    refine ⟨⟨fs, u, nx, ?_, ?_, ?_, hu, ?_, hx, ?_, ?_⟩, ?_, ?_⟩
    · rw [fi 17 rfl (by decide)]; exact h17
    · rw [fi 21 rfl (by decide)]; exact h21
    · rw [show (upd (upd Jf 10 pl) 14 ca) 22 = Jf 22 from rfl, o4 22 rfl, jx 22 rfl]; exact h22
    · rw [fi 20 rfl (by decide)]; exact h20
    · rw [fi 18 rfl (by decide), fa 7 rfl, fa 10 rfl, o5 17 rfl, bx 17 rfl]; exact hR
    · have e22 : rwB B' = rwB B := by
        unfold rwB
        rw [o5 22 rfl, bx 22 rfl]
      rw [fi 18 rfl (by decide), fa 7 rfl, fa 10 rfl, fa 11 rfl, fa 12 rfl, fa 13 rfl, e22]; exact hX
    · obtain ⟨lv0, nq, q1, q2, q3, q4, q5, q6⟩ := hQ
      have el : lv0 = 1 - σ := by rcases hs with h9 | h9 <;> omega
      subst el
      refine ⟨1 - σ, nq, ?_, q2, ?_, ?_, q5, fun q hq => ?_⟩
      · rw [show (upd (upd Jf 10 pl) 14 ca) 15 = Jf 15 from rfl, o4 15 rfl, jx 15 rfl]; exact q1
      · rw [fi 19 rfl (by decide)]; exact q3
      · rw [o9.1, b10]; exact q4
      · have e9 := q6 q hq
        rw [fa 8 rfl, fa 9 rfl, o9.2.1 q (by omega), bx 11 rfl]
        refine ⟨e9.1, e9.2.1, e9.2.2.1, fun i hi => ?_⟩
        rw [o9.2.2 (16 * q + i) (by omega), bx 12 rfl]
        exact e9.2.2.2 i hi
    · exact hL9.keep (fi 22 rfl (by decide)) (fi 23 rfl (by decide)) (fi 24 rfl (by decide)) (fi 25 rfl (by decide)) (fi 26 rfl (by decide)) (fi 27 rfl (by decide)) (fa 15 rfl) (fa 16 rfl) (fa 17 rfl) (fa 18 rfl) (fa 19 rfl) (fa 20 rfl) (by rw [o5 27 rfl, bx 27 rfl]) (by rw [o5 28 rfl, bx 28 rfl])
  · rw [run 0 If Af o3, bdX_mk, if_neg (by decide)] at eX2
    obtain ⟨-, -, d1, d2, -, -, -, -, d3⟩ := o7
    obtain ⟨f1, f2, f3, f4, f5, f6⟩ := d1
    obtain ⟨g1, g2, g3, g4⟩ := d2
    obtain ⟨n9, hn9⟩ : ∃ n9 : Nat, (If 14).toInt = (n9 : Int) := ⟨(If 14).toInt.toNat, by omega⟩
    obtain ⟨J9, B9, m9, w1, -, -, w4, w5, w6, w7, w8, w9, w10, w11, w12, w13⟩ := m_sucE (J := Jf) (B := Bf) (L := Lf) (σ := σ) (n := n9) hσ (by rw [f1]; exact hn9) (by omega)
    rw [m9] at o1
    obtain ⟨Iq, Aq, a1, a2, a3, a4, a5⟩ := x_takeQ (I := upd If 0 0) (A := Af) (nq := nq9) d3 g3 (fun q hq => ⟨(g4 q hq).1.2.1, (g4 q hq).1.2.2.1⟩)
    obtain ⟨Ig, Ag, c1, c2, c3, c4, c5, c6, c7, c8⟩ := x_go0 (I := Iq) (A := Aq) (n := n9) (by rw [a2 14 rfl]; exact hn9) (by omega)
    rw [a1, bdX_mk, c1, bdX_mk, x_47E] at eX2
    cases eX2; cases o1
    have so := f6 o8
    refine ⟨⟨0, 0, nx, ?_, ?_, w5, by omega, ?_, hx, ?_, trivial⟩, ⟨σ, nq9, w4, hσ, ?_, ?_, g3, fun q hq => ?_⟩, ?_⟩
    · show (Ig 17).toInt = 0 % 256
      rw [c4]; rfl
    · show (Ig 21).toInt = _
      rw [c6]; rfl
    · show (Ig 20).toInt = _
      rw [c2 20 rfl, a2 20 rfl, show upd If 0 0 20 = If 20 from rfl, p1 20 rfl, ix 20 rfl]; exact h20
    · show Rep 0 (Ig 18).toInt (A' 7) (A' 10) (B' 17)
      rw [c5]
      refine ⟨by rw [w8, f1]; exact hn9, by omega, by omega, fun i hi => ?_, ?_⟩
      · rw [show ri (0 + (i : Int)) = i by unfold ri; omega, c7 i (by omega), a3 1 rfl, w9 i (by omega)]
        rcases f4 i (by omega) with ⟨e1, e2⟩ | ⟨e1, e2⟩
        · exact Or.inl ⟨e1, e2⟩
        · exact Or.inr ⟨e1, e2 o8⟩
      · have y0 : A' 10 0 = Af 2 0 := by rw [c8 0 (by omega), a3 2 rfl]
        have y1 : A' 10 1 = Af 2 1 := by rw [c8 1 (by omega), a3 2 rfl]
        have y2 : A' 10 2 = Af 2 2 := by rw [c8 2 (by omega), a3 2 rfl]
        have y3 : A' 10 3 = Af 2 3 := by rw [c8 3 (by omega), a3 2 rfl]
        unfold StE
        rw [y0, y1, y2, y3, w10, w11, w12, w13]
        exact ⟨⟨f5.1, so.1⟩, ⟨f5.2.1, so.2.1⟩, ⟨f5.2.2.1, so.2.2.1⟩, ⟨f5.2.2.2, so.2.2.2⟩⟩
    · show (Ig 19).toInt = _
      rw [c2 19 rfl]; exact a4
    · rw [w6 10 rfl]; exact g1
    · have e9 := g4 q hq
      have e8 := a5 q hq
      have z8 : A' 8 = Aq 8 := c3 8 rfl
      have z9 : A' 9 q = Af 4 q := by rw [c3 9 rfl, e8.1]
      rw [z8, z9, w6 11 rfl, w6 12 rfl]
      refine ⟨e9.1.1, e9.2.1 o8, e9.1.2.2.1, fun i hi => ?_⟩
      rw [e8.2 i hi]
      exact ⟨(e9.1.2.2.2 i hi).1, (e9.1.2.2.2 i hi).2 o8⟩
    · have z0 : ((0 : Int32).toInt ≠ 0) ↔ False := ⟨fun h9 => h9 rfl, fun h9 => h9.elim⟩
      have sl : ∀ s, s < 3 → (upd (upd (upd Ig 23 0) 25 0) 27 0) (23 + 2 * s) = 0 → SL s (upd (upd (upd Ig 23 0) 25 0) 27 0) A' B' := fun s hs e => by
        unfold SL
        rw [e]
        exact ⟨⟨fun h9 => absurd rfl h9, fun h9 => absurd (w7 s hs) h9⟩, fun h9 => absurd rfl h9⟩
      exact ⟨sl 0 (by omega) rfl, sl 1 (by omega) rfl, sl 2 (by omega) rfl⟩
end
section
theorem Rep.flat {n : Int} {fs : Int} {rg st rg' st' r r' : Nat → Int32} (h : Rep fs n rg st r) (h1 : ∀ i : Nat, (i : Int) < n → rg' i = rg (ri (fs + i))) (h2 : ∀ i, i < 4 → st' i = st i) (h3 : ∀ k, k < 165 → r' k = r k) : Rep 0 n rg' st' r' := by
  obtain ⟨a, b, c, d, e⟩ := h.cg h3
  refine ⟨a, b, c, fun i hi => ?_, ?_⟩
  · rw [show ri (0 + (i : Int)) = i by unfold ri; omega, h1 i hi]; exact d i hi
  · unfold StE at *
    rw [h2 0 (by omega), h2 1 (by omega), h2 2 (by omega), h2 3 (by omega)]; exact e
theorem hold_0 {I I' J J' : Nat → Int32} {A A' B B' : Nat → Nat → Int32} {M M' : Nat → Nat → Int64} {v w : Int32} (h : SLS I A B) (hH : HS I A J B) (eX : f_bdX (fX6_copyInto I A) (fun _ I2 A2 => f_bdX (fX7_takeFrom_2 I2 A2) (fun _ I3 A3 => (1, upd I3 23 1, A3))) = (v, I', A')) (eM : (1, J, (up2 (up3 B 27 0 (vp_nar .boolean 1)) 28 (cpo (B 17) ((up3 B 27 0 (vp_nar .boolean 1)) 28) (165 * 0) 165)), M) = (w, J', B', M')) : SLS I' A' B' ∧ v = w := by
  obtain ⟨fs, u, nx, h17, -, -, -, -, -, hR, -⟩ := hH
  obtain ⟨r0, r1, r2, r3, r4⟩ := hR
  obtain ⟨n, hn⟩ : ∃ n : Nat, (I 18).toInt = (n : Int) := ⟨(I 18).toInt.toNat, by omega⟩
  obtain ⟨Ip, Ap, p1, p2, p3, p4, p5⟩ := x_put0 (I := I) (A := A) (n := n) h17 hn (by omega)
  obtain ⟨As, s1, s2, s3⟩ := x_puts0 (I := Ip) (A := Ap)
  rw [p1, bdX_mk, s1, bdX_mk] at eX
  cases eX; cases eM
  obtain ⟨h0, h1, h2⟩ := h
  have own : SL 0 (upd Ip 23 1) A' (up2 (up3 B 27 0 (vp_nar .boolean 1)) 28 (cpo (B 17) ((up3 B 27 0 (vp_nar .boolean 1)) 28) (165 * 0) 165)) := by
    refine ⟨⟨fun _ h9 => absurd (show (vp_nar .boolean 1).toInt = 0 from h9) (by rw [nar1]; decide), fun _ h9 => absurd (show (1 : Int32).toInt = 0 from h9) (by decide)⟩, fun _ => ?_⟩
    show Rep 0 (Ip 22).toInt (A' 15) (A' 16) (fun k => cpo (B 17) (B 28) (165 * 0) 165 (165 * 0 + k))
    rw [p4]
    refine Rep.flat (fs := fs) (rg := A 7) (st := A 10) (r := B 17) ⟨by rw [r0, hn], by omega, by omega, fun i hi => r3 i (by omega), r4⟩ (fun i hi => ?_) (fun i hi => ?_) (fun k hk => ?_)
    · rw [s2 15 rfl, p5 i (by omega)]
    · rw [s3 i hi, p3 10 rfl]
    · show cpo (B 17) (B 28) (165 * 0) 165 (165 * 0 + k) = B 17 k
      rw [cpo_in (by omega) (by omega)]; exact congrArg (B 17) (by omega)
  exact ⟨⟨own, (SL.keep (s := 1) h1 (by show Ip 24 = I 24; exact p2 24 rfl) (by show Ip 25 = I 25; exact p2 25 rfl) (by show A' 17 = A 17; exact (s2 17 rfl).trans (p3 17 rfl)) (by show A' 18 = A 18; exact (s2 18 rfl).trans (p3 18 rfl)) (by show upd (B 27) 0 (vp_nar .boolean 1) 1 = B 27 1; exact upd_ne (by decide)) (fun k hk => by show cpo (B 17) (B 28) (165 * 0) 165 (165 * 1 + k) = B 28 (165 * 1 + k); exact cpo_ge (by omega))), (SL.keep (s := 2) h2 (by show Ip 26 = I 26; exact p2 26 rfl) (by show Ip 27 = I 27; exact p2 27 rfl) (by show A' 19 = A 19; exact (s2 19 rfl).trans (p3 19 rfl)) (by show A' 20 = A 20; exact (s2 20 rfl).trans (p3 20 rfl)) (by show upd (B 27) 0 (vp_nar .boolean 1) 2 = B 27 2; exact upd_ne (by decide)) (fun k hk => by show cpo (B 17) (B 28) (165 * 0) 165 (165 * 2 + k) = B 28 (165 * 2 + k); exact cpo_ge (by omega)))⟩, rfl⟩
theorem hold_1 {I I' J J' : Nat → Int32} {A A' B B' : Nat → Nat → Int32} {M M' : Nat → Nat → Int64} {v w : Int32} (h : SLS I A B) (hH : HS I A J B) (eX : f_bdX (fX6_copyInto_2 I A) (fun _ I2 A2 => f_bdX (fX7_takeFrom_3 I2 A2) (fun _ I3 A3 => (1, upd I3 25 1, A3))) = (v, I', A')) (eM : (1, J, (up2 (up3 B 27 1 (vp_nar .boolean 1)) 28 (cpo (B 17) ((up3 B 27 1 (vp_nar .boolean 1)) 28) (165 * 1) 165)), M) = (w, J', B', M')) : SLS I' A' B' ∧ v = w := by
  obtain ⟨fs, u, nx, h17, -, -, -, -, -, hR, -⟩ := hH
  obtain ⟨r0, r1, r2, r3, r4⟩ := hR
  obtain ⟨n, hn⟩ : ∃ n : Nat, (I 18).toInt = (n : Int) := ⟨(I 18).toInt.toNat, by omega⟩
  obtain ⟨Ip, Ap, p1, p2, p3, p4, p5⟩ := x_put1 (I := I) (A := A) (n := n) h17 hn (by omega)
  obtain ⟨As, s1, s2, s3⟩ := x_puts1 (I := Ip) (A := Ap)
  rw [p1, bdX_mk, s1, bdX_mk] at eX
  cases eX; cases eM
  obtain ⟨h0, h1, h2⟩ := h
  have own : SL 1 (upd Ip 25 1) A' (up2 (up3 B 27 1 (vp_nar .boolean 1)) 28 (cpo (B 17) ((up3 B 27 1 (vp_nar .boolean 1)) 28) (165 * 1) 165)) := by
    refine ⟨⟨fun _ h9 => absurd (show (vp_nar .boolean 1).toInt = 0 from h9) (by rw [nar1]; decide), fun _ h9 => absurd (show (1 : Int32).toInt = 0 from h9) (by decide)⟩, fun _ => ?_⟩
    show Rep 0 (Ip 24).toInt (A' 17) (A' 18) (fun k => cpo (B 17) (B 28) (165 * 1) 165 (165 * 1 + k))
    rw [p4]
    refine Rep.flat (fs := fs) (rg := A 7) (st := A 10) (r := B 17) ⟨by rw [r0, hn], by omega, by omega, fun i hi => r3 i (by omega), r4⟩ (fun i hi => ?_) (fun i hi => ?_) (fun k hk => ?_)
    · rw [s2 17 rfl, p5 i (by omega)]
    · rw [s3 i hi, p3 10 rfl]
    · show cpo (B 17) (B 28) (165 * 1) 165 (165 * 1 + k) = B 17 k
      rw [cpo_in (by omega) (by omega)]; exact congrArg (B 17) (by omega)
  exact ⟨⟨(SL.keep (s := 0) h0 (by show Ip 22 = I 22; exact p2 22 rfl) (by show Ip 23 = I 23; exact p2 23 rfl) (by show A' 15 = A 15; exact (s2 15 rfl).trans (p3 15 rfl)) (by show A' 16 = A 16; exact (s2 16 rfl).trans (p3 16 rfl)) (by show upd (B 27) 1 (vp_nar .boolean 1) 0 = B 27 0; exact upd_ne (by decide)) (fun k hk => by show cpo (B 17) (B 28) (165 * 1) 165 (165 * 0 + k) = B 28 (165 * 0 + k); exact cpo_lt (by omega))), own, (SL.keep (s := 2) h2 (by show Ip 26 = I 26; exact p2 26 rfl) (by show Ip 27 = I 27; exact p2 27 rfl) (by show A' 19 = A 19; exact (s2 19 rfl).trans (p3 19 rfl)) (by show A' 20 = A 20; exact (s2 20 rfl).trans (p3 20 rfl)) (by show upd (B 27) 1 (vp_nar .boolean 1) 2 = B 27 2; exact upd_ne (by decide)) (fun k hk => by show cpo (B 17) (B 28) (165 * 1) 165 (165 * 2 + k) = B 28 (165 * 2 + k); exact cpo_ge (by omega)))⟩, rfl⟩
theorem hold_2 {I I' J J' : Nat → Int32} {A A' B B' : Nat → Nat → Int32} {M M' : Nat → Nat → Int64} {v w : Int32} (h : SLS I A B) (hH : HS I A J B) (eX : f_bdX (fX6_copyInto_3 I A) (fun _ I2 A2 => f_bdX (fX7_takeFrom_4 I2 A2) (fun _ I3 A3 => (1, upd I3 27 1, A3))) = (v, I', A')) (eM : (1, J, (up2 (up3 B 27 2 (vp_nar .boolean 1)) 28 (cpo (B 17) ((up3 B 27 2 (vp_nar .boolean 1)) 28) (165 * 2) 165)), M) = (w, J', B', M')) : SLS I' A' B' ∧ v = w := by
  obtain ⟨fs, u, nx, h17, -, -, -, -, -, hR, -⟩ := hH
  obtain ⟨r0, r1, r2, r3, r4⟩ := hR
  obtain ⟨n, hn⟩ : ∃ n : Nat, (I 18).toInt = (n : Int) := ⟨(I 18).toInt.toNat, by omega⟩
  obtain ⟨Ip, Ap, p1, p2, p3, p4, p5⟩ := x_put2 (I := I) (A := A) (n := n) h17 hn (by omega)
  obtain ⟨As, s1, s2, s3⟩ := x_puts2 (I := Ip) (A := Ap)
  rw [p1, bdX_mk, s1, bdX_mk] at eX
  cases eX; cases eM
  obtain ⟨h0, h1, h2⟩ := h
  have own : SL 2 (upd Ip 27 1) A' (up2 (up3 B 27 2 (vp_nar .boolean 1)) 28 (cpo (B 17) ((up3 B 27 2 (vp_nar .boolean 1)) 28) (165 * 2) 165)) := by
    refine ⟨⟨fun _ h9 => absurd (show (vp_nar .boolean 1).toInt = 0 from h9) (by rw [nar1]; decide), fun _ h9 => absurd (show (1 : Int32).toInt = 0 from h9) (by decide)⟩, fun _ => ?_⟩
    show Rep 0 (Ip 26).toInt (A' 19) (A' 20) (fun k => cpo (B 17) (B 28) (165 * 2) 165 (165 * 2 + k))
    rw [p4]
    refine Rep.flat (fs := fs) (rg := A 7) (st := A 10) (r := B 17) ⟨by rw [r0, hn], by omega, by omega, fun i hi => r3 i (by omega), r4⟩ (fun i hi => ?_) (fun i hi => ?_) (fun k hk => ?_)
    · rw [s2 19 rfl, p5 i (by omega)]
    · rw [s3 i hi, p3 10 rfl]
    · show cpo (B 17) (B 28) (165 * 2) 165 (165 * 2 + k) = B 17 k
      rw [cpo_in (by omega) (by omega)]; exact congrArg (B 17) (by omega)
  exact ⟨⟨(SL.keep (s := 0) h0 (by show Ip 22 = I 22; exact p2 22 rfl) (by show Ip 23 = I 23; exact p2 23 rfl) (by show A' 15 = A 15; exact (s2 15 rfl).trans (p3 15 rfl)) (by show A' 16 = A 16; exact (s2 16 rfl).trans (p3 16 rfl)) (by show upd (B 27) 2 (vp_nar .boolean 1) 0 = B 27 0; exact upd_ne (by decide)) (fun k hk => by show cpo (B 17) (B 28) (165 * 2) 165 (165 * 0 + k) = B 28 (165 * 0 + k); exact cpo_lt (by omega))), (SL.keep (s := 1) h1 (by show Ip 24 = I 24; exact p2 24 rfl) (by show Ip 25 = I 25; exact p2 25 rfl) (by show A' 17 = A 17; exact (s2 17 rfl).trans (p3 17 rfl)) (by show A' 18 = A 18; exact (s2 18 rfl).trans (p3 18 rfl)) (by show upd (B 27) 2 (vp_nar .boolean 1) 1 = B 27 1; exact upd_ne (by decide)) (fun k hk => by show cpo (B 17) (B 28) (165 * 2) 165 (165 * 1 + k) = B 28 (165 * 1 + k); exact cpo_lt (by omega))), own⟩, rfl⟩
theorem SLS.hold {I I' J J' : Nat → Int32} {A A' B B' : Nat → Nat → Int32} {M M' : Nat → Nat → Int64} {z v w : Int32} (h : SLS I A B) (hH : HS I A J B) (eX : FE (fX11_hold I A z) (v, I', A')) (eM : FE (fM12_hold J B M z) (w, J', B', M')) : SLS I' A' B' ∧ v = w := by
  have eX2 : fX11_hold I A z = (v, I', A') := eX
  have eM2 : fM12_hold J B M z = (w, J', B', M') := eM
  unfold fX11_hold at eX2
  unfold fM12_hold at eM2
  have e0 : (0 : Int32).toInt = 0 := rfl
  have e2 : (2 : Int32).toInt = 2 := rfl
  rw [m_in, if10] at eM2
  by_cases c : z.toInt < 0
  · rw [if_pos c] at eX2
    rw [if_neg (by omega)] at eM2
    cases eX2; cases eM2
    exact ⟨h, rfl⟩
  · rw [if_neg c] at eX2
    by_cases d : z.toInt < 3
    · rw [if_pos d] at eX2
      rw [if_pos (by omega)] at eM2
      by_cases z0 : z.toInt = 0
      · rw [if_pos z0] at eX2 eM2
        exact hold_0 h hH eX2 eM2
      · rw [if_neg z0] at eX2 eM2
        by_cases z1 : z.toInt = 1
        · rw [if_pos z1] at eX2 eM2
          exact hold_1 h hH eX2 eM2
        · rw [if_neg z1, if_pos (by omega)] at eX2 eM2
          exact hold_2 h hH eX2 eM2
    · rw [if_neg d] at eX2
      rw [if_neg (by omega)] at eM2
      cases eX2; cases eM2
      exact ⟨h, rfl⟩
theorem restore_0 {I I' J J' : Nat → Int32} {A A' B B' : Nat → Nat → Int32} {M M' : Nat → Nat → Int64} {v w : Int32} (h : SL 0 I A B) (hH : HS I A J B) (eX : (if (I 23).toInt ≠ 0 then f_bdX (fX11_goOnFrom_2 I A) (fun _ I2 A2 => (1, I2, A2)) else (0, I, A)) = (v, I', A')) (eM : (if (B 27 0).toInt ≠ 0 then (1, (upd J 22 0), (up2 B 17 (cpo (fun k => B 28 (165 * 0 + k)) (B 17) 0 165)), M) else (0, J, B, M)) = (w, J', B', M')) : HS I' A' J' B' ∧ v = w := by
  obtain ⟨hl, hr⟩ := h
  by_cases c : (I 23).toInt ≠ 0
  · rw [if_pos c] at eX
    rw [if_pos (hl.mp c)] at eM
    obtain ⟨fs, u, nx, -, -, -, -, h20, hx, -, -⟩ := hH
    have hR : Rep 0 (I 22).toInt (A 15) (A 16) (fun k => B 28 (165 * 0 + k)) := hr c
    have hR2 := hR
    obtain ⟨r0, r1, r2, r3, r4⟩ := hR2
    obtain ⟨n, hn⟩ : ∃ n : Nat, (I 22).toInt = (n : Int) := ⟨(I 22).toInt.toNat, by omega⟩
    obtain ⟨Ig, Ag, c1, c2, c3, c4, c5, c6, c7, c8⟩ := x_go1 (I := I) (A := A) (n := n) hn (by omega)
    rw [c1, bdX_mk] at eX
    cases eX; cases eM
    refine ⟨⟨0, 0, nx, by rw [c4]; rfl, by rw [c6]; rfl, rfl, by omega, by rw [c2 20 rfl]; exact h20, hx, ?_, trivial⟩, rfl⟩
    rw [c5, ← hn]
    refine hR.flat (fun i hi => ?_) c8 (fun k hk => ?_)
    · rw [c7 i (by omega), show ri (0 + (i : Int)) = i by unfold ri; omega]
    · show cpo (fun k => B 28 (165 * 0 + k)) (B 17) 0 165 k = _
      rw [cpo_in (by omega) (by omega)]; rfl
  · rw [if_neg c] at eX
    rw [if_neg (fun h9 => c (hl.mpr h9))] at eM
    cases eX; cases eM
    exact ⟨hH, rfl⟩
theorem restore_1 {I I' J J' : Nat → Int32} {A A' B B' : Nat → Nat → Int32} {M M' : Nat → Nat → Int64} {v w : Int32} (h : SL 1 I A B) (hH : HS I A J B) (eX : (if (I 25).toInt ≠ 0 then f_bdX (fX11_goOnFrom_3 I A) (fun _ I2 A2 => (1, I2, A2)) else (0, I, A)) = (v, I', A')) (eM : (if (B 27 1).toInt ≠ 0 then (1, (upd J 22 0), (up2 B 17 (cpo (fun k => B 28 (165 * 1 + k)) (B 17) 0 165)), M) else (0, J, B, M)) = (w, J', B', M')) : HS I' A' J' B' ∧ v = w := by
  obtain ⟨hl, hr⟩ := h
  by_cases c : (I 25).toInt ≠ 0
  · rw [if_pos c] at eX
    rw [if_pos (hl.mp c)] at eM
    obtain ⟨fs, u, nx, -, -, -, -, h20, hx, -, -⟩ := hH
    have hR : Rep 0 (I 24).toInt (A 17) (A 18) (fun k => B 28 (165 * 1 + k)) := hr c
    have hR2 := hR
    obtain ⟨r0, r1, r2, r3, r4⟩ := hR2
    obtain ⟨n, hn⟩ : ∃ n : Nat, (I 24).toInt = (n : Int) := ⟨(I 24).toInt.toNat, by omega⟩
    obtain ⟨Ig, Ag, c1, c2, c3, c4, c5, c6, c7, c8⟩ := x_go2 (I := I) (A := A) (n := n) hn (by omega)
    rw [c1, bdX_mk] at eX
    cases eX; cases eM
    refine ⟨⟨0, 0, nx, by rw [c4]; rfl, by rw [c6]; rfl, rfl, by omega, by rw [c2 20 rfl]; exact h20, hx, ?_, trivial⟩, rfl⟩
    rw [c5, ← hn]
    refine hR.flat (fun i hi => ?_) c8 (fun k hk => ?_)
    · rw [c7 i (by omega), show ri (0 + (i : Int)) = i by unfold ri; omega]
    · show cpo (fun k => B 28 (165 * 1 + k)) (B 17) 0 165 k = _
      rw [cpo_in (by omega) (by omega)]; rfl
  · rw [if_neg c] at eX
    rw [if_neg (fun h9 => c (hl.mpr h9))] at eM
    cases eX; cases eM
    exact ⟨hH, rfl⟩
theorem restore_2 {I I' J J' : Nat → Int32} {A A' B B' : Nat → Nat → Int32} {M M' : Nat → Nat → Int64} {v w : Int32} (h : SL 2 I A B) (hH : HS I A J B) (eX : (if (I 27).toInt ≠ 0 then f_bdX (fX11_goOnFrom_4 I A) (fun _ I2 A2 => (1, I2, A2)) else (0, I, A)) = (v, I', A')) (eM : (if (B 27 2).toInt ≠ 0 then (1, (upd J 22 0), (up2 B 17 (cpo (fun k => B 28 (165 * 2 + k)) (B 17) 0 165)), M) else (0, J, B, M)) = (w, J', B', M')) : HS I' A' J' B' ∧ v = w := by
  obtain ⟨hl, hr⟩ := h
  by_cases c : (I 27).toInt ≠ 0
  · rw [if_pos c] at eX
    rw [if_pos (hl.mp c)] at eM
    obtain ⟨fs, u, nx, -, -, -, -, h20, hx, -, -⟩ := hH
    have hR : Rep 0 (I 26).toInt (A 19) (A 20) (fun k => B 28 (165 * 2 + k)) := hr c
    have hR2 := hR
    obtain ⟨r0, r1, r2, r3, r4⟩ := hR2
    obtain ⟨n, hn⟩ : ∃ n : Nat, (I 26).toInt = (n : Int) := ⟨(I 26).toInt.toNat, by omega⟩
    obtain ⟨Ig, Ag, c1, c2, c3, c4, c5, c6, c7, c8⟩ := x_go3 (I := I) (A := A) (n := n) hn (by omega)
    rw [c1, bdX_mk] at eX
    cases eX; cases eM
    refine ⟨⟨0, 0, nx, by rw [c4]; rfl, by rw [c6]; rfl, rfl, by omega, by rw [c2 20 rfl]; exact h20, hx, ?_, trivial⟩, rfl⟩
    rw [c5, ← hn]
    refine hR.flat (fun i hi => ?_) c8 (fun k hk => ?_)
    · rw [c7 i (by omega), show ri (0 + (i : Int)) = i by unfold ri; omega]
    · show cpo (fun k => B 28 (165 * 2 + k)) (B 17) 0 165 k = _
      rw [cpo_in (by omega) (by omega)]; rfl
  · rw [if_neg c] at eX
    rw [if_neg (fun h9 => c (hl.mpr h9))] at eM
    cases eX; cases eM
    exact ⟨hH, rfl⟩
theorem HS.restore {I I' J J' : Nat → Int32} {A A' B B' : Nat → Nat → Int32} {M M' : Nat → Nat → Int64} {z v w : Int32} (h : SLS I A B) (hH : HS I A J B) (eX : FE (fX11_restore I A z) (v, I', A')) (eM : FE (fM12_restore J B M z) (w, J', B', M')) : HS I' A' J' B' ∧ v = w := by
  have eX2 : fX11_restore I A z = (v, I', A') := eX
  have eM2 : fM12_restore J B M z = (w, J', B', M') := eM
  unfold fX11_restore at eX2
  unfold fM12_restore at eM2
  have e0 : (0 : Int32).toInt = 0 := rfl
  have e2 : (2 : Int32).toInt = 2 := rfl
  rw [m_in, if10] at eM2
  by_cases c : z.toInt < 0
  · rw [if_pos c] at eX2
    rw [if_neg (by omega)] at eM2
    cases eX2; cases eM2
    exact ⟨hH, rfl⟩
  · rw [if_neg c] at eX2
    by_cases d : z.toInt < 3
    · rw [if_neg (by omega)] at eX2
      rw [if_pos (by omega)] at eM2
      by_cases z0 : z.toInt = 0
      · rw [if_pos z0] at eX2 eM2
        exact restore_0 h.1 hH eX2 eM2
      · rw [if_neg z0] at eX2 eM2
        by_cases z1 : z.toInt = 1
        · rw [if_pos z1] at eX2 eM2
          exact restore_1 h.2.1 hH eX2 eM2
        · rw [if_neg z1, if_pos (by omega)] at eX2 eM2
          exact restore_2 h.2.2 hH eX2 eM2
    · rw [if_pos (by omega)] at eX2
      rw [if_neg (by omega)] at eM2
      cases eX2; cases eM2
      exact ⟨hH, rfl⟩
end
section
/-- the reference's row that goes on is left alone (a state that can't be has 0 at its place 164) -/
def KP (F : Nat → Int32) (r : Int32 × (Nat → Int32) × (Nat → Nat → Int32) × (Nat → Nat → Int64)) : Prop := r.2.2.1 17 164 = 0 ∨ r.2.2.1 17 = F
theorem KP.rf {y : Int32} {I : Nat → Int32} {A : Nat → Nat → Int32} {L : Nat → Nat → Int64} : KP (A 17) (y, I, A, L) := Or.inr rfl
theorem KP.df {F : Nat → Int32} : KP F dfM := Or.inl rfl
theorem KP.bd {F : Nat → Int32} {r : Int32 × (Nat → Int32) × (Nat → Nat → Int32) × (Nat → Nat → Int64)} {k : Int32 → (Nat → Int32) → (Nat → Nat → Int32) → (Nat → Nat → Int64) → Int32 × (Nat → Int32) × (Nat → Nat → Int32) × (Nat → Nat → Int64)} (h : KP F r) (hk : ∀ y I A L, KP (A 17) (k y I A L)) : KP F (f_bdM r k) := by
  unfold f_bdM
  rcases h with h | h
  · rcases hk r.1 r.2.1 r.2.2.1 r.2.2.2 with g | g
    · exact Or.inl g
    · left; rw [g]; exact h
  · rw [← h]; exact hk _ _ _ _
theorem k_iIAL {B : (Int32 → (Nat → Int32) → (Nat → Nat → Int32) → (Nat → Nat → Int64) → (Int32 × (Nat → Int32) × (Nat → Nat → Int32) × (Nat → Nat → Int64))) → Int32 → (Nat → Int32) → (Nat → Nat → Int32) → (Nat → Nat → Int64) → (Int32 × (Nat → Int32) × (Nat → Nat → Int32) × (Nat → Nat → Int64))} (hB : ∀ G, (∀ x I A L, KP (A 17) (G x I A L)) → ∀ x I A L, KP (A 17) (B G x I A L)) : ∀ (m : Nat) (x : Int32) (I : Nat → Int32) (A : Nat → Nat → Int32) (L : Nat → Nat → Int64), KP (A 17) (itr_iIAL dfM B m x I A L) := by
  intro m
  induction m with
  | zero => intro x I A L; exact KP.df
  | succ m ih =>
    intro x I A L
    show KP (A 17) (B (itr_iIAL dfM B m) x I A L)
    exact hB _ ih x I A L
theorem k_iiIAL {B : (Int32 → Int32 → (Nat → Int32) → (Nat → Nat → Int32) → (Nat → Nat → Int64) → (Int32 × (Nat → Int32) × (Nat → Nat → Int32) × (Nat → Nat → Int64))) → Int32 → Int32 → (Nat → Int32) → (Nat → Nat → Int32) → (Nat → Nat → Int64) → (Int32 × (Nat → Int32) × (Nat → Nat → Int32) × (Nat → Nat → Int64))} (hB : ∀ G, (∀ x y I A L, KP (A 17) (G x y I A L)) → ∀ x y I A L, KP (A 17) (B G x y I A L)) : ∀ (m : Nat) (x y : Int32) (I : Nat → Int32) (A : Nat → Nat → Int32) (L : Nat → Nat → Int64), KP (A 17) (itr_iiIAL dfM B m x y I A L) := by
  intro m
  induction m with
  | zero => intro x y I A L; exact KP.df
  | succ m ih =>
    intro x y I A L
    show KP (A 17) (B (itr_iiIAL dfM B m) x y I A L)
    exact hB _ ih x y I A L
theorem k_iiii {F : Nat → Int32} {B : (Int32 → Int32 → Int32 → Int32 → (Int32 × (Nat → Int32) × (Nat → Nat → Int32) × (Nat → Nat → Int64))) → Int32 → Int32 → Int32 → Int32 → (Int32 × (Nat → Int32) × (Nat → Nat → Int32) × (Nat → Nat → Int64))} (hB : ∀ G, (∀ x y z w, KP F (G x y z w)) → ∀ x y z w, KP F (B G x y z w)) : ∀ (m : Nat) (x y z w : Int32), KP F (itr_iiii dfM B m x y z w) := by
  intro m
  induction m with
  | zero => intro x y z w; exact KP.df
  | succ m ih =>
    intro x y z w
    show KP F (B (itr_iiii dfM B m) x y z w)
    exact hB _ ih x y z w
theorem kp_levels {I : Nat → Int32} {A : Nat → Nat → Int32} {L : Nat → Nat → Int64} {z : Int32} : KP (A 17) (fM12_levelsFirst I A L z) := by
  unfold fM12_levelsFirst
  refine k_iiii (fun G hG x y u w => ?_) FU _ _ _ _
  unfold bM12_levelsFirst_28
  dsimp only [f_lt]
  split
  · refine k_iIAL (fun G2 hG2 x2 I2 A2 L2 => ?_) FU 0 I A L
    unfold bM12_levelsFirst_100
    dsimp only [f_lt]
    split
    · exact KP.rf
    · split
      · exact hG2 _ _ _ _
      · split
        · exact hG2 _ _ (up3 A2 19 _ _) _
        · split
          · exact hG2 _ _ (up3 A2 19 _ _) _
          · split
            · exact hG2 _ _ (up3 A2 19 _ _) _
            · exact hG2 _ _ (up3 A2 19 _ _) _
  · split
    · split
      · exact hG _ _ _ _
      · exact hG _ _ _ _
    · split
      · exact hG _ _ _ _
      · exact hG _ _ _ _
theorem kp_window {I : Nat → Int32} {A : Nat → Nat → Int32} {L : Nat → Nat → Int64} {z1 z2 : Int32} : KP (A 17) (fM12_laysWindow I A L z1 z2) := by
  unfold fM12_laysWindow
  refine k_iIAL (fun G hG x I2 A2 L2 => ?_) FU 0 I A L
  unfold bM12_laysWindow_2
  dsimp only [f_lt]
  split
  · exact kp_levels.bd (fun y I A L => KP.rf)
  · exact hG _ _ (up3 A2 19 _ _) _
theorem kp_changes {I : Nat → Int32} {A : Nat → Nat → Int32} {L : Nat → Nat → Int64} {z1 : Int32} : KP (A 17) (fM12_changesBoth I A L z1) := by
  unfold fM12_changesBoth
  refine k_iIAL (fun G hG x I2 A2 L2 => ?_) FU 0 I A L
  unfold bM12_changesBoth_2
  dsimp only [f_lt]
  split
  · exact KP.rf
  · exact hG _ _ (up3 (up3 A2 19 _ _) 20 _ _) _
theorem kp_query {I : Nat → Int32} {A : Nat → Nat → Int32} {L : Nat → Nat → Int64} {z1 : Int32} : KP (A 17) (fM12_laysQuery I A L z1) := by
  unfold fM12_laysQuery
  refine k_iIAL (fun G hG x I2 A2 L2 => ?_) FU 0 I A L
  unfold bM12_laysQuery_2
  dsimp only [f_lt]
  split
  · exact kp_levels.bd (fun y I A L => KP.rf)
  · exact hG _ _ (up3 A2 19 _ _) _
theorem kp_both {I : Nat → Int32} {A : Nat → Nat → Int32} {L : Nat → Nat → Int64} {z1 z2 : Int32} : KP (A 17) (fM12_laysBoth I A L z1 z2) := by
  unfold fM12_laysBoth
  refine kp_window.bd (fun y I A L => ?_)
  refine kp_changes.bd (fun y I A L => ?_)
  exact kp_query.bd (fun y I A L => KP.rf)
theorem kp_row {I : Nat → Int32} {A : Nat → Nat → Int32} {L : Nat → Nat → Int64} {z1 : Int32} : KP (A 17) (fM12_laysRow I A L z1) := by
  unfold fM12_laysRow
  refine k_iiIAL (fun G hG x y I2 A2 L2 => ?_) FU 0 _ I A L
  unfold bM12_laysRow_6
  dsimp only [f_lt]
  split
  · exact KP.rf
  · split
    · exact hG _ _ _ _ _
    · split
      · exact hG _ _ _ (up3 A2 21 _ _) _
      · split
        · exact hG _ _ _ (up3 A2 21 _ _) _
        · exact hG _ _ _ (up3 A2 21 _ _) _
theorem kp_table {I : Nat → Int32} {A : Nat → Nat → Int32} {L : Nat → Nat → Int64} {z1 : Int32} : KP (A 17) (fM12_laysTable I A L z1) := by
  unfold fM12_laysTable
  refine k_iIAL (fun G hG x I2 A2 L2 => ?_) FU 0 _ A L
  unfold bM12_laysTable_12
  dsimp only [f_lt]
  split
  · exact KP.rf
  · refine kp_row.bd (fun y I A L => ?_)
    split
    · exact KP.rf
    · exact hG _ _ _ _
theorem kp_dist {I : Nat → Int32} {A : Nat → Nat → Int32} {L : Nat → Nat → Int64} {z1 z2 : Int32} : KP (A 17) (fM12_distanceOf I A L z1 z2) := by
  unfold fM12_distanceOf
  refine kp_both.bd (fun y I A L => ?_)
  exact kp_table.bd (fun y I A L => KP.rf)
theorem kp_far {I : Nat → Int32} {A : Nat → Nat → Int32} {L : Nat → Nat → Int64} {z1 : Int32} : KP (A 17) (fM12_fillsFar I A L z1) := by
  unfold fM12_fillsFar fM12_copies
  rw [bdM_mk]
  refine k_iIAL (fun G hG x I2 A2 L2 => ?_) FU 0 _ (up2 A 18 _) L
  unfold bM12_fillsFar_6
  dsimp only [f_lt]
  split
  · exact KP.rf
  · split
    · exact hG _ _ (up3 A2 24 _ _) _
    · exact kp_dist.bd (fun y I A L => hG _ _ (up3 A 24 _ _) _)
/-- needs puts the BAND back -/
theorem needs_17 {I I' : Nat → Int32} {A A' : Nat → Nat → Int32} {L L' : Nat → Nat → Int64} {z1 z2 v : Int32} (e : FE (fM12_needs I A L z1 z2) (v, I', A', L')) (h : IvM I' A') : A' 17 = A 17 := by
  have e2 : fM12_needs I A L z1 z2 = (v, I', A', L') := e
  have kp : KP (A 17) (fM12_needs I A L z1 z2) := by
    unfold fM12_needs
    split
    · exact KP.rf
    · have key : ∀ (m : Nat) (x y : Int32) (I2 : Nat → Int32) (A2 : Nat → Nat → Int32) (L2 : Nat → Nat → Int64), (A2 17 164 = 0 ∨ ∀ k, k ≠ 161 → A2 17 k = A 17 k) → KP (A 17) (itr_iiIAL dfM (bM12_needs_28 A z1 z2) m x y I2 A2 L2) := by
        intro m
        induction m with
        | zero => intro x y I2 A2 L2 _; exact KP.df
        | succ m ih =>
          intro x y I2 A2 L2 hk
          show KP (A 17) (bM12_needs_28 A z1 z2 (itr_iiIAL dfM (bM12_needs_28 A z1 z2) m) x y I2 A2 L2)
          obtain ⟨G, hG⟩ : ∃ G, G = itr_iiIAL dfM (bM12_needs_28 A z1 z2) m := ⟨_, rfl⟩
          rw [← hG] at ih ⊢
          unfold bM12_needs_28
          dsimp only [f_lt]
          split
          · rcases hk with hk | hk
            · left
              show up3 A2 17 161 (A 17 161) 17 164 = 0
              rw [up3_ne (by decide)]; exact hk
            · right
              show up3 A2 17 161 (A 17 161) 17 = A 17
              funext k
              by_cases c : k = 161
              · rw [up3_at c, c]
              · rw [up3_ne c]; exact hk k c
          · obtain ⟨r, hr⟩ : ∃ r, r = fM12_fillsFar I2 (up3 A2 17 161 x) L2 z1 := ⟨_, rfl⟩
            have kf : KP ((up3 A2 17 161 x) 17) r := by rw [hr]; exact kp_far
            rw [← hr]
            have nx : r.2.2.1 17 164 = 0 ∨ ∀ k, k ≠ 161 → r.2.2.1 17 k = A 17 k := by
              rcases kf with g | g
              · exact Or.inl g
              · rcases hk with hk | hk
                · left; rw [g, up3_ne (by decide)]; exact hk
                · right
                  intro k c
                  rw [g, up3_ne c]; exact hk k c
            unfold f_bdM
            dsimp only
            split
            · exact ih _ _ _ _ _ nx
            · exact ih _ _ _ _ _ nx
      exact key FU 15 (-2) I A L (Or.inr (fun k _ => rfl))
  rw [e2] at kp
  have h1 := IvM_s17_164 h
  rcases kp with g | g
  · have g2 : A' 17 164 = 0 := g
    rw [g2] at h1
    exact absurd h1.1 (by decide)
  · exact g
/-- all that goes on is alike -/
def RA (I : Nat → Int32) (A : Nat → Nat → Int32) (J : Nat → Int32) (B : Nat → Nat → Int32) (M : Nat → Nat → Int64) : Prop := RTp I A J B M ∧ HS I A J B ∧ QS I A J B ∧ SLS I A B
end
section
theorem m_isQuery {J : Nat → Int32} {B : Nat → Nat → Int32} {L : Nat → Nat → Int64} {σ nq : Nat} (h15 : (J 15).toInt = (σ : Int)) (hσ : σ ≤ 1) (h10 : (B 10 σ).toInt = (nq : Int)) (hn : nq ≤ 5) {z : Int32} : fM12_isQuery J B L z = if 0 ≤ z.toInt ∧ z.toInt < (nq : Int) then 1 else 0 := by
  have e0 : (0 : Int32).toInt = 0 := rfl
  unfold fM12_isQuery
  dsimp only [f_lt]
  have hc : σ = 0 ∨ σ = 1 := by omega
  rcases hc with e | e
  · subst e
    have d := i32_sub (x := B 10 0) (y := 1) (b := 1) rfl h10 rfl (by omega) (by omega)
    rw [if_pos (by omega), m_in, if10]
    by_cases c : 0 ≤ z.toInt ∧ z.toInt < (nq : Int)
    · rw [if_pos c, if_pos (by omega)]
    · rw [if_neg c, if_neg (by omega)]
  · subst e
    have d := i32_sub (x := B 10 1) (y := 1) (b := 1) rfl h10 rfl (by omega) (by omega)
    rw [if_neg (by omega), if_pos (by omega), m_in, if10]
    by_cases c : 0 ≤ z.toInt ∧ z.toInt < (nq : Int)
    · rw [if_pos c, if_pos (by omega)]
    · rw [if_neg c, if_neg (by omega)]
theorem i_5 {J : Nat → Int32} {z : Int32} {σ q : Nat} (h15 : (J 15).toInt = (σ : Int)) (hσ : σ ≤ 1) (hz : z.toInt = (q : Int)) (hq : q < 1000) : (5 * J 15 + z).toInt = ((5 * σ + q : Nat) : Int) := by
  have e1 := i32_mul (x := 5) (y := J 15) (a := 5) rfl rfl h15 (by omega) (by omega)
  have e2 := i32_add (x := 5 * J 15) (y := z) rfl e1 hz (by omega) (by omega)
  omega
theorem x_len2 {I : Nat → Int32} {A : Nat → Nat → Int32} {nq : Nat} (h19 : (I 19).toInt = (nq : Int)) (hn : nq ≤ 5) {z : Int32} {q : Nat} (hz : z.toInt = (q : Int)) (hq : q < nq) : fX4_lengthOf_2 I A z = (A 9 q, 1) := by
  unfold fX4_lengthOf_2
  rw [x_hasQ h19 hn, if10, if_pos (by omega), clN hz]
theorem x_len0 {I : Nat → Int32} {A : Nat → Nat → Int32} {nq : Nat} (h19 : (I 19).toInt = (nq : Int)) (hn : nq ≤ 5) {z : Int32} (hz : ¬ (0 ≤ z.toInt ∧ z.toInt < (nq : Int))) : fX4_lengthOf_2 I A z = (0, 0) := by
  unfold fX4_lengthOf_2
  rw [x_hasQ h19 hn, if10, if_neg hz]
theorem query_eq {I : Nat → Int32} {A : Nat → Nat → Int32} {J : Nat → Int32} {B : Nat → Nat → Int32} {L : Nat → Nat → Int64} (h : QS I A J B) (z1 z2 : Int32) : fX11_query I A z1 z2 = fM12_query J B L z1 z2 := by
  obtain ⟨σ, nq, h15, hσ, h19, h10, hn, hq⟩ := h
  have e0 : (0 : Int32).toInt = 0 := rfl
  unfold fX11_query fX4_valueAt_2 fM12_query
  dsimp only [f_lt]
  rw [m_isQuery h15 hσ h10 hn, if10]
  by_cases c : 0 ≤ z1.toInt ∧ z1.toInt < (nq : Int)
  · obtain ⟨q, hz⟩ : ∃ q : Nat, z1.toInt = (q : Int) := ⟨z1.toInt.toNat, by omega⟩
    obtain ⟨q1, q2, q3, q4⟩ := hq q (by omega)
    rw [if_pos c, x_len2 h19 hn hz (by omega), ifp, clN (i_5 h15 hσ hz (by omega)), ← q1]
    have d := i32_sub (x := A 9 q) (y := 1) (b := 1) rfl rfl rfl (by omega) (by omega)
    rw [m_in, if10]
    by_cases c2 : 0 ≤ z2.toInt ∧ z2.toInt < (A 9 q).toInt
    · obtain ⟨i, hi⟩ : ∃ i : Nat, z2.toInt = (i : Int) := ⟨z2.toInt.toNat, by omega⟩
      have e5 := i_5 h15 hσ hz (by omega)
      have e6 := i32_mul (x := 16) (y := 5 * J 15 + z1) (a := 16) rfl rfl e5 (by omega) (by omega)
      have e7 : (16 * (5 * J 15 + z1) + z2).toInt = ((80 * σ + (16 * q + i) : Nat) : Int) := by
        have := i32_add (x := 16 * (5 * J 15 + z1)) (y := z2) rfl e6 hi (by omega) (by omega)
        omega
      rw [if_neg (by omega), if_neg (by omega), if_neg (by show ¬ (A 9 q).toInt ≤ z2.toInt; omega), i_16 hz hi (by omega) (by omega), if_pos (by omega), clN e7]
      exact (q4 i (by omega)).1
    · rw [if_neg (show ¬ ((0 : Int32).toInt ≤ z2.toInt ∧ z2.toInt ≤ (A 9 q - 1).toInt) by omega)]
      by_cases c3 : z2.toInt < 0
      · rw [if_pos c3]
      · rw [if_neg c3]
        by_cases c4 : 16 ≤ z2.toInt
        · rw [if_pos c4]
        · rw [if_neg c4, if_pos (by show (A 9 q).toInt ≤ z2.toInt; omega)]
  · rw [if_neg c, x_len0 h19 hn c, ifp0]
    by_cases c3 : z2.toInt < 0
    · rw [if_pos c3]
    · rw [if_neg c3]
      by_cases c4 : 16 ≤ z2.toInt
      · rw [if_pos c4]
      · rw [if_neg c4]
section ANS0
variable {I I' J J' : Nat → Int32} {A A' B B' : Nat → Nat → Int32} {M M' : Nat → Nat → Int64} {z z1 z2 v w : Int32}
theorem ans_place (h : RA I A J B M) (_ : IvX I A) (_ : IvM J B) (eX : FE (fX11_place I A) v) (eM : FE (fM12_place J B M) w) : v = w := (fe_s eX).trans ((show fX11_place I A = fM12_place J B M from h.1.2.1).trans eM)
theorem ans_cause (h : RA I A J B M) (_ : IvX I A) (_ : IvM J B) (eX : FE (fX11_cause I A) v) (eM : FE (fM12_cause J B M) w) : v = w := (fe_s eX).trans ((show fX11_cause I A = fM12_cause J B M from h.1.2.2).trans eM)
theorem ans_at (h : RA I A J B M) (_ : IvX I A) (_ : IvM J B) (eX : FE (fX11_at I A z) v) (eM : FE (fM12_at J B M z) w) : v = w := by
  obtain ⟨fs, u, nx, h17, -, -, -, -, -, hR, -⟩ := h.2.1
  exact (fe_s eX).trans ((at_eq h17 hR z).trans eM)
theorem ans_query (h : RA I A J B M) (_ : IvX I A) (_ : IvM J B) (eX : FE (fX11_query I A z1 z2) v) (eM : FE (fM12_query J B M z1 z2) w) : v = w := (fe_s eX).trans ((query_eq h.2.2.1 z1 z2).trans eM)
theorem ans_push (h : RA I A J B M) (_ : IvX I A) (_ : IvM J B) (eX : FE (fX11_push I A z) (v, I', A')) (eM : FE (fM12_push J B M z) (w, J', B', M')) : v = w := (HS.push h.2.1 eX eM).2
theorem ans_gap (h : RA I A J B M) (_ : IvX I A) (_ : IvM J B) (eX : FE (fX11_gap I A) (v, I', A')) (eM : FE (fM12_gap J B M) (w, J', B', M')) : v = w := (HS.gap h.2.1 eX eM).2
theorem ans_mend (h : RA I A J B M) (_ : IvX I A) (_ : IvM J B) (eX : FE (fX11_mend I A z) (v, I', A')) (eM : FE (fM12_mend J B M z) (w, J', B', M')) : v = w := (HS.mend h.2.1 eX eM).2
theorem ans_drop (h : RA I A J B M) (_ : IvX I A) (_ : IvM J B) (eX : FE (fX11_drop I A z) (v, I', A')) (eM : FE (fM12_drop J B M z) (w, J', B', M')) : v = w := (HS.drop h.2.1 eX eM).2
theorem ans_set (h : RA I A J B M) (_ : IvX I A) (_ : IvM J B) (eX : FE (fX11_set I A z1 z2) (v, I', A')) (eM : FE (fM12_set J B M z1 z2) (w, J', B', M')) : v = w := (HS.set h.2.1 eX eM).2
theorem ans_undo (h : RA I A J B M) (_ : IvX I A) (_ : IvM J B) (eX : FE (fX11_undo I A) (v, I', A')) (eM : FE (fM12_undo J B M) (w, J', B', M')) : v = w := (HS.undo h.2.1 eX eM).2
theorem ans_restore (h : RA I A J B M) (_ : IvX I A) (_ : IvM J B) (eX : FE (fX11_restore I A z) (v, I', A')) (eM : FE (fM12_restore J B M z) (w, J', B', M')) : v = w := (HS.restore h.2.2.2 h.2.1 eX eM).2
end ANS0
end
section
/-- a place of the row that goes on: its worth in a sum, its worth for the greatest -/
def vR (w : Int32) : Int := if w.toInt = 100000 then 0 else w.toInt
def gR (w : Int32) : Int := if w.toInt = 100000 then -1000 else w.toInt
def smR (r : Nat → Int32) (s : Nat) : Nat → Int
  | 0 => 0
  | k + 1 => smR r s k + vR (r (1 + (s + k)))
def mnR (r : Nat → Int32) (s : Nat) : Nat → Int
  | 0 => 100000
  | k + 1 => if (r (1 + (s + k))).toInt < mnR r s k then (r (1 + (s + k))).toInt else mnR r s k
def mxR (r : Nat → Int32) (s : Nat) : Nat → Int
  | 0 => -1000
  | k + 1 => if mxR r s k < gR (r (1 + (s + k))) then gR (r (1 + (s + k))) else mxR r s k
def rok (r : Nat → Int32) (n : Nat) : Prop := (r 0).toInt = (n : Int) ∧ n ≤ 160 ∧ ∀ i, i < n → (r (1 + i)).toInt = 100000 ∨ ((r (1 + i)).toInt ≠ 100000 ∧ -999 ≤ (r (1 + i)).toInt ∧ (r (1 + i)).toInt ≤ 999)
theorem rok.v {r : Nat → Int32} {n : Nat} (h : rok r n) {i : Nat} (hi : i < n) : ((r (1 + i)).toInt = 100000 ∧ vR (r (1 + i)) = 0 ∧ gR (r (1 + i)) = -1000) ∨ ((r (1 + i)).toInt ≠ 100000 ∧ vR (r (1 + i)) = (r (1 + i)).toInt ∧ gR (r (1 + i)) = (r (1 + i)).toInt ∧ -999 ≤ (r (1 + i)).toInt ∧ (r (1 + i)).toInt ≤ 999) := by
  unfold vR gR
  rcases h.2.2 i hi with a | ⟨a, b, c⟩
  · left; rw [if_pos a, if_pos a]; exact ⟨a, rfl, rfl⟩
  · right; rw [if_neg a, if_neg a]; exact ⟨a, rfl, rfl, b, c⟩
theorem smR_b {r : Nat → Int32} {n s : Nat} (h : rok r n) : ∀ k, s + k ≤ n → -999 * (k : Int) ≤ smR r s k ∧ smR r s k ≤ 999 * (k : Int) := by
  intro k
  induction k with
  | zero => intro _; exact ⟨Int.le_refl 0, Int.le_refl 0⟩
  | succ k ih =>
    intro hk
    have := ih (by omega)
    show -999 * ((k + 1 : Nat) : Int) ≤ smR r s k + vR (r (1 + (s + k))) ∧ smR r s k + vR (r (1 + (s + k))) ≤ 999 * ((k + 1 : Nat) : Int)
    rcases h.v (i := s + k) (by omega) with ⟨-, b, -⟩ | ⟨-, b, -, c, d⟩ <;> omega
theorem mnR_b {r : Nat → Int32} {n s : Nat} (h : rok r n) : ∀ k, s + k ≤ n → mnR r s k = 100000 ∨ (-999 ≤ mnR r s k ∧ mnR r s k ≤ 999) := by
  intro k
  induction k with
  | zero => intro _; exact Or.inl rfl
  | succ k ih =>
    intro hk
    have := ih (by omega)
    unfold mnR
    rcases h.v (i := s + k) (by omega) with ⟨a, -⟩ | ⟨-, -, -, c, d⟩ <;> split <;> omega
theorem mnR_le {r : Nat → Int32} {s : Nat} : ∀ k j, j < k → mnR r s k ≤ (r (1 + (s + j))).toInt := by
  intro k
  induction k with
  | zero => intro j h; omega
  | succ k ih =>
    intro j hj
    unfold mnR
    by_cases e : j = k
    · subst e; split <;> omega
    · have := ih j (by omega)
      split <;> omega
theorem mxR_le {r : Nat → Int32} {s : Nat} : ∀ k j, j < k → gR (r (1 + (s + j))) ≤ mxR r s k := by
  intro k
  induction k with
  | zero => intro j h; omega
  | succ k ih =>
    intro j hj
    unfold mxR
    by_cases e : j = k
    · subst e; split <;> omega
    · have := ih j (by omega)
      split <;> omega
theorem mxR_b {r : Nat → Int32} {n s : Nat} (h : rok r n) : ∀ k, s + k ≤ n → -1000 ≤ mxR r s k ∧ mxR r s k ≤ 999 := by
  intro k
  induction k with
  | zero => intro _; exact ⟨Int.le_refl _, show (-1000 : Int) ≤ 999 by decide⟩
  | succ k ih =>
    intro hk
    have := ih (by omega)
    unfold mxR
    rcases h.v (i := s + k) (by omega) with ⟨-, -, a⟩ | ⟨-, -, a, c, d⟩ <;> split <;> omega
/-- the class's side, told by the reference's row -/
def XR (I : Nat → Int32) (A : Nat → Nat → Int32) (r : Nat → Int32) (n : Nat) : Prop := rok r n ∧ (I 18).toInt = (n : Int) ∧ ∀ (z : Int32) (i : Nat), z.toInt = (i : Int) → i < n → ((r (1 + i)).toInt = 100000 ∧ (fX6_valueAt I A z).toInt = -1000) ∨ ((r (1 + i)).toInt ≠ 100000 ∧ fX6_valueAt I A z = r (1 + i) ∧ -999 ≤ (r (1 + i)).toInt ∧ (r (1 + i)).toInt ≤ 999)
theorem HS.xr {I J : Nat → Int32} {A B : Nat → Nat → Int32} (h : HS I A J B) : ∃ n : Nat, XR I A (B 17) n := by
  obtain ⟨fs, u, nx, h17, -, -, -, -, -, hR, -⟩ := h
  obtain ⟨r0, r1, r2, r3, r4⟩ := hR
  refine ⟨(I 18).toInt.toNat, ⟨by omega, by omega, fun i hi => ?_⟩, by omega, fun z i hz hi => ?_⟩
  · have g := r3 i (by omega)
    by_cases c : (B 17 (1 + i)).toInt = 100000
    · exact Or.inl c
    · have k := g.val (fun h9 => c (g.gap.mp h9))
      rw [k.1] at c ⊢
      exact Or.inr ⟨c, k.2⟩
  · have g := r3 i (by omega)
    rw [x_val h17 (by omega) (by omega), hz]
    by_cases c : (B 17 (1 + i)).toInt = 100000
    · exact Or.inl ⟨c, g.gap.mpr c⟩
    · have k := g.val (fun h9 => c (g.gap.mp h9))
      refine Or.inr ⟨c, k.1.symm, ?_⟩
      rw [k.1]; exact k.2
/-- a place that is there -/
def thR (r : Nat → Int32) (n i : Nat) : Prop := i < n ∧ (r (1 + i)).toInt ≠ 100000
theorem XR.has {I : Nat → Int32} {A : Nat → Nat → Int32} {r : Nat → Int32} {n : Nat} (h : XR I A r n) {z : Int32} {i : Nat} (hz : z.toInt = (i : Int)) : (fX6_hasReading I A z = 0 ∧ ¬ thR r n i) ∨ (fX6_hasReading I A z = 1 ∧ thR r n i ∧ fX6_valueAt I A z = r (1 + i)) := by
  rw [x_has]
  by_cases c : i < n
  · rcases h.2.2 z i hz c with ⟨a, b⟩ | ⟨a, b, d, e⟩
    · left; rw [if_pos b]; exact ⟨rfl, fun h9 => h9.2 a⟩
    · right; rw [b, if_neg (by omega)]; exact ⟨rfl, ⟨c, a⟩, rfl⟩
  · left
    rw [x_valo (by have := h.2.1; omega), if_pos (by decide)]
    exact ⟨rfl, fun h9 => c h9.1⟩
theorem rok.m {J : Nat → Int32} {B : Nat → Nat → Int32} {L : Nat → Nat → Int64} {n : Nat} (h : rok (B 17) n) {z : Int32} {i : Nat} (hz : z.toInt = (i : Int)) : (fM12_isThere J B L z = 0 ∧ ¬ thR (B 17) n i) ∨ (fM12_isThere J B L z = 1 ∧ thR (B 17) n i) := by
  rw [m_there h.1 (by omega) (by have := h.2.1; omega)]
  rw [hz, show ((i : Int)).toNat = i by omega]
  unfold thR
  by_cases c : i < n ∧ (B 17 (1 + i)).toInt ≠ 100000
  · right; rw [if_pos ⟨by omega, by omega, c.2⟩]; exact ⟨rfl, c⟩
  · left; rw [if_neg (fun h9 => c ⟨by omega, h9.2.2⟩)]; exact ⟨rfl, c⟩
theorem i_1 {z : Int32} {i : Nat} (hz : z.toInt = (i : Int)) (hi : i < 100000) : (1 + z).toNatClampNeg = 1 + i := by
  have := i32_add (x := 1) (y := z) (a := 1) rfl rfl hz (by omega) (by omega)
  exact clN (by omega)
theorem i_ad {x y : Int32} {a b : Nat} (hx : x.toInt = (a : Int)) (hy : y.toInt = (b : Int)) (h1 : a < 100000) (h2 : b < 100000) : (x + y).toInt = ((a + b : Nat) : Int) := by
  have := i32_add (x := x) (y := y) rfl hx hy (by omega) (by omega)
  omega
/-- a WINDOW -/
def wnR (r : Nat → Int32) (n s k : Nat) : Prop := 1 ≤ k ∧ s + k ≤ n ∧ ∀ j, j < k → (r (1 + (s + j))).toInt ≠ 100000
theorem x_win {I : Nat → Int32} {A : Nat → Nat → Int32} {r : Nat → Int32} {n : Nat} (h : XR I A r n) {z1 z2 : Int32} : (fX6_hasWindow I A z1 z2 = 0 ∧ ∀ s k : Nat, z1.toInt = (s : Int) → z2.toInt = (k : Int) → ¬ wnR r n s k) ∨ (fX6_hasWindow I A z1 z2 = 1 ∧ ∃ s k : Nat, z1.toInt = (s : Int) ∧ z2.toInt = (k : Int) ∧ wnR r n s k) := by
  have h18 := h.2.1
  have hn := h.1.2.1
  unfold fX6_hasWindow
  simp only [f_lt_eq]
  by_cases c1 : z1.toInt < 0
  · rw [if_pos c1]; left; exact ⟨rfl, fun s k a b => by omega⟩
  rw [if_neg c1]
  by_cases c2 : (I 18).toInt ≤ z1.toInt
  · rw [if_pos c2]; left; exact ⟨rfl, fun s k a b h9 => by have := h9.1; have := h9.2.1; omega⟩
  rw [if_neg c2]
  by_cases c3 : z2.toInt < 1
  · rw [if_pos c3]; left; exact ⟨rfl, fun s k a b h9 => by have := h9.1; omega⟩
  rw [if_neg c3]
  have d := i32_sub (x := I 18) (y := z1) rfl rfl rfl (by omega) (by omega)
  by_cases c4n : ¬ (z2.toInt ≤ (I 18 - z1).toInt)
  · rw [if_neg c4n]; left; exact ⟨rfl, fun s k a b h9 => by have := h9.2.1; omega⟩
  have c4 : z2.toInt ≤ (I 18 - z1).toInt := Decidable.of_not_not c4n
  rw [if_pos c4]
  obtain ⟨s, hs⟩ : ∃ s : Nat, z1.toInt = (s : Int) := ⟨z1.toInt.toNat, by omega⟩
  obtain ⟨k, hk⟩ : ∃ k : Nat, z2.toInt = (k : Int) := ⟨z2.toInt.toNat, by omega⟩
  refine run_i (Q := fun (v : Int32) => (v = 0 ∧ ∀ s k : Nat, z1.toInt = (s : Int) → z2.toInt = (k : Int) → ¬ wnR r n s k) ∨ (v = 1 ∧ ∃ s k : Nat, z1.toInt = (s : Int) ∧ z2.toInt = (k : Int) ∧ wnR r n s k)) k (fun j x => x.toInt = (j : Int) ∧ ∀ i, i < j → (r (1 + (s + i))).toInt ≠ 100000) (fun G j x hj hP => ?_) FU 0 0 ⟨rfl, fun i hi => by omega⟩ (by omega) (fu_lt (by omega))
  obtain ⟨hx, hi⟩ := hP
  unfold bX6_hasWindow_31
  dsimp only [f_lt]
  by_cases c : z2.toInt ≤ x.toInt
  · rw [if_pos c]
    right; right
    exact ⟨rfl, s, k, hs, hk, by omega, by omega, fun i h9 => hi i (by omega)⟩
  · rw [if_neg c]
    have e := i_ad hs hx (by omega) (by omega)
    rcases h.has e with ⟨a, b⟩ | ⟨a, b, -⟩
    · rw [a, if_pos rfl]
      right; left
      refine ⟨rfl, fun s' k' hs' hk' h9 => b ⟨by omega, ?_⟩⟩
      have := h9.2.2 j (by omega)
      rwa [show s' = s by omega] at this
    · rw [a, if_neg (by decide)]
      left
      refine ⟨by omega, _, rfl, i_s hx (by omega), fun i h9 => ?_⟩
      by_cases ei : i = j
      · rw [ei]; exact b.2
      · exact hi i (by omega)
theorem m_win {J : Nat → Int32} {B : Nat → Nat → Int32} {L : Nat → Nat → Int64} {n : Nat} (h : rok (B 17) n) {z1 z2 : Int32} : (fM12_isWindow J B L z1 z2 = 0 ∧ ∀ s k : Nat, z1.toInt = (s : Int) → z2.toInt = (k : Int) → ¬ wnR (B 17) n s k) ∨ (fM12_isWindow J B L z1 z2 = 1 ∧ ∃ s k : Nat, z1.toInt = (s : Int) ∧ z2.toInt = (k : Int) ∧ wnR (B 17) n s k) := by
  have h0 := h.1
  have hn := h.2.1
  have z2b : z2.toInt < 2147483648 := Int32.toInt_lt z2
  unfold fM12_isWindow
  simp only [f_lt_eq]
  by_cases c1 : z1.toInt < 0
  · rw [if_pos c1]; left; exact ⟨rfl, fun s k a b => by omega⟩
  rw [if_neg c1]
  by_cases c3 : z2.toInt < 1
  · rw [if_pos c3]; left; exact ⟨rfl, fun s k a b h9 => by have := h9.1; omega⟩
  rw [if_neg c3]
  have d := i32_sub (x := B 17 0) (y := z2) rfl h0 rfl (by omega) (by omega)
  by_cases c4n : ¬ (z1.toInt ≤ (B 17 0 - z2).toInt)
  · rw [if_neg c4n]; left; exact ⟨rfl, fun s k a b h9 => by have := h9.2.1; omega⟩
  have c4 : z1.toInt ≤ (B 17 0 - z2).toInt := Decidable.of_not_not c4n
  rw [if_pos c4]
  obtain ⟨s, hs⟩ : ∃ s : Nat, z1.toInt = (s : Int) := ⟨z1.toInt.toNat, by omega⟩
  obtain ⟨k, hk⟩ : ∃ k : Nat, z2.toInt = (k : Int) := ⟨z2.toInt.toNat, by omega⟩
  refine run_i (Q := fun (v : Int32) => (v = 0 ∧ ∀ s k : Nat, z1.toInt = (s : Int) → z2.toInt = (k : Int) → ¬ wnR (B 17) n s k) ∨ (v = 1 ∧ ∃ s k : Nat, z1.toInt = (s : Int) ∧ z2.toInt = (k : Int) ∧ wnR (B 17) n s k)) k (fun j x => x.toInt = ((s + j : Nat) : Int) ∧ ∀ i, i < j → (B 17 (1 + (s + i))).toInt ≠ 100000) (fun G j x hj hP => ?_) FU 0 z1 ⟨by omega, fun i hi => by omega⟩ (by omega) (fu_lt (by omega))
  obtain ⟨hx, hi⟩ := hP
  have e := i_ad hs hk (by omega) (by omega)
  unfold bM12_isWindow_25
  dsimp only [f_lt]
  by_cases c : (z1 + z2).toInt ≤ x.toInt
  · rw [if_pos c]
    right; right
    exact ⟨rfl, s, k, hs, hk, by omega, by omega, fun i h9 => hi i (by omega)⟩
  · rw [if_neg c, i_1 hx (by omega)]
    by_cases c9 : (B 17 (1 + (s + j))).toInt = 100000
    · rw [if_neg (fun h9 => h9 c9)]
      right; left
      refine ⟨rfl, fun s' k' hs' hk' h9 => ?_⟩
      have := h9.2.2 j (by omega)
      rw [show s' = s by omega] at this
      exact this c9
    · rw [if_pos c9]
      left
      refine ⟨by omega, _, rfl, i_s (k := s + j) hx (by omega), fun i h9 => ?_⟩
      by_cases ei : i = j
      · rw [ei]; exact c9
      · exact hi i (by omega)
theorem win_eq {I : Nat → Int32} {A : Nat → Nat → Int32} {J : Nat → Int32} {B : Nat → Nat → Int32} {L : Nat → Nat → Int64} {n : Nat} (h : XR I A (B 17) n) (z1 z2 : Int32) : (fX6_hasWindow I A z1 z2 = 0 ∧ fM12_isWindow J B L z1 z2 = 0) ∨ (fX6_hasWindow I A z1 z2 = 1 ∧ fM12_isWindow J B L z1 z2 = 1 ∧ ∃ s k : Nat, z1.toInt = (s : Int) ∧ z2.toInt = (k : Int) ∧ wnR (B 17) n s k) := by
  rcases x_win h (z1 := z1) (z2 := z2) with ⟨a, b⟩ | ⟨a, s, k, b, c, d⟩
  · rcases m_win (J := J) (L := L) h.1 (z1 := z1) (z2 := z2) with ⟨a2, b2⟩ | ⟨a2, s2, k2, b2, c2, d2⟩
    · exact Or.inl ⟨a, a2⟩
    · exact absurd d2 (b s2 k2 b2 c2)
  · rcases m_win (J := J) (L := L) h.1 (z1 := z1) (z2 := z2) with ⟨a2, b2⟩ | ⟨a2, s2, k2, b2, c2, d2⟩
    · exact absurd d (b2 s k b c)
    · exact Or.inr ⟨a, a2, s, k, b, c, d⟩
theorem x_sum {I : Nat → Int32} {A : Nat → Nat → Int32} {r : Nat → Int32} {n s k : Nat} (h : XR I A r n) {z1 z2 : Int32} (hs : z1.toInt = (s : Int)) (hk : z2.toInt = (k : Int)) (hsk : s + k ≤ n) : (fX6_sumOf I A z1 z2).toInt = smR r s k := by
  have hn := h.1.2.1
  unfold fX6_sumOf
  refine run_ii (Q := fun (v : Int32) => v.toInt = smR r s k) k (fun j x a => x.toInt = (j : Int) ∧ a.toInt = smR r s j) (fun G j x a hj hP => ?_) FU 0 0 0 ⟨rfl, rfl⟩ (by omega) (fu_lt (by omega))
  obtain ⟨hx, ha⟩ := hP
  unfold bX6_sumOf_5
  dsimp only [f_lt]
  by_cases c : z2.toInt ≤ x.toInt
  · rw [if_pos c]
    right; rw [ha, show j = k by omega]
  · rw [if_neg c]
    left
    refine ⟨by omega, ?_⟩
    have e := i_ad hs hx (by omega) (by omega)
    have b1 := smR_b h.1 j (s := s) (by omega)
    have v := h.1.v (i := s + j) (by omega)
    rcases h.has e with ⟨a1, a2⟩ | ⟨a1, a2, a3⟩
    · rw [a1, if_pos rfl]
      refine ⟨_, _, rfl, i_s hx (by omega), ?_⟩
      show a.toInt = smR r s j + vR (r (1 + (s + j)))
      rcases v with ⟨-, v, -⟩ | ⟨v, -⟩
      · omega
      · exact absurd ⟨by omega, v⟩ a2
    · rw [a1, if_neg (by decide), a3]
      refine ⟨_, _, rfl, i_s hx (by omega), ?_⟩
      show (a + r (1 + (s + j))).toInt = smR r s j + vR (r (1 + (s + j)))
      rcases v with ⟨v, -⟩ | ⟨-, v, -, v2, v3⟩
      · exact absurd v a2.2
      · have := i32_add (x := a) (y := r (1 + (s + j))) rfl ha rfl (by omega) (by omega)
        omega
theorem m_sum {J : Nat → Int32} {B : Nat → Nat → Int32} {L : Nat → Nat → Int64} {n s k : Nat} (h : rok (B 17) n) {z1 z2 : Int32} (hs : z1.toInt = (s : Int)) (hk : z2.toInt = (k : Int)) (hw : wnR (B 17) n s k) : (fM12_sumOf J B L z1 z2).toInt = smR (B 17) s k := by
  have hn := h.2.1
  have hsk := hw.2.1
  unfold fM12_sumOf
  refine run_ii (Q := fun (v : Int32) => v.toInt = smR (B 17) s k) k (fun j x a => x.toInt = ((s + j : Nat) : Int) ∧ a.toInt = smR (B 17) s j) (fun G j x a hj hP => ?_) FU 0 z1 0 ⟨by omega, rfl⟩ (by omega) (fu_lt (by omega))
  obtain ⟨hx, ha⟩ := hP
  have e := i_ad hs hk (by omega) (by omega)
  unfold bM12_sumOf_5
  dsimp only [f_lt]
  by_cases c : (z1 + z2).toInt ≤ x.toInt
  · rw [if_pos c]
    right; rw [ha, show j = k by omega]
  · rw [if_neg c, i_1 hx (by omega)]
    left
    refine ⟨by omega, _, _, rfl, i_s (k := s + j) hx (by omega), ?_⟩
    have b1 := smR_b h j (s := s) (by omega)
    show (a + B 17 (1 + (s + j))).toInt = smR (B 17) s j + vR (B 17 (1 + (s + j)))
    rcases h.v (i := s + j) (by omega) with ⟨v, -⟩ | ⟨-, v, -, v2, v3⟩
    · exact absurd v (hw.2.2 j (by omega))
    · have := i32_add (x := a) (y := B 17 (1 + (s + j))) rfl ha rfl (by omega) (by omega)
      omega
theorem x_least {I : Nat → Int32} {A : Nat → Nat → Int32} {r : Nat → Int32} {n s k : Nat} (h : XR I A r n) {z1 z2 : Int32} (hs : z1.toInt = (s : Int)) (hk : z2.toInt = (k : Int)) (hsk : s + k ≤ n) : (fX6_leastOf I A z1 z2).toInt = if mnR r s k = 100000 then -1000 else mnR r s k := by
  have hn := h.1.2.1
  unfold fX6_leastOf
  refine run_ii (Q := fun (v : Int32) => v.toInt = if mnR r s k = 100000 then -1000 else mnR r s k) k (fun j x a => x.toInt = (j : Int) ∧ a.toInt = if mnR r s j = 100000 then -1000 else mnR r s j) (fun G j x a hj hP => ?_) FU 0 0 (-1000) ⟨rfl, rfl⟩ (by omega) (fu_lt (by omega))
  obtain ⟨hx, ha⟩ := hP
  unfold bX6_leastOf_7
  dsimp only [f_lt]
  by_cases c : z2.toInt ≤ x.toInt
  · rw [if_pos c]
    right; rw [ha, show j = k by omega]
  · rw [if_neg c]
    left
    refine ⟨by omega, ?_⟩
    have e := i_ad hs hx (by omega) (by omega)
    have b1 := mnR_b h.1 j (s := s) (by omega)
    rcases h.2.2 _ _ e (by omega) with ⟨v1, v2⟩ | ⟨v1, v2, v3, v4⟩
    · rw [if_pos v2]
      refine ⟨_, _, rfl, i_s hx (by omega), ?_⟩
      unfold mnR
      rw [if_neg (show ¬ (r (1 + (s + j))).toInt < mnR r s j by omega)]; exact ha
    · rw [v2, if_neg (by omega)]
      by_cases c5 : mnR r s j = 100000
      · rw [if_pos c5] at ha
        rw [if_pos ha]
        refine ⟨_, _, rfl, i_s hx (by omega), ?_⟩
        unfold mnR
        rw [if_pos (show (r (1 + (s + j))).toInt < mnR r s j by omega), if_neg v1]
      · rw [if_neg c5] at ha
        rw [if_neg (by omega)]
        by_cases c6 : a.toInt ≤ (r (1 + (s + j))).toInt
        · rw [if_pos c6]
          refine ⟨_, _, rfl, i_s hx (by omega), ?_⟩
          unfold mnR
          rw [if_neg (show ¬ (r (1 + (s + j))).toInt < mnR r s j by omega), if_neg c5]; exact ha
        · rw [if_neg c6]
          refine ⟨_, _, rfl, i_s hx (by omega), ?_⟩
          unfold mnR
          rw [if_pos (show (r (1 + (s + j))).toInt < mnR r s j by omega), if_neg v1]
theorem m_least {J : Nat → Int32} {B : Nat → Nat → Int32} {L : Nat → Nat → Int64} {n s k : Nat} (h : rok (B 17) n) {z1 z2 : Int32} (hs : z1.toInt = (s : Int)) (hk : z2.toInt = (k : Int)) (hw : wnR (B 17) n s k) : (fM12_leastOf J B L z1 z2).toInt = mnR (B 17) s k ∧ mnR (B 17) s k ≠ 100000 := by
  have hn := h.2.1
  have hsk := hw.2.1
  have hk1 := hw.1
  have b0 := h.v (i := s) (by omega)
  have w0 := hw.2.2 0 (by omega)
  have l0 := mnR_le (r := B 17) (s := s) k 0 (by omega)
  rw [show s + 0 = s by omega] at w0 l0
  refine ⟨?_, by omega⟩
  unfold fM12_leastOf
  simp only [f_lt_eq]
  rw [i_1 hs (by omega)]
  have m0 : mnR (B 17) s 0 = 100000 := rfl
  have ini : (B 17 (1 + s)).toInt = if (B 17 (1 + s)).toInt < mnR (B 17) s 0 then (B 17 (1 + s)).toInt else mnR (B 17) s 0 := by rw [m0, if_pos (by omega)]
  refine run_ii (Q := fun (v : Int32) => v.toInt = mnR (B 17) s k) k (fun j x a => x.toInt = ((s + j : Nat) : Int) ∧ a.toInt = if (B 17 (1 + s)).toInt < mnR (B 17) s j then (B 17 (1 + s)).toInt else mnR (B 17) s j) (fun G j x a hj hP => ?_) FU 0 z1 _ ⟨by omega, ini⟩ (by omega) (fu_lt (by omega))
  obtain ⟨hx, ha⟩ := hP
  have e := i_ad hs hk (by omega) (by omega)
  unfold bM12_leastOf_12
  dsimp only [f_lt]
  by_cases c : (z1 + z2).toInt ≤ x.toInt
  · rw [if_pos c]
    right; rw [ha, show j = k by omega, if_neg (by omega)]
  · rw [if_neg c, i_1 hx (by omega)]
    left
    refine ⟨by omega, ?_⟩
    by_cases c6 : a.toInt ≤ (B 17 (1 + (s + j))).toInt
    · rw [if_pos c6]
      refine ⟨_, _, rfl, i_s (k := s + j) hx (by omega), ?_⟩
      unfold mnR
      split at ha <;> split <;> first | omega | (split <;> omega)
    · rw [if_neg c6]
      refine ⟨_, _, rfl, i_s (k := s + j) hx (by omega), ?_⟩
      unfold mnR
      split at ha <;> split <;> first | omega | (split <;> omega)
theorem x_great {I : Nat → Int32} {A : Nat → Nat → Int32} {r : Nat → Int32} {n s k : Nat} (h : XR I A r n) {z1 z2 : Int32} (hs : z1.toInt = (s : Int)) (hk : z2.toInt = (k : Int)) (hsk : s + k ≤ n) : (fX6_greatestOf I A z1 z2).toInt = mxR r s k := by
  have hn := h.1.2.1
  unfold fX6_greatestOf
  refine run_ii (Q := fun (v : Int32) => v.toInt = mxR r s k) k (fun j x a => x.toInt = (j : Int) ∧ a.toInt = mxR r s j) (fun G j x a hj hP => ?_) FU 0 0 (-1000) ⟨rfl, rfl⟩ (by omega) (fu_lt (by omega))
  obtain ⟨hx, ha⟩ := hP
  unfold bX6_greatestOf_7
  dsimp only [f_lt]
  by_cases c : z2.toInt ≤ x.toInt
  · rw [if_pos c]
    right; rw [ha, show j = k by omega]
  · rw [if_neg c]
    left
    have e := i_ad hs hx (by omega) (by omega)
    have v0 := h.1.v (i := s + j) (by omega)
    have g : (fX6_valueAt I A (z1 + x)).toInt = gR (r (1 + (s + j))) := by
      rcases h.2.2 _ _ e (by omega) with ⟨v1, v2⟩ | ⟨v1, v2, v3, v4⟩
      · rcases v0 with ⟨-, -, v0⟩ | ⟨v0, -⟩ <;> omega
      · rw [v2]; rcases v0 with ⟨v0, -⟩ | ⟨-, -, v0, -⟩ <;> omega
    refine ⟨by omega, _, _, rfl, i_s hx (by omega), ?_⟩
    have mm := i32_max (x := a) (y := fX6_valueAt I A (z1 + x)) rfl
    unfold mxR
    rcases mm with ⟨m1, m2⟩ | ⟨m1, m2⟩ <;> rw [m1] <;> split <;> omega
theorem m_most {J : Nat → Int32} {B : Nat → Nat → Int32} {L : Nat → Nat → Int64} {n s k : Nat} (h : rok (B 17) n) {z1 z2 : Int32} (hs : z1.toInt = (s : Int)) (hk : z2.toInt = (k : Int)) (hw : wnR (B 17) n s k) : (fM12_mostOf J B L z1 z2).toInt = mxR (B 17) s k := by
  have hn := h.2.1
  have hsk := hw.2.1
  have hk1 := hw.1
  have b0 := h.v (i := s) (by omega)
  have w0 := hw.2.2 0 (by omega)
  have l0 := mxR_le (r := B 17) (s := s) k 0 (by omega)
  rw [show s + 0 = s by omega] at w0 l0
  unfold fM12_mostOf
  simp only [f_lt_eq]
  rw [i_1 hs (by omega)]
  have m0 : mxR (B 17) s 0 = -1000 := rfl
  have ini : (B 17 (1 + s)).toInt = if mxR (B 17) s 0 < (B 17 (1 + s)).toInt then (B 17 (1 + s)).toInt else mxR (B 17) s 0 := by rw [m0, if_pos (by omega)]
  refine run_ii (Q := fun (v : Int32) => v.toInt = mxR (B 17) s k) k (fun j x a => x.toInt = ((s + j : Nat) : Int) ∧ a.toInt = if mxR (B 17) s j < (B 17 (1 + s)).toInt then (B 17 (1 + s)).toInt else mxR (B 17) s j) (fun G j x a hj hP => ?_) FU 0 z1 _ ⟨by omega, ini⟩ (by omega) (fu_lt (by omega))
  obtain ⟨hx, ha⟩ := hP
  have e := i_ad hs hk (by omega) (by omega)
  unfold bM12_mostOf_12
  dsimp only [f_lt]
  by_cases c : (z1 + z2).toInt ≤ x.toInt
  · rw [if_pos c]
    right; rw [ha, show j = k by omega, if_neg (by omega)]
  · rw [if_neg c, i_1 hx (by omega)]
    left
    refine ⟨by omega, ?_⟩
    have wj := hw.2.2 j (by omega)
    have vj := h.v (i := s + j) (by omega)
    by_cases c6 : (B 17 (1 + (s + j))).toInt ≤ a.toInt
    · rw [if_pos c6]
      refine ⟨_, _, rfl, i_s (k := s + j) hx (by omega), ?_⟩
      unfold mxR
      split at ha <;> split <;> first | omega | (split <;> omega)
    · rw [if_neg c6]
      refine ⟨_, _, rfl, i_s (k := s + j) hx (by omega), ?_⟩
      unfold mxR
      split at ha <;> split <;> first | omega | (split <;> omega)
theorem window_eq {I : Nat → Int32} {A : Nat → Nat → Int32} {J : Nat → Int32} {B : Nat → Nat → Int32} {L : Nat → Nat → Int64} {n : Nat} (h : XR I A (B 17) n) (z1 z2 z3 : Int32) : fX11_window I A z1 z2 z3 = fM12_window J B L z1 z2 z3 := by
  have hn := h.1.2.1
  unfold fX11_window fM12_window
  simp only [f_lt_eq]
  rcases win_eq (J := J) (L := L) h z1 z2 with ⟨a, b⟩ | ⟨a, b, s, k, hs, hk, hw⟩
  · rw [a, b, if_pos rfl, if_pos rfl]
    split <;> rfl
  · have hsk := hw.2.1
    have hk1 := hw.1
    have e1 := x_sum h hs hk hsk
    have e2 := m_sum (J := J) (L := L) h.1 hs hk hw
    have e3 := x_least h hs hk hsk
    have e4 := m_least (J := J) (L := L) h.1 hs hk hw
    have e5 := x_great h hs hk hsk
    have e6 := m_most (J := J) (L := L) h.1 hs hk hw
    have s1 : fX6_sumOf I A z1 z2 = fM12_sumOf J B L z1 z2 := Int32.toInt_inj.mp (by omega)
    rw [if_neg e4.2] at e3
    have s2 : fX6_leastOf I A z1 z2 = fM12_leastOf J B L z1 z2 := Int32.toInt_inj.mp (by omega)
    have s3 : fX6_greatestOf I A z1 z2 = fM12_mostOf J B L z1 z2 := Int32.toInt_inj.mp (by omega)
    have s4 : fX_floorDiv I A (fM12_sumOf J B L z1 z2) z2 = fM12_downBy J B L (fM12_sumOf J B L z1 z2) z2 := Int32.toInt_inj.mp (by rw [fdX (by omega), fdM (by omega)])
    rw [a, b, if_neg (show ¬ z2.toInt < 1 by omega), if_neg (show ¬ (1 : Int32) = 0 by decide), if_neg (show ¬ (1 : Int32) = 0 by decide), s1, s2, s3, s4]
end
section
theorem gaps_eq {I : Nat → Int32} {A : Nat → Nat → Int32} {J : Nat → Int32} {B : Nat → Nat → Int32} {L : Nat → Nat → Int64} {fs : Int} (h17 : (I 17).toInt = fs % 256) (hR : Rep fs (I 18).toInt (A 7) (A 10) (B 17)) : fX6_gapCount I A = fM12_gaps J B L := by
  have e : bX6_gapCount_4 I A = bM12_gaps_4 B J L := by
    funext G x y
    unfold bX6_gapCount_4 bM12_gaps_4
    dsimp only [f_lt]
    rw [x_there (J := J) (L := L) h17 hR x, hR.1]
  unfold fX6_gapCount fM12_gaps
  rw [e]
theorem held_eq {I : Nat → Int32} {A B : Nat → Nat → Int32} (h : SLS I A B) : fX11_slotsHeld I A = if (B 27 0).toInt = 0 then if (B 27 1).toInt = 0 then if (B 27 2).toInt = 0 then 0 else 1 else if (B 27 2).toInt = 0 then 1 else 2 else if (B 27 1).toInt = 0 then if (B 27 2).toInt = 0 then 1 else 2 else if (B 27 2).toInt = 0 then 2 else 3 := by
  have s0 : ∀ (G : Int32 → Int32 → Int32) (y : Int32), bX11_slotsHeld_4 I A G 0 y = G 1 (if (I 23).toInt = 0 then y else y + Int32.ofInt 1) := fun G y => by
    unfold bX11_slotsHeld_4
    dsimp only [f_lt]
    rw [if_neg (by decide), if_pos (by decide)]
    split <;> rfl
  have s1 : ∀ (G : Int32 → Int32 → Int32) (y : Int32), bX11_slotsHeld_4 I A G 1 y = G 2 (if (I 25).toInt = 0 then y else y + Int32.ofInt 1) := fun G y => by
    unfold bX11_slotsHeld_4
    dsimp only [f_lt]
    rw [if_neg (by decide), if_neg (by decide), if_pos (by decide)]
    split <;> rfl
  have s2 : ∀ (G : Int32 → Int32 → Int32) (y : Int32), bX11_slotsHeld_4 I A G 2 y = G 3 (if (I 27).toInt = 0 then y else y + Int32.ofInt 1) := fun G y => by
    unfold bX11_slotsHeld_4
    dsimp only [f_lt]
    rw [if_neg (by decide), if_neg (by decide), if_neg (by decide), if_pos (by decide)]
    split <;> rfl
  have s3 : ∀ (G : Int32 → Int32 → Int32) (y : Int32), bX11_slotsHeld_4 I A G 3 y = y := fun G y => by
    unfold bX11_slotsHeld_4
    rw [if_pos (by decide)]
  have e : ∀ (m : Nat) (x y : Int32), itr_ii (0 : Int32) (bX11_slotsHeld_4 I A) (m + 1) x y = bX11_slotsHeld_4 I A (itr_ii 0 (bX11_slotsHeld_4 I A) m) x y := fun _ _ _ => rfl
  obtain ⟨m, hm⟩ : ∃ m, FU = m + 1 + 1 + 1 + 1 := ⟨FU - 4, by have := FU_eq; omega⟩
  unfold fX11_slotsHeld
  rw [hm, e, s0, e, s1, e, s2, e, s3]
  have a0 : (I 23).toInt ≠ 0 ↔ (B 27 0).toInt ≠ 0 := h.1.1
  have a1 : (I 25).toInt ≠ 0 ↔ (B 27 1).toInt ≠ 0 := h.2.1.1
  have a2 : (I 27).toInt ≠ 0 ↔ (B 27 2).toInt ≠ 0 := h.2.2.1
  have b0 : (I 23).toInt = 0 ↔ (B 27 0).toInt = 0 := by omega
  have b1 : (I 25).toInt = 0 ↔ (B 27 1).toInt = 0 := by omega
  have b2 : (I 27).toInt = 0 ↔ (B 27 2).toInt = 0 := by omega
  simp only [b0, b1, b2]
  by_cases c0 : (B 27 0).toInt = 0
  · by_cases c1 : (B 27 1).toInt = 0
    · by_cases c2 : (B 27 2).toInt = 0
      · simp only [c0, c1, c2, ↓reduceIte]
      · simp only [c0, c1, c2, ↓reduceIte]; decide
    · by_cases c2 : (B 27 2).toInt = 0
      · simp only [c0, c1, c2, ↓reduceIte]; decide
      · simp only [c0, c1, c2, ↓reduceIte]; decide
  · by_cases c1 : (B 27 1).toInt = 0
    · by_cases c2 : (B 27 2).toInt = 0
      · simp only [c0, c1, c2, ↓reduceIte]; decide
      · simp only [c0, c1, c2, ↓reduceIte]; decide
    · by_cases c2 : (B 27 2).toInt = 0
      · simp only [c0, c1, c2, ↓reduceIte]; decide
      · simp only [c0, c1, c2, ↓reduceIte]; decide
/-- readings at the end -/
def reR (r : Nat → Int32) (n k : Nat) : Prop := k ≤ n ∧ (∀ i, i < k → thR r n (n - 1 - i)) ∧ ¬ (k < n ∧ thR r n (n - 1 - k))
theorem reR.uq {r : Nat → Int32} {n k k' : Nat} (h : reR r n k) (h' : reR r n k') : k = k' := by
  by_cases c : k < k'
  · exact absurd ⟨by have := h'.1; omega, h'.2.1 k c⟩ h.2.2
  · by_cases d : k' < k
    · exact absurd ⟨by have := h.1; omega, h.2.1 k' d⟩ h'.2.2
    · omega
theorem x_end {I : Nat → Int32} {A : Nat → Nat → Int32} {r : Nat → Int32} {n : Nat} (h : XR I A r n) : ∃ k : Nat, (fX6_readingsAtEnd I A).toInt = (k : Int) ∧ reR r n k := by
  have hn := h.1.2.1
  have h18 := h.2.1
  have d := i32_sub (x := I 18) (y := 1) (b := 1) rfl h18 rfl (by omega) (by omega)
  unfold fX6_readingsAtEnd
  simp only [f_lt_eq]
  refine run_ii (Q := fun (v : Int32) => ∃ k : Nat, v.toInt = (k : Int) ∧ reR r n k) n (fun j x a => x.toInt = (n : Int) - 1 - j ∧ a.toInt = (j : Int) ∧ ∀ i, i < j → thR r n (n - 1 - i)) (fun G j x a hj hP => ?_) FU 0 _ 0 ⟨by omega, rfl, fun i hi => by omega⟩ (by omega) (fu_lt (by omega))
  obtain ⟨hx, ha, hi⟩ := hP
  unfold bX6_readingsAtEnd_9
  dsimp only [f_lt]
  by_cases c : x.toInt < 0
  · rw [if_pos c]
    right; exact ⟨j, ha, hj, hi, fun h9 => by omega⟩
  · rw [if_neg c]
    rcases h.has (z := x) (i := n - 1 - j) (by omega) with ⟨a1, a2⟩ | ⟨a1, a2, -⟩
    · rw [a1, if_pos rfl]
      right; exact ⟨j, ha, hj, hi, fun h9 => a2 h9.2⟩
    · rw [a1, if_neg (by decide)]
      left
      have e1 := i32_add (x := x) (y := Int32.ofInt (-1)) (b := -1) rfl hx (by decide) (by omega) (by omega)
      refine ⟨by omega, _, _, rfl, by omega, i_s ha (by omega), fun i h9 => ?_⟩
      by_cases ei : i = j
      · rw [ei]; exact a2
      · exact hi i (by omega)
theorem m_end {J : Nat → Int32} {B : Nat → Nat → Int32} {L : Nat → Nat → Int64} {n : Nat} (h : rok (B 17) n) : ∃ k : Nat, (itr_i (0 : Int32) (bM12_count_134 B J L) FU 0).toInt = (k : Int) ∧ reR (B 17) n k := by
  have hn := h.2.1
  have d := i32_sub (x := B 17 0) (y := 1) (b := 1) rfl h.1 rfl (by omega) (by omega)
  refine run_i (Q := fun (v : Int32) => ∃ k : Nat, v.toInt = (k : Int) ∧ reR (B 17) n k) n (fun j x => x.toInt = (j : Int) ∧ ∀ i, i < j → thR (B 17) n (n - 1 - i)) (fun G j x hj hP => ?_) FU 0 0 ⟨rfl, fun i hi => by omega⟩ (by omega) (fu_lt (by omega))
  obtain ⟨hx, hi⟩ := hP
  have e := i32_sub (x := B 17 0 - 1) (y := x) rfl d hx (by omega) (by omega)
  unfold bM12_count_134
  dsimp only [f_lt]
  by_cases c : j < n
  · rcases h.m (J := J) (L := L) (z := B 17 0 - 1 - x) (i := n - 1 - j) (by omega) with ⟨a1, a2⟩ | ⟨a1, a2⟩
    · rw [a1, if_pos rfl]
      right; exact ⟨j, hx, hj, hi, fun h9 => a2 h9.2⟩
    · rw [a1, if_neg (by decide)]
      left
      refine ⟨c, _, rfl, i_s hx (by omega), fun i h9 => ?_⟩
      by_cases ei : i = j
      · rw [ei]; exact a2
      · exact hi i (by omega)
  · rw [m_there h.1 (by omega) (by omega), if10, if_neg (by omega)]
    right; exact ⟨j, hx, hj, hi, fun h9 => c h9.1⟩
/-- a run of readings from s on -/
def rnR (r : Nat → Int32) (n s k : Nat) : Prop := s + k ≤ n ∧ (∀ j, j < k → thR r n (s + j)) ∧ ¬ thR r n (s + k)
theorem rnR.uq {r : Nat → Int32} {n s k k' : Nat} (h : rnR r n s k) (h' : rnR r n s k') : k = k' := by
  by_cases c : k < k'
  · exact absurd (h'.2.1 k c) h.2.2
  · by_cases d : k' < k
    · exact absurd (h.2.1 k' d) h'.2.2
    · omega
theorem x_run {I : Nat → Int32} {A : Nat → Nat → Int32} {r : Nat → Int32} {n s : Nat} (h : XR I A r n) {z : Int32} (hs : z.toInt = (s : Int)) (hsn : s ≤ n) : ∃ k : Nat, (fX6_runFrom I A z).toInt = (k : Int) ∧ rnR r n s k := by
  have hn := h.1.2.1
  have h18 := h.2.1
  unfold fX6_runFrom
  refine run_ii (Q := fun (v : Int32) => ∃ k : Nat, v.toInt = (k : Int) ∧ rnR r n s k) (n - s) (fun j x a => x.toInt = ((s + j : Nat) : Int) ∧ a.toInt = (j : Int) ∧ ∀ i, i < j → thR r n (s + i)) (fun G j x a hj hP => ?_) FU 0 z 0 ⟨by omega, rfl, fun i hi => by omega⟩ (by omega) (fu_lt (by omega))
  obtain ⟨hx, ha, hi⟩ := hP
  unfold bX6_runFrom_4
  dsimp only [f_lt]
  by_cases c : (I 18).toInt ≤ x.toInt
  · rw [if_pos c]
    right; exact ⟨j, ha, by omega, hi, fun h9 => by have := h9.1; omega⟩
  · rw [if_neg c]
    rcases h.has hx with ⟨a1, a2⟩ | ⟨a1, a2, -⟩
    · rw [a1, if_pos rfl]
      right; exact ⟨j, ha, by omega, hi, a2⟩
    · rw [a1, if_neg (by decide)]
      left
      refine ⟨by omega, _, _, rfl, i_s (k := s + j) hx (by omega), i_s ha (by omega), fun i h9 => ?_⟩
      by_cases ei : i = j
      · rw [ei]; exact a2
      · exact hi i (by omega)
theorem m_run0 {J : Nat → Int32} {B : Nat → Nat → Int32} {L : Nat → Nat → Int64} {n : Nat} (h : rok (B 17) n) : ∃ k : Nat, (itr_i (0 : Int32) (bM12_count_362 J B L) FU 0).toInt = (k : Int) ∧ rnR (B 17) n 0 k := by
  have hn := h.2.1
  refine run_i (Q := fun (v : Int32) => ∃ k : Nat, v.toInt = (k : Int) ∧ rnR (B 17) n 0 k) n (fun j x => x.toInt = (j : Int) ∧ ∀ i, i < j → thR (B 17) n (0 + i)) (fun G j x hj hP => ?_) FU 0 0 ⟨rfl, fun i hi => by omega⟩ (by omega) (fu_lt (by omega))
  obtain ⟨hx, hi⟩ := hP
  unfold bM12_count_362
  dsimp only [f_lt]
  rcases h.m (J := J) (L := L) hx with ⟨a1, a2⟩ | ⟨a1, a2⟩
  · rw [a1, if_pos rfl]
    right; exact ⟨j, hx, by omega, hi, by rw [Nat.zero_add]; exact a2⟩
  · rw [a1, if_neg (by decide)]
    left
    refine ⟨a2.1, _, rfl, i_s hx (by omega), fun i h9 => ?_⟩
    by_cases ei : i = j
    · rw [ei, Nat.zero_add]; exact a2
    · exact hi i (by omega)
theorem m_c10 {J : Nat → Int32} {B : Nat → Nat → Int32} {L : Nat → Nat → Int64} {n : Nat} (h : rok (B 17) n) : (itr_ii (0 : Int32) (bM12_count_171 B J L) FU 0 0).toInt = smR (B 17) 0 n := by
  have hn := h.2.1
  refine run_ii (Q := fun (v : Int32) => v.toInt = smR (B 17) 0 n) n (fun j x a => x.toInt = (j : Int) ∧ a.toInt = smR (B 17) 0 j) (fun G j x a hj hP => ?_) FU 0 0 0 ⟨rfl, rfl⟩ (by omega) (fu_lt (by omega))
  obtain ⟨hx, ha⟩ := hP
  unfold bM12_count_171
  dsimp only [f_lt]
  by_cases c : (B 17 0).toInt ≤ x.toInt
  · rw [if_pos c]
    right; rw [ha, show j = n by have := h.1; omega]
  · rw [if_neg c]
    have h0 := h.1
    left
    refine ⟨by omega, ?_⟩
    have b1 := smR_b h j (s := 0) (by omega)
    have v := h.v (i := j) (by omega)
    rcases h.m (J := J) (L := L) hx with ⟨a1, a2⟩ | ⟨a1, a2⟩
    · rw [a1, if_pos rfl]
      refine ⟨_, _, rfl, i_s hx (by omega), ?_⟩
      show a.toInt = smR (B 17) 0 j + vR (B 17 (1 + (0 + j)))
      rw [Nat.zero_add]
      rcases v with ⟨-, v, -⟩ | ⟨v, -⟩
      · omega
      · exact absurd ⟨by omega, v⟩ a2
    · rw [a1, if_neg (by decide), i_1 hx (by omega)]
      refine ⟨_, _, rfl, i_s hx (by omega), ?_⟩
      show (a + B 17 (1 + j)).toInt = smR (B 17) 0 j + vR (B 17 (1 + (0 + j)))
      rw [Nat.zero_add]
      rcases v with ⟨v, -⟩ | ⟨-, v, -, v2, v3⟩
      · exact absurd v a2.2
      · have := i32_add (x := a) (y := B 17 (1 + j)) rfl ha rfl (by omega) (by omega)
        omega
theorem m_c12 {J : Nat → Int32} {B : Nat → Nat → Int32} {L : Nat → Nat → Int64} {n : Nat} (h : rok (B 17) n) : (itr_ii (0 : Int32) (bM12_count_259 B J L) FU 0 (-1000)).toInt = mxR (B 17) 0 n := by
  have hn := h.2.1
  refine run_ii (Q := fun (v : Int32) => v.toInt = mxR (B 17) 0 n) n (fun j x a => x.toInt = (j : Int) ∧ a.toInt = mxR (B 17) 0 j) (fun G j x a hj hP => ?_) FU 0 0 (-1000) ⟨rfl, rfl⟩ (by omega) (fu_lt (by omega))
  obtain ⟨hx, ha⟩ := hP
  unfold bM12_count_259
  dsimp only [f_lt]
  by_cases c : (B 17 0).toInt ≤ x.toInt
  · rw [if_pos c]
    right; rw [ha, show j = n by have := h.1; omega]
  · rw [if_neg c]
    have h0 := h.1
    left
    refine ⟨by omega, ?_⟩
    have b1 := mxR_b h j (s := 0) (by omega)
    have v := h.v (i := j) (by omega)
    rcases h.m (J := J) (L := L) hx with ⟨a1, a2⟩ | ⟨a1, a2⟩
    · rw [a1, if_pos rfl]
      refine ⟨_, _, rfl, i_s hx (by omega), ?_⟩
      unfold mxR
      rw [Nat.zero_add]
      rcases v with ⟨-, -, v⟩ | ⟨v, -⟩
      · rw [if_neg (by omega)]; exact ha
      · exact absurd ⟨by omega, v⟩ a2
    · rw [a1, if_neg (by decide), i_1 hx (by omega)]
      rcases v with ⟨v, -⟩ | ⟨-, -, v, v2, v3⟩
      · exact absurd v a2.2
      · by_cases c6 : (B 17 (1 + j)).toInt ≤ a.toInt
        · rw [if_pos c6]
          refine ⟨_, _, rfl, i_s hx (by omega), ?_⟩
          unfold mxR
          rw [Nat.zero_add, if_neg (by omega)]; exact ha
        · rw [if_neg c6]
          refine ⟨_, _, rfl, i_s hx (by omega), ?_⟩
          unfold mxR
          rw [Nat.zero_add, if_pos (by omega)]; omega
theorem m_c13 {J : Nat → Int32} {B : Nat → Nat → Int32} {L : Nat → Nat → Int64} {n : Nat} (h : rok (B 17) n) : (itr_ii (0 : Int32) (bM12_count_311 B J L) FU 0 100000).toInt = if mnR (B 17) 0 n = 100000 then -1000 else mnR (B 17) 0 n := by
  have hn := h.2.1
  refine run_ii (Q := fun (v : Int32) => v.toInt = if mnR (B 17) 0 n = 100000 then -1000 else mnR (B 17) 0 n) n (fun j x a => x.toInt = (j : Int) ∧ a.toInt = mnR (B 17) 0 j) (fun G j x a hj hP => ?_) FU 0 0 100000 ⟨rfl, rfl⟩ (by omega) (fu_lt (by omega))
  obtain ⟨hx, ha⟩ := hP
  unfold bM12_count_311
  dsimp only [f_lt]
  by_cases c : (B 17 0).toInt ≤ x.toInt
  · rw [if_pos c]
    right
    have ej : j = n := by have := h.1; omega
    subst ej
    by_cases c2 : mnR (B 17) 0 j = 100000
    · rw [if_neg (by omega), if_pos c2]; rfl
    · rw [if_pos (by omega), if_neg c2]; exact ha
  · rw [if_neg c, i_1 hx (by omega)]
    have h0 := h.1
    left
    refine ⟨by omega, ?_⟩
    by_cases c6 : a.toInt ≤ (B 17 (1 + j)).toInt
    · rw [if_pos c6]
      refine ⟨_, _, rfl, i_s hx (by omega), ?_⟩
      unfold mnR
      rw [Nat.zero_add, if_neg (by omega)]; exact ha
    · rw [if_neg c6]
      refine ⟨_, _, rfl, i_s hx (by omega), ?_⟩
      unfold mnR
      rw [Nat.zero_add, if_pos (by omega)]
theorem count_eq {I J : Nat → Int32} {A B : Nat → Nat → Int32} {M : Nat → Nat → Int64} (h : RA I A J B M) (z : Int32) : fX11_count I A z = fM12_count J B M z := by
  obtain ⟨hT, hH, hQ, hS⟩ := h
  obtain ⟨n, hx⟩ := hH.xr
  obtain ⟨fs, u, nx, h17, h21, h22, -, -, -, hR, -⟩ := hH
  have r4 := hR.2.2.2.2
  unfold fX11_count fM12_count
  simp only [f_lt_eq]
  have ev : ∀ (y : Int32) (k : Nat), y.toInt = (k : Int) → k < 4 → fX7_valueOf_2 I A y = B 17 (161 + k) := fun y k hy hk => by
    unfold fX7_valueOf_2
    rw [if_neg (by omega), if_neg (by omega), clN hy, r4.at hk]
  have e0 : I 18 = B 17 0 := Int32.toInt_inj.mp (by rw [hx.2.1, hx.1.1])
  have e9 : I 21 = J 22 := Int32.toInt_inj.mp (by omega)
  have n0 := hx.2.1
  have s10 : fX6_sumOf I A 0 (I 18) = itr_ii (0 : Int32) (bM12_count_171 B J M) FU 0 0 := Int32.toInt_inj.mp (by rw [x_sum hx (s := 0) rfl n0 (by omega), m_c10 hx.1])
  have s12 : fX6_greatestOf I A 0 (I 18) = itr_ii (0 : Int32) (bM12_count_259 B J M) FU 0 (-1000) := Int32.toInt_inj.mp (by rw [x_great hx (s := 0) rfl n0 (by omega), m_c12 hx.1])
  have s13 : fX6_leastOf I A 0 (I 18) = itr_ii (0 : Int32) (bM12_count_311 B J M) FU 0 100000 := Int32.toInt_inj.mp (by rw [x_least hx (s := 0) rfl n0 (by omega), m_c13 hx.1])
  have s7 : fX6_readingsAtEnd I A = itr_i (0 : Int32) (bM12_count_134 B J M) FU 0 := by
    obtain ⟨k, a, b⟩ := x_end hx
    obtain ⟨k', a', b'⟩ := m_end (J := J) (L := M) hx.1
    exact Int32.toInt_inj.mp (by rw [a, a', b.uq b'])
  have s14 : fX6_runFrom I A 0 = itr_i (0 : Int32) (bM12_count_362 J B M) FU 0 := by
    obtain ⟨k, a, b⟩ := x_run hx (z := 0) (s := 0) rfl (by omega)
    obtain ⟨k', a', b'⟩ := m_run0 (J := J) (L := M) hx.1
    exact Int32.toInt_inj.mp (by rw [a, a', b.uq b'])
  have s2 : I 19 = if (J 15).toInt = 0 then B 10 0 else if (J 15).toInt = 1 then B 10 1 else 0 := by
    obtain ⟨σ, nq, q1, q2, q3, q4, -⟩ := hQ
    have hc : σ = 0 ∨ σ = 1 := by omega
    rcases hc with e | e
    · subst e; rw [if_pos (by omega)]; exact Int32.toInt_inj.mp (by omega)
    · subst e; rw [if_neg (by omega), if_pos (by omega)]; exact Int32.toInt_inj.mp (by omega)
  rw [gaps_eq (J := J) (L := M) h17 hR, held_eq hS, s7, s10, s12, s13, s14, ev 0 0 rfl (by omega), ev 1 1 rfl (by omega), ev 2 2 rfl (by omega), ev 3 3 rfl (by omega), s2, e9, show I 0 = J 1 from hT.1.1.1, e0]
end
section
/-- the longest run so far and where it begins -/
def blR (R : Nat → Nat) : Nat → Nat × Int
  | 0 => (0, -2)
  | k + 1 => if (blR R k).1 < R k then (R k, (k : Int)) else blR R k
theorem bl_t {R : Nat → Nat} {k : Nat} (h : (blR R k).1 < R k) : blR R (k + 1) = (R k, (k : Int)) := if_pos h
theorem bl_f {R : Nat → Nat} {k : Nat} (h : ¬ (blR R k).1 < R k) : blR R (k + 1) = blR R k := if_neg h
theorem blR_ok {R : Nat → Nat} : ∀ k, ((blR R k).1 = 0 ∧ (blR R k).2 = -2) ∨ (0 < (blR R k).1 ∧ ∃ s : Nat, s < k ∧ (blR R k).2 = (s : Int) ∧ (blR R k).1 = R s) := by
  intro k
  induction k with
  | zero => exact Or.inl ⟨rfl, rfl⟩
  | succ k ih =>
    unfold blR
    by_cases c : (blR R k).1 < R k
    · rw [if_pos c]; right; exact ⟨by show 0 < R k; omega, k, by omega, rfl, rfl⟩
    · rw [if_neg c]
      rcases ih with h | ⟨h, s, a, b⟩
      · exact Or.inl h
      · exact Or.inr ⟨h, s, by omega, b⟩
theorem whole_eq {I J : Nat → Int32} {A B : Nat → Nat → Int32} {L : Nat → Nat → Int64} {n : Nat} (h : XR I A (B 17) n) (z : Int32) : fX11_whole I A z = fM12_whole J B L z := by
  have hn := h.1.2.1
  have h0 := h.1.1
  have h18 := h.2.1
  have hz0 : (0 : Int32).toInt = 0 := rfl
  have hz1 : (1 : Int32).toInt = 1 := rfl
  obtain ⟨R, hR⟩ : ∃ R : Nat → Nat, ∀ (y : Int32) (s : Nat), y.toInt = (s : Int) → s ≤ n → (fX6_runFrom I A y).toInt = (R s : Int) ∧ rnR (B 17) n s (R s) := by
    refine ⟨fun s => (fX6_runFrom I A (nI s)).toInt.toNat, fun y s hy hs => ?_⟩
    have e : y = nI s := Int32.toInt_inj.mp (by rw [hy, nI_toInt (by omega)])
    obtain ⟨k, a, b⟩ := x_run h hy hs
    show (fX6_runFrom I A y).toInt = (((fX6_runFrom I A (nI s)).toInt.toNat : Nat) : Int) ∧ rnR (B 17) n s (fX6_runFrom I A (nI s)).toInt.toNat
    rw [← e, a]
    exact ⟨by omega, by rw [show ((k : Int)).toNat = k by omega]; exact b⟩
  -- the class: the longest run's first place
  have hX : (fX6_longestRunFirst I A).toInt = (blR R n).2 := by
    unfold fX6_longestRunFirst
    refine run_iii (Q := fun (v : Int32) => v.toInt = (blR R n).2) n (fun j x a b => x.toInt = (j : Int) ∧ a.toInt = ((blR R j).1 : Int) ∧ b.toInt = (blR R j).2) (fun G j x a b hj hP => ?_) FU 0 0 0 (-2) ⟨rfl, rfl, rfl⟩ (by omega) (fu_lt (by omega))
    obtain ⟨hx, ha, hb⟩ := hP
    unfold bX6_longestRunFirst_7
    dsimp only [f_lt]
    by_cases c : (I 18).toInt ≤ x.toInt
    · rw [if_pos c]; right; rw [hb, show j = n by omega]
    · rw [if_neg c]
      left
      have r := (hR x j hx (by omega)).1
      refine ⟨by omega, ?_⟩
      by_cases c2 : (fX6_runFrom I A x).toInt ≤ a.toInt
      · rw [if_pos c2]
        refine ⟨_, _, _, rfl, i_s hx (by omega), ?_⟩
        rw [bl_f (by omega)]; exact ⟨ha, hb⟩
      · rw [if_neg c2]
        refine ⟨_, _, _, rfl, i_s hx (by omega), ?_⟩
        rw [bl_t (by omega)]; exact ⟨r, hx⟩
  -- the reference
  have hM : ∀ (y : Int32), (itr_iii (0 : Int32) (bM12_whole_20 B y J L) FU 0 (-2) (-2)).toInt = if y.toInt = 0 then (blR R n).2 else if (blR R n).1 = 0 then -2 else ((blR R n).1 : Int) := fun y => by
    refine run_iii (Q := fun (v : Int32) => v.toInt = if y.toInt = 0 then (blR R n).2 else if (blR R n).1 = 0 then -2 else ((blR R n).1 : Int)) n (fun j x a b => x.toInt = (j : Int) ∧ (a.toInt = if (blR R j).1 = 0 then -2 else ((blR R j).1 : Int)) ∧ b.toInt = (blR R j).2) (fun G j x a b hj hP => ?_) FU 0 0 (-2) (-2) ⟨rfl, rfl, rfl⟩ (by omega) (fu_lt (by omega))
    obtain ⟨hx, ha, hb⟩ := hP
    unfold bM12_whole_20
    by_cases c : (B 17 0).toInt ≤ x.toInt
    · rw [if_pos c]
      right
      have ej : j = n := by omega
      subst ej
      by_cases c2 : y.toInt = 0
      · rw [if_neg (fun h9 => h9 c2), if_pos c2]; exact hb
      · rw [if_pos c2, if_neg c2]; exact ha
    · rw [if_neg c]
      left
      refine ⟨by omega, ?_⟩
      have rr := (hR x j hx (by omega)).2
      have ro := blR_ok (R := R) j
      refine run_i (Q := fun (v : Int32) => ∃ x' a' b' : Int32, v = G x' a' b' ∧ x'.toInt = ((j + 1 : Nat) : Int) ∧ (a'.toInt = if (blR R (j + 1)).1 = 0 then -2 else ((blR R (j + 1)).1 : Int)) ∧ b'.toInt = (blR R (j + 1)).2) (n - j) (fun i x2 => x2.toInt = (i : Int) ∧ ∀ e, e < i → thR (B 17) n (j + e)) (fun G2 i x2 hi hP2 => ?_) FU 0 0 ⟨rfl, fun e he => by omega⟩ (by omega) (fu_lt (by omega))
      obtain ⟨hx2, hi2⟩ := hP2
      have e2 := i_ad hx hx2 (by omega) (by omega)
      unfold bM12_whole_34
      dsimp only [f_lt]
      rcases h.1.m (J := J) (L := L) e2 with ⟨a1, a2⟩ | ⟨a1, a2⟩
      · rw [a1, if_pos rfl]
        have ei : i = R j := rnR.uq ⟨by omega, hi2, a2⟩ rr
        right
        by_cases c3 : x2.toInt = 0
        · rw [if_pos c3]
          refine ⟨_, _, _, rfl, i_s hx (by omega), ?_⟩
          rw [bl_f (by omega)]; exact ⟨ha, hb⟩
        · rw [if_neg c3]
          by_cases c4 : a.toInt < x2.toInt
          · rw [if_pos c4]
            refine ⟨_, _, _, rfl, i_s hx (by omega), ?_⟩
            have : (blR R j).1 < R j := by
              split at ha <;> omega
            rw [bl_t this]
            refine ⟨?_, hx⟩
            show x2.toInt = if R j = 0 then -2 else (R j : Int)
            rw [if_neg (by omega)]; omega
          · rw [if_neg c4]
            refine ⟨_, _, _, rfl, i_s hx (by omega), ?_⟩
            have : ¬ (blR R j).1 < R j := by
              split at ha <;> omega
            rw [bl_f this]; exact ⟨ha, hb⟩
      · rw [a1, if_neg (by decide)]
        left
        refine ⟨by have := a2.1; omega, _, rfl, i_s hx2 (by omega), fun e he => ?_⟩
        by_cases ee : e = i
        · rw [ee]; exact a2
        · exact hi2 e (by omega)
  unfold fX11_whole fM12_whole
  simp only [f_lt_eq]
  rw [m_in, if10]
  by_cases c1 : z.toInt < 0
  · rw [if_pos c1, if_neg (by omega)]
  · rw [if_neg c1]
    by_cases c2 : z.toInt ≤ 1
    · rw [if_pos c2, if_pos (show (0 : Int32).toInt ≤ z.toInt ∧ z.toInt ≤ (1 : Int32).toInt by omega)]
      have hm := hM z
      have ro := blR_ok (R := R) n
      rcases ro with ⟨o1, o2⟩ | ⟨o1, s, o2, o3, o4⟩
      · rw [if_pos (by omega)]
        apply Int32.toInt_inj.mp
        rw [hm, if_pos o1, hX, o2]
        split <;> rfl
      · rw [if_neg (by omega)]
        by_cases c3 : z.toInt = 0
        · rw [if_neg (fun h9 => h9 c3)]
          rw [if_pos c3] at hm
          exact Int32.toInt_inj.mp (by omega)
        · rw [if_pos c3]
          rw [if_neg c3, if_neg (by omega)] at hm
          have r := (hR (fX6_longestRunFirst I A) s (by omega) (by omega)).1
          exact Int32.toInt_inj.mp (by omega)
    · rw [if_neg c2, if_neg (by omega)]
/-- how many of the first k -/
noncomputable def cnR (p : Nat → Prop) : Nat → Nat
  | 0 => 0
  | k + 1 => cnR p k + @ite Nat (p k) (Classical.propDecidable _) 1 0
theorem cnR_t {p : Nat → Prop} {k : Nat} (h : p k) : cnR p (k + 1) = cnR p k + 1 := by
  show cnR p k + @ite Nat (p k) (Classical.propDecidable _) 1 0 = _
  rw [if_pos h]
theorem cnR_f {p : Nat → Prop} {k : Nat} (h : ¬ p k) : cnR p (k + 1) = cnR p k := by
  show cnR p k + @ite Nat (p k) (Classical.propDecidable _) 1 0 = _
  rw [if_neg h]; rfl
theorem cnR_le {p : Nat → Prop} : ∀ k, cnR p k ≤ k := by
  intro k
  induction k with
  | zero => exact Nat.le_refl 0
  | succ k ih =>
    by_cases h : p k
    · rw [cnR_t h]; omega
    · rw [cnR_f h]; omega
theorem cnR_cg {p q : Nat → Prop} : ∀ k, (∀ i, i < k → (p i ↔ q i)) → cnR p k = cnR q k := by
  intro k
  induction k with
  | zero => intro _; rfl
  | succ k ih =>
    intro h
    have := ih (fun i hi => h i (by omega))
    by_cases c : p k
    · rw [cnR_t c, cnR_t ((h k (by omega)).mp c), this]
    · rw [cnR_f c, cnR_f (fun h9 => c ((h k (by omega)).mpr h9)), this]
theorem cnR_0 {p : Nat → Prop} : ∀ k, (∀ i, i < k → ¬ p i) → cnR p k = 0 := by
  intro k
  induction k with
  | zero => intro _; rfl
  | succ k ih =>
    intro h
    rw [cnR_f (h k (by omega))]; exact ih (fun i hi => h i (by omega))
theorem cnR_end {p : Nat → Prop} {k : Nat} : ∀ m, (∀ i, k ≤ i → i < k + m → ¬ p i) → cnR p (k + m) = cnR p k := by
  intro m
  induction m with
  | zero => intro _; rfl
  | succ m ih =>
    intro h
    rw [← Nat.add_assoc, cnR_f (h (k + m) (by omega) (by omega))]; exact ih (fun i h1 h2 => h i h1 (by omega))
theorem cnR_sh {p q : Nat → Prop} {d : Nat} (h0 : ∀ i, i < d → ¬ p i) (h : ∀ i, p (d + i) ↔ q i) : ∀ k, cnR p (d + k) = cnR q k := by
  intro k
  induction k with
  | zero => exact cnR_0 d h0
  | succ k ih =>
    rw [← Nat.add_assoc]
    by_cases c : q k
    · rw [cnR_t c, cnR_t ((h k).mpr c), ih]
    · rw [cnR_f c, cnR_f (fun h9 => c ((h k).mp h9)), ih]
/-- the k places ahead of j are readings and all alike -/
def efR (r : Nat → Int32) (n j k : Nat) : Prop := k ≤ j ∧ ∀ i, i < k → thR r n (j - 1 - i) ∧ (r (1 + (j - 1 - i))).toInt = (r (1 + (j - 1))).toInt
theorem x_flat {I : Nat → Int32} {A : Nat → Nat → Int32} {r : Nat → Int32} {n m : Nat} (h : XR I A r n) {z : Int32} (hz : z.toInt = (m : Int)) (hm : 1 ≤ m) : (fX6_flatWindows I A z).toInt = (cnR (fun e => efR r n (e + 1) m) n : Int) := by
  have hn := h.1.2.1
  have h18 := h.2.1
  unfold fX6_flatWindows
  refine run_iii (Q := fun (v : Int32) => v.toInt = (cnR (fun e => efR r n (e + 1) m) n : Int)) n (fun j x a b => x.toInt = (j : Int) ∧ (∃ al : Nat, a.toInt = (al : Int) ∧ al ≤ j ∧ ∀ k, 1 ≤ k → (k ≤ al ↔ efR r n j k)) ∧ b.toInt = (cnR (fun e => efR r n (e + 1) m) j : Int)) (fun G j x a b hj hP => ?_) FU 0 0 0 0 ⟨rfl, ⟨0, rfl, by omega, fun k hk => ⟨fun h9 => by omega, fun h9 => by have := h9.1; omega⟩⟩, rfl⟩ (by omega) (fu_lt (by omega))
  obtain ⟨hx, ⟨al, ha, hal, hk⟩, hb⟩ := hP
  have hcl := cnR_le (p := fun e => efR r n (e + 1) m) j
  unfold bX6_flatWindows_7
  dsimp only [f_lt]
  by_cases c : (I 18).toInt ≤ x.toInt
  · rw [if_pos c]; right; rw [hb, show j = n by omega]
  · rw [if_neg c]
    left
    refine ⟨by omega, ?_⟩
    have hjn : j < n := by omega
    -- the step: the new length al' and its meaning
    have fin : ∀ (al' : Nat) (a' : Int32) (b' : Int32), a'.toInt = (al' : Int) → al' ≤ j + 1 → (∀ k, 1 ≤ k → (k ≤ al' ↔ efR r n (j + 1) k)) → ((m ≤ al' ∧ b' = b + Int32.ofInt 1) ∨ (¬ m ≤ al' ∧ b' = b)) → (x + Int32.ofInt 1).toInt = ((j + 1 : Nat) : Int) ∧ (∃ al : Nat, a'.toInt = (al : Int) ∧ al ≤ j + 1 ∧ ∀ k, 1 ≤ k → (k ≤ al ↔ efR r n (j + 1) k)) ∧ b'.toInt = (cnR (fun e => efR r n (e + 1) m) (j + 1) : Int) := fun al' a' b' h1 h2 h3 h4 => by
      refine ⟨i_s hx (by omega), ⟨al', h1, h2, h3⟩, ?_⟩
      rcases h4 with ⟨h5, h6⟩ | ⟨h5, h6⟩
      · rw [cnR_t (p := fun e => efR r n (e + 1) m) (k := j) ((h3 m hm).mp h5), h6]; exact i_s hb (by omega)
      · rw [cnR_f (p := fun e => efR r n (e + 1) m) (k := j) (fun h9 => h5 ((h3 m hm).mpr h9)), h6]; exact hb
    rcases h.has hx with ⟨a1, a2⟩ | ⟨a1, a2, a3⟩
    · rw [a1, if_pos rfl, if_pos (by omega)]
      refine ⟨_, _, _, rfl, fin 0 0 b rfl (by omega) (fun k hk1 => ⟨fun h9 => by omega, fun h9 => ?_⟩) (Or.inr ⟨by omega, rfl⟩)⟩
      have := (h9.2 0 (by omega)).1
      rw [show j + 1 - 1 - 0 = j by omega] at this
      exact absurd this a2
    · rw [a1, if_neg (by decide)]
      have one : efR r n (j + 1) 1 := ⟨by omega, fun i hi => by
        rw [show i = 0 by omega, show j + 1 - 1 - 0 = j + 1 - 1 by omega]
        exact ⟨by rw [show j + 1 - 1 = j by omega]; exact a2, rfl⟩⟩
      have two : ∀ k, 2 ≤ k → efR r n (j + 1) k → 1 ≤ j ∧ thR r n (j - 1) ∧ (r (1 + (j - 1))).toInt = (r (1 + j)).toInt := fun k hk2 h9 => by
        have h8 := h9.2 1 (by omega)
        rw [show j + 1 - 1 - 1 = j - 1 by omega, show j + 1 - 1 = j by omega] at h8
        exact ⟨by have := h9.1; omega, h8⟩
      by_cases c2 : a.toInt ≤ 0
      · rw [if_pos c2]
        have nw : ∀ k, 1 ≤ k → (k ≤ 1 ↔ efR r n (j + 1) k) := fun k hk1 => ⟨fun h9 => by rw [show k = 1 by omega]; exact one, fun h9 => by
          by_cases ck : k ≤ 1
          · exact ck
          · exfalso
            have t := two k (by omega) h9
            have : efR r n j 1 := ⟨t.1, fun i hi => by
              rw [show i = 0 by omega, show j - 1 - 0 = j - 1 by omega]; exact ⟨t.2.1, rfl⟩⟩
            have := (hk 1 (by omega)).mpr this
            omega⟩
        by_cases c3 : 1 < z.toInt
        · rw [if_pos c3]; exact ⟨_, _, _, rfl, fin 1 1 b rfl (by omega) nw (Or.inr ⟨by omega, rfl⟩)⟩
        · rw [if_neg c3]; exact ⟨_, _, _, rfl, fin 1 1 _ rfl (by omega) nw (Or.inl ⟨by omega, rfl⟩)⟩
      · rw [if_neg c2]
        have hj1 : 1 ≤ j := by omega
        have ex := i32_sub (x := x) (y := 1) (b := 1) rfl hx rfl (by omega) (by omega)
        have al1 := (hk 1 (by omega)).mp (by omega)
        have p0 := (al1.2 0 (by omega)).1
        rw [show j - 1 - 0 = j - 1 by omega] at p0
        have v1 : fX6_valueAt I A (x - 1) = r (1 + (j - 1)) := by
          rcases h.has (z := x - 1) (i := j - 1) (by omega) with ⟨b1, b2⟩ | ⟨b1, b2, b3⟩
          · exact absurd p0 b2
          · exact b3
        rw [a3, v1]
        by_cases c4 : (r (1 + j)).toInt = (r (1 + (j - 1))).toInt
        · rw [if_neg (fun h9 => h9 c4)]
          have ea : (a + Int32.ofInt 1).toInt = ((al + 1 : Nat) : Int) := i_s ha (by omega)
          have nw : ∀ k, 1 ≤ k → (k ≤ al + 1 ↔ efR r n (j + 1) k) := fun k hk1 => by
            by_cases ck : k = 1
            · subst ck; exact ⟨fun _ => one, fun _ => by omega⟩
            · constructor
              · intro h9
                have g := (hk (k - 1) (by omega)).mp (by omega)
                refine ⟨by have := g.1; omega, fun i hi => ?_⟩
                by_cases ci : i = 0
                · rw [ci, show j + 1 - 1 - 0 = j + 1 - 1 by omega]; exact one.2 0 (by omega)
                · have g2 := g.2 (i - 1) (by omega)
                  rw [show j + 1 - 1 - i = j - 1 - (i - 1) by omega, show j + 1 - 1 = j by omega]
                  exact ⟨g2.1, by rw [g2.2, c4]⟩
              · intro h9
                have : efR r n j (k - 1) := ⟨by have := h9.1; omega, fun i hi => by
                  have g2 := h9.2 (i + 1) (by omega)
                  rw [show j + 1 - 1 - (i + 1) = j - 1 - i by omega, show j + 1 - 1 = j by omega] at g2
                  exact ⟨g2.1, by rw [g2.2, c4]⟩⟩
                have := (hk (k - 1) (by omega)).mpr this
                omega
          by_cases c3 : (a + Int32.ofInt 1).toInt < z.toInt
          · rw [if_pos c3]; exact ⟨_, _, _, rfl, fin (al + 1) _ b ea (by omega) nw (Or.inr ⟨by omega, rfl⟩)⟩
          · rw [if_neg c3]; exact ⟨_, _, _, rfl, fin (al + 1) _ _ ea (by omega) nw (Or.inl ⟨by omega, rfl⟩)⟩
        · rw [if_pos c4]
          have nw : ∀ k, 1 ≤ k → (k ≤ 1 ↔ efR r n (j + 1) k) := fun k hk1 => ⟨fun h9 => by rw [show k = 1 by omega]; exact one, fun h9 => by
            by_cases ck : k ≤ 1
            · exact ck
            · exact absurd (two k (by omega) h9).2.2.symm c4⟩
          by_cases c3 : 1 < z.toInt
          · rw [if_pos c3]; exact ⟨_, _, _, rfl, fin 1 1 b rfl (by omega) nw (Or.inr ⟨by omega, rfl⟩)⟩
          · rw [if_neg c3]; exact ⟨_, _, _, rfl, fin 1 1 _ rfl (by omega) nw (Or.inl ⟨by omega, rfl⟩)⟩
theorem mnR_c {r : Nat → Int32} {s : Nat} {c : Int} (hc : c < 100000) : ∀ k, 1 ≤ k → (∀ i, i < k → (r (1 + (s + i))).toInt = c) → mnR r s k = c := by
  intro k
  induction k with
  | zero => intro h; omega
  | succ k ih =>
    intro _ h
    have e := h k (by omega)
    unfold mnR
    by_cases ck : k = 0
    · subst ck
      rw [if_pos (by rw [e]; exact hc)]; exact e
    · rw [ih (by omega) (fun i hi => h i (by omega)), e]
      split <;> rfl
theorem mxR_c {r : Nat → Int32} {s : Nat} {c : Int} (hc : -1000 < c) : ∀ k, 1 ≤ k → (∀ i, i < k → gR (r (1 + (s + i))) = c) → mxR r s k = c := by
  intro k
  induction k with
  | zero => intro h; omega
  | succ k ih =>
    intro _ h
    have e := h k (by omega)
    unfold mxR
    by_cases ck : k = 0
    · subst ck
      rw [if_pos (by rw [e]; exact hc)]; exact e
    · rw [ih (by omega) (fun i hi => h i (by omega)), e]
      split <;> rfl
theorem flat_eq {I J : Nat → Int32} {A B : Nat → Nat → Int32} {L : Nat → Nat → Int64} {n : Nat} (h : XR I A (B 17) n) (z : Int32) : fX11_flat I A z = fM12_flat J B L z := by
  have hn := h.1.2.1
  have h0 := h.1.1
  have hz1 : (1 : Int32).toInt = 1 := rfl
  have hz160 : (160 : Int32).toInt = 160 := rfl
  unfold fX11_flat fM12_flat
  simp only [f_lt_eq]
  rw [m_in, if10]
  by_cases c1 : z.toInt < 1
  · rw [if_pos c1, if_neg (by omega)]
  rw [if_neg c1]
  by_cases c2n : ¬ (z.toInt ≤ 160)
  · rw [if_neg c2n, if_neg (by omega)]
  have c2 : z.toInt ≤ 160 := Decidable.of_not_not c2n
  rw [if_pos c2, if_pos (by omega)]
  obtain ⟨m, hz⟩ : ∃ m : Nat, z.toInt = (m : Int) := ⟨z.toInt.toNat, by omega⟩
  have hm : 1 ≤ m := by omega
  have eX := x_flat h hz hm
  have eM : (itr_ii (0 : Int32) (bM12_flat_17 B J L z) FU 0 0).toInt = (cnR (fun s => s + m ≤ n ∧ efR (B 17) n (s + m) m) n : Int) := by
    refine run_ii (Q := fun (v : Int32) => v.toInt = (cnR (fun s => s + m ≤ n ∧ efR (B 17) n (s + m) m) n : Int)) n (fun j x b => x.toInt = (j : Int) ∧ b.toInt = (cnR (fun s => s + m ≤ n ∧ efR (B 17) n (s + m) m) j : Int)) (fun G j x b hj hP => ?_) FU 0 0 0 ⟨rfl, rfl⟩ (by omega) (fu_lt (by omega))
    obtain ⟨hx, hb⟩ := hP
    have hcl := cnR_le (p := fun s => s + m ≤ n ∧ efR (B 17) n (s + m) m) j
    unfold bM12_flat_17
    dsimp only [f_lt]
    by_cases c : (B 17 0).toInt ≤ x.toInt
    · rw [if_pos c]; right; rw [hb, show j = n by omega]
    · rw [if_neg c]
      left
      refine ⟨by omega, ?_⟩
      rcases m_win (J := J) (L := L) h.1 (z1 := x) (z2 := z) with ⟨a, w⟩ | ⟨a, s, k, hs, hk, w⟩
      · rw [a, if_pos rfl]
        refine ⟨_, _, rfl, i_s hx (by omega), ?_⟩
        rw [cnR_f]
        · exact hb
        · intro h9
          refine w j m hx hz ⟨hm, h9.1, fun i hi => ?_⟩
          have := (h9.2.2 (m - 1 - i) (by omega)).1.2
          rwa [show j + m - 1 - (m - 1 - i) = j + i by omega] at this
      · have es : s = j := by omega
        have ek : k = m := by omega
        subst es; subst ek
        rw [a, if_neg (by decide)]
        have l1 := m_least (J := J) (L := L) h.1 hs hk w
        have l2 := m_most (J := J) (L := L) h.1 hs hk w
        have wv : ∀ i, i < k → gR (B 17 (1 + (s + i))) = (B 17 (1 + (s + i))).toInt := fun i hi => by
          rcases h.1.v (i := s + i) (by have := w.2.1; omega) with ⟨v, -⟩ | ⟨-, -, v, -⟩
          · exact absurd v (w.2.2 i hi)
          · exact v
        by_cases c4 : (fM12_leastOf J B L x z).toInt = (fM12_mostOf J B L x z).toInt
        · rw [if_neg (fun h9 => h9 c4)]
          refine ⟨_, _, rfl, i_s hx (by omega), ?_⟩
          rw [cnR_t]
          · exact i_s hb (by omega)
          · have all : ∀ i, i < k → (B 17 (1 + (s + i))).toInt = mnR (B 17) s k := fun i hi => by
              have g1 := mnR_le (r := B 17) (s := s) k i hi
              have g2 := mxR_le (r := B 17) (s := s) k i hi
              rw [wv i hi] at g2
              omega
            refine ⟨w.2.1, by omega, fun i hi => ⟨⟨by have := w.2.1; omega, ?_⟩, ?_⟩⟩
            · have := w.2.2 (k - 1 - i) (by omega)
              rwa [show s + (k - 1 - i) = s + k - 1 - i by omega] at this
            · have g1 := all (k - 1 - i) (by omega)
              have g2 := all (k - 1) (by omega)
              rw [show s + (k - 1 - i) = s + k - 1 - i by omega] at g1
              rw [show s + (k - 1) = s + k - 1 by omega] at g2
              omega
        · rw [if_pos c4]
          refine ⟨_, _, rfl, i_s hx (by omega), ?_⟩
          rw [cnR_f]
          · exact hb
          · intro h9
            apply c4
            have all : ∀ i, i < k → (B 17 (1 + (s + i))).toInt = (B 17 (1 + (s + k - 1))).toInt := fun i hi => by
              have := (h9.2.2 (k - 1 - i) (by omega)).2
              rwa [show s + k - 1 - (k - 1 - i) = s + i by omega] at this
            have b0 := h.1.v (i := s + k - 1) (by have := w.2.1; omega)
            have w0 := w.2.2 (k - 1) (by omega)
            rw [show s + (k - 1) = s + k - 1 by omega] at w0
            rw [l1.1, l2, mnR_c (c := (B 17 (1 + (s + k - 1))).toInt) (by omega) k hm all, mxR_c (c := (B 17 (1 + (s + k - 1))).toInt) (by omega) k hm (fun i hi => by rw [wv i hi]; exact all i hi)]
  apply Int32.toInt_inj.mp
  rw [eX, eM]
  congr 1
  by_cases c3 : m ≤ n
  · have e1 := cnR_sh (p := fun e => efR (B 17) n (e + 1) m) (q := fun s => efR (B 17) n (s + m) m) (d := m - 1) (fun i hi h9 => by have := h9.1; omega) (fun i => by rw [show m - 1 + i + 1 = i + m by omega]) (n - (m - 1))
    rw [show m - 1 + (n - (m - 1)) = n by omega] at e1
    have e2 := cnR_end (p := fun s => s + m ≤ n ∧ efR (B 17) n (s + m) m) (k := n - (m - 1)) (m - 1) (fun i h1 h2 h9 => by have := h9.1; omega)
    rw [show n - (m - 1) + (m - 1) = n by omega] at e2
    rw [e1, e2]
    exact cnR_cg _ (fun i hi => ⟨fun h9 => ⟨by omega, h9⟩, fun h9 => h9.2⟩)
  · rw [cnR_0 n (fun i hi h9 => by have := h9.1; omega), cnR_0 n (fun i hi h9 => by have := h9.1; omega)]
section ANS1
variable {I J : Nat → Int32} {A B : Nat → Nat → Int32} {M : Nat → Nat → Int64} {z z1 z2 z3 v w : Int32}
theorem ans_window (h : RA I A J B M) (_ : IvX I A) (_ : IvM J B) (eX : FE (fX11_window I A z1 z2 z3) v) (eM : FE (fM12_window J B M z1 z2 z3) w) : v = w := by
  obtain ⟨n, hx⟩ := h.2.1.xr
  exact (fe_s eX).trans ((window_eq hx z1 z2 z3).trans eM)
theorem ans_flat (h : RA I A J B M) (_ : IvX I A) (_ : IvM J B) (eX : FE (fX11_flat I A z) v) (eM : FE (fM12_flat J B M z) w) : v = w := by
  obtain ⟨n, hx⟩ := h.2.1.xr
  exact (fe_s eX).trans ((flat_eq hx z).trans eM)
theorem ans_whole (h : RA I A J B M) (_ : IvX I A) (_ : IvM J B) (eX : FE (fX11_whole I A z) v) (eM : FE (fM12_whole J B M z) w) : v = w := by
  obtain ⟨n, hx⟩ := h.2.1.xr
  exact (fe_s eX).trans ((whole_eq hx z).trans eM)
theorem ans_count (h : RA I A J B M) (_ : IvX I A) (_ : IvM J B) (eX : FE (fX11_count I A z) v) (eM : FE (fM12_count J B M z) w) : v = w := (fe_s eX).trans ((count_eq h z).trans eM)
end ANS1
end
