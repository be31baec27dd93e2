theorem run_i {ρ : Type} {d : ρ} {b : (Int32 → ρ) → Int32 → ρ} {Q : ρ → Prop} (n : Nat) (P : Nat → Int32 → Prop) (hs : ∀ (G : Int32 → ρ) (k : Nat) (x0 : Int32), k ≤ n → P k x0 → (k < n ∧ ∃ (x0' : Int32), b G x0 = G x0' ∧ P (k + 1) x0') ∨ Q (b G x0)) : ∀ (m k : Nat) (x0 : Int32), P k x0 → k ≤ n → n - k < m → Q (itr_i d b m x0) := by
  intro m
  induction m with
  | zero => intro k x0 _ _ h; omega
  | succ m ih =>
    intro k x0 hP hk hm
    show Q (b (itr_i d b m) x0)
    rcases hs (itr_i d b m) k x0 hk hP with ⟨h1, x0', e, h2⟩ | h1
    · rw [e]; exact ih (k + 1) x0' h2 (by omega) (by omega)
    · exact h1
theorem run_ii {ρ : Type} {d : ρ} {b : (Int32 → Int32 → ρ) → Int32 → Int32 → ρ} {Q : ρ → Prop} (n : Nat) (P : Nat → Int32 → Int32 → Prop) (hs : ∀ (G : Int32 → Int32 → ρ) (k : Nat) (x0 : Int32) (x1 : Int32), k ≤ n → P k x0 x1 → (k < n ∧ ∃ (x0' : Int32) (x1' : Int32), b G x0 x1 = G x0' x1' ∧ P (k + 1) x0' x1') ∨ Q (b G x0 x1)) : ∀ (m k : Nat) (x0 : Int32) (x1 : Int32), P k x0 x1 → k ≤ n → n - k < m → Q (itr_ii d b m x0 x1) := by
  intro m
  induction m with
  | zero => intro k x0 x1 _ _ h; omega
  | succ m ih =>
    intro k x0 x1 hP hk hm
    show Q (b (itr_ii d b m) x0 x1)
    rcases hs (itr_ii d b m) k x0 x1 hk hP with ⟨h1, x0', x1', e, h2⟩ | h1
    · rw [e]; exact ih (k + 1) x0' x1' h2 (by omega) (by omega)
    · exact h1
theorem run_iii {ρ : Type} {d : ρ} {b : (Int32 → Int32 → Int32 → ρ) → Int32 → Int32 → Int32 → ρ} {Q : ρ → Prop} (n : Nat) (P : Nat → Int32 → Int32 → Int32 → Prop) (hs : ∀ (G : Int32 → Int32 → Int32 → ρ) (k : Nat) (x0 : Int32) (x1 : Int32) (x2 : Int32), k ≤ n → P k x0 x1 x2 → (k < n ∧ ∃ (x0' : Int32) (x1' : Int32) (x2' : Int32), b G x0 x1 x2 = G x0' x1' x2' ∧ P (k + 1) x0' x1' x2') ∨ Q (b G x0 x1 x2)) : ∀ (m k : Nat) (x0 : Int32) (x1 : Int32) (x2 : Int32), P k x0 x1 x2 → k ≤ n → n - k < m → Q (itr_iii d b m x0 x1 x2) := by
  intro m
  induction m with
  | zero => intro k x0 x1 x2 _ _ h; omega
  | succ m ih =>
    intro k x0 x1 x2 hP hk hm
    show Q (b (itr_iii d b m) x0 x1 x2)
    rcases hs (itr_iii d b m) k x0 x1 x2 hk hP with ⟨h1, x0', x1', x2', e, h2⟩ | h1
    · rw [e]; exact ih (k + 1) x0' x1' x2' h2 (by omega) (by omega)
    · exact h1
theorem run_iIA {ρ : Type} {d : ρ} {b : (Int32 → (Nat → Int32) → (Nat → Nat → Int32) → ρ) → Int32 → (Nat → Int32) → (Nat → Nat → Int32) → ρ} {Q : ρ → Prop} (n : Nat) (P : Nat → Int32 → (Nat → Int32) → (Nat → Nat → Int32) → Prop) (hs : ∀ (G : Int32 → (Nat → Int32) → (Nat → Nat → Int32) → ρ) (k : Nat) (x0 : Int32) (I : (Nat → Int32)) (A : (Nat → Nat → Int32)), k ≤ n → P k x0 I A → (k < n ∧ ∃ (x0' : Int32) (I' : (Nat → Int32)) (A' : (Nat → Nat → Int32)), b G x0 I A = G x0' I' A' ∧ P (k + 1) x0' I' A') ∨ Q (b G x0 I A)) : ∀ (m k : Nat) (x0 : Int32) (I : (Nat → Int32)) (A : (Nat → Nat → Int32)), P k x0 I A → k ≤ n → n - k < m → Q (itr_iIA d b m x0 I A) := by
  intro m
  induction m with
  | zero => intro k x0 I A _ _ h; omega
  | succ m ih =>
    intro k x0 I A hP hk hm
    show Q (b (itr_iIA d b m) x0 I A)
    rcases hs (itr_iIA d b m) k x0 I A hk hP with ⟨h1, x0', I', A', e, h2⟩ | h1
    · rw [e]; exact ih (k + 1) x0' I' A' h2 (by omega) (by omega)
    · exact h1
theorem run_iIAL {ρ : Type} {d : ρ} {b : (Int32 → (Nat → Int32) → (Nat → Nat → Int32) → (Nat → Nat → Int64) → ρ) → Int32 → (Nat → Int32) → (Nat → Nat → Int32) → (Nat → Nat → Int64) → ρ} {Q : ρ → Prop} (n : Nat) (P : Nat → Int32 → (Nat → Int32) → (Nat → Nat → Int32) → (Nat → Nat → Int64) → Prop) (hs : ∀ (G : Int32 → (Nat → Int32) → (Nat → Nat → Int32) → (Nat → Nat → Int64) → ρ) (k : Nat) (x0 : Int32) (I : (Nat → Int32)) (A : (Nat → Nat → Int32)) (L : (Nat → Nat → Int64)), k ≤ n → P k x0 I A L → (k < n ∧ ∃ (x0' : Int32) (I' : (Nat → Int32)) (A' : (Nat → Nat → Int32)) (L' : (Nat → Nat → Int64)), b G x0 I A L = G x0' I' A' L' ∧ P (k + 1) x0' I' A' L') ∨ Q (b G x0 I A L)) : ∀ (m k : Nat) (x0 : Int32) (I : (Nat → Int32)) (A : (Nat → Nat → Int32)) (L : (Nat → Nat → Int64)), P k x0 I A L → k ≤ n → n - k < m → Q (itr_iIAL d b m x0 I A L) := by
  intro m
  induction m with
  | zero => intro k x0 I A L _ _ h; omega
  | succ m ih =>
    intro k x0 I A L hP hk hm
    show Q (b (itr_iIAL d b m) x0 I A L)
    rcases hs (itr_iIAL d b m) k x0 I A L hk hP with ⟨h1, x0', I', A', L', e, h2⟩ | h1
    · rw [e]; exact ih (k + 1) x0' I' A' L' h2 (by omega) (by omega)
    · exact h1
theorem run_iiIA {ρ : Type} {d : ρ} {b : (Int32 → Int32 → (Nat → Int32) → (Nat → Nat → Int32) → ρ) → Int32 → Int32 → (Nat → Int32) → (Nat → Nat → Int32) → ρ} {Q : ρ → Prop} (n : Nat) (P : Nat → Int32 → Int32 → (Nat → Int32) → (Nat → Nat → Int32) → Prop) (hs : ∀ (G : Int32 → Int32 → (Nat → Int32) → (Nat → Nat → Int32) → ρ) (k : Nat) (x0 : Int32) (x1 : Int32) (I : (Nat → Int32)) (A : (Nat → Nat → Int32)), k ≤ n → P k x0 x1 I A → (k < n ∧ ∃ (x0' : Int32) (x1' : Int32) (I' : (Nat → Int32)) (A' : (Nat → Nat → Int32)), b G x0 x1 I A = G x0' x1' I' A' ∧ P (k + 1) x0' x1' I' A') ∨ Q (b G x0 x1 I A)) : ∀ (m k : Nat) (x0 : Int32) (x1 : Int32) (I : (Nat → Int32)) (A : (Nat → Nat → Int32)), P k x0 x1 I A → k ≤ n → n - k < m → Q (itr_iiIA d b m x0 x1 I A) := by
  intro m
  induction m with
  | zero => intro k x0 x1 I A _ _ h; omega
  | succ m ih =>
    intro k x0 x1 I A hP hk hm
    show Q (b (itr_iiIA d b m) x0 x1 I A)
    rcases hs (itr_iiIA d b m) k x0 x1 I A hk hP with ⟨h1, x0', x1', I', A', e, h2⟩ | h1
    · rw [e]; exact ih (k + 1) x0' x1' I' A' h2 (by omega) (by omega)
    · exact h1
theorem run_iiIAL {ρ : Type} {d : ρ} {b : (Int32 → Int32 → (Nat → Int32) → (Nat → Nat → Int32) → (Nat → Nat → Int64) → ρ) → Int32 → Int32 → (Nat → Int32) → (Nat → Nat → Int32) → (Nat → Nat → Int64) → ρ} {Q : ρ → Prop} (n : Nat) (P : Nat → Int32 → Int32 → (Nat → Int32) → (Nat → Nat → Int32) → (Nat → Nat → Int64) → Prop) (hs : ∀ (G : Int32 → Int32 → (Nat → Int32) → (Nat → Nat → Int32) → (Nat → Nat → Int64) → ρ) (k : Nat) (x0 : Int32) (x1 : Int32) (I : (Nat → Int32)) (A : (Nat → Nat → Int32)) (L : (Nat → Nat → Int64)), k ≤ n → P k x0 x1 I A L → (k < n ∧ ∃ (x0' : Int32) (x1' : Int32) (I' : (Nat → Int32)) (A' : (Nat → Nat → Int32)) (L' : (Nat → Nat → Int64)), b G x0 x1 I A L = G x0' x1' I' A' L' ∧ P (k + 1) x0' x1' I' A' L') ∨ Q (b G x0 x1 I A L)) : ∀ (m k : Nat) (x0 : Int32) (x1 : Int32) (I : (Nat → Int32)) (A : (Nat → Nat → Int32)) (L : (Nat → Nat → Int64)), P k x0 x1 I A L → k ≤ n → n - k < m → Q (itr_iiIAL d b m x0 x1 I A L) := by
  intro m
  induction m with
  | zero => intro k x0 x1 I A L _ _ h; omega
  | succ m ih =>
    intro k x0 x1 I A L hP hk hm
    show Q (b (itr_iiIAL d b m) x0 x1 I A L)
    rcases hs (itr_iiIAL d b m) k x0 x1 I A L hk hP with ⟨h1, x0', x1', I', A', L', e, h2⟩ | h1
    · rw [e]; exact ih (k + 1) x0' x1' I' A' L' h2 (by omega) (by omega)
    · exact h1
theorem fu_lt {n : Nat} (h : n < 1000000) : n - 0 < FU := by have := FU_eq; omega
theorem i_s {x : Int32} {k : Nat} (h : x.toInt = (k : Int)) (hk : k < 100000) : (x + Int32.ofInt 1).toInt = ((k + 1 : Nat) : Int) := by rw [show x + Int32.ofInt 1 = x + 1 from rfl, i32_inc (by omega)]; omega
theorem i_16 {x y : Int32} {k j : Nat} (h : x.toInt = (k : Int)) (h2 : y.toInt = (j : Int)) (hk : k < 1000) (hj : j < 1000) : (x * 16 + y).toNatClampNeg = 16 * k + j := by
  have e1 := i32_mul (x := x) (y := 16) (b := 16) rfl h rfl (by omega) (by omega)
  have e2 := i32_add (x := x * 16) (y := y) rfl e1 h2 (by omega) (by omega)
  exact clN (by omega)
theorem x_hasR {I : Nat → Int32} {A : Nat → Nat → Int32} {nq : Nat} (h : (I 16).toInt = (nq : Int)) (hn : nq ≤ 5) {z : Int32} : fX4_has I A z = if 0 ≤ z.toInt ∧ z.toInt < (nq : Int) then 1 else 0 := by
  unfold fX4_has
  by_cases c : z.toInt < 0
  · rw [if_pos c, if_neg (by omega)]
  · rw [if_neg c]
    by_cases d : (I 16).toInt ≤ z.toInt
    · rw [if_pos d, if_neg (by omega)]
    · rw [if_neg d, if_neg (by omega), if_pos (by omega)]
theorem x_hasQ {I : Nat → Int32} {A : Nat → Nat → Int32} {nq : Nat} (h19 : (I 19).toInt = (nq : Int)) (hn : nq ≤ 5) {z : Int32} : fX4_has_2 I A z = if 0 ≤ z.toInt ∧ z.toInt < (nq : Int) then 1 else 0 := by
  unfold fX4_has_2
  by_cases c : z.toInt < 0
  · rw [if_pos c, if_neg (by omega)]
  · rw [if_neg c]
    by_cases d : (I 19).toInt ≤ z.toInt
    · rw [if_pos d, if_neg (by omega)]
    · rw [if_neg d, if_neg (by omega), if_pos (by omega)]
theorem ifp {α : Type} {x : Int32} {a b : α} : (if ((x, (1 : Nat)) : Int32 × Nat).2 = 0 then a else b) = b := if_neg (by show ¬ (1 : Nat) = 0; decide)
theorem ifp0 {α : Type} {x : Int32} {a b : α} : (if ((x, (0 : Nat)) : Int32 × Nat).2 = 0 then a else b) = a := if_pos rfl
/-- the class's QUERIES are taken out of the text's -/
theorem x_takeQ {I : Nat → Int32} {A : Nat → Nat → Int32} {nq : Nat} (h16 : (I 16).toInt = (nq : Int)) (hn : nq ≤ 5) (hl : ∀ q, q < nq → 0 ≤ (A 4 q).toInt ∧ (A 4 q).toInt ≤ 16) : ∃ (I' : Nat → Int32) (A' : Nat → Nat → Int32), fX4_takeFrom I A = (0, I', A') ∧ Md [19] I I' ∧ Md [8, 9] A A' ∧ (I' 19).toInt = (nq : Int) ∧ ∀ q, q < nq → A' 9 q = A 4 q ∧ ∀ i : Nat, (i : Int) < (A 4 q).toInt → A' 8 (16 * q + i) = A 3 (16 * q + i) := by
  unfold fX4_takeFrom
  refine run_iIA (Q := fun r => ∃ (I' : Nat → Int32) (A' : Nat → Nat → Int32), r = (0, I', A') ∧ Md [19] I I' ∧ Md [8, 9] A A' ∧ (I' 19).toInt = (nq : Int) ∧ ∀ q, q < nq → A' 9 q = A 4 q ∧ ∀ i : Nat, (i : Int) < (A 4 q).toInt → A' 8 (16 * q + i) = A 3 (16 * q + i)) nq (fun k x I1 A1 => x.toInt = (k : Int) ∧ Md [19] I I1 ∧ Md [8, 9] A A1 ∧ (I1 19).toInt = (k : Int) ∧ ∀ q, q < k → A1 9 q = A 4 q ∧ ∀ i : Nat, (i : Int) < (A 4 q).toInt → A1 8 (16 * q + i) = A 3 (16 * q + i)) (fun G k x I1 A1 hk hP => ?_) FU 0 0 (upd I 19 0) A ⟨rfl, Md.up Md.rf rfl, Md.rf, rfl, fun q hq => by omega⟩ (by omega) (fu_lt (by omega))
  obtain ⟨hx, mI, mA, h19, hq⟩ := hP
  unfold bX4_takeFrom_7
  by_cases c : (I 16).toInt ≤ x.toInt
  · rw [if_pos c]
    have e : k = nq := by omega
    subst e
    exact Or.inr ⟨I1, A1, rfl, mI, mA, h19, hq⟩
  · rw [if_neg c]
    left
    have hkn : k < nq := by omega
    refine ⟨hkn, ?_⟩
    have e19 : (I1 19 + 1).toInt = ((k + 1 : Nat) : Int) := by rw [i32_inc (by omega)]; omega
    have eO : fX4_open_2 I1 A1 = (0, upd I1 19 (I1 19 + 1), up3 A1 9 k 0) := by
      unfold fX4_open_2
      dsimp only [f_lt]
      rw [if_neg (by omega), if_neg (by omega), clN h19]
    rw [eO, bdX_mk]
    obtain ⟨l, hlk⟩ : ∃ l : Nat, (A 4 k).toInt = (l : Int) := ⟨(A 4 k).toInt.toNat, by have := hl k hkn; omega⟩
    have hl16 := hl k hkn
    refine run_iIA (Q := fun r => ∃ (x' : Int32) (I' : Nat → Int32) (A' : Nat → Nat → Int32), r = G x' I' A' ∧ x'.toInt = ((k + 1 : Nat) : Int) ∧ Md [19] I I' ∧ Md [8, 9] A A' ∧ (I' 19).toInt = ((k + 1 : Nat) : Int) ∧ ∀ q, q < k + 1 → A' 9 q = A 4 q ∧ ∀ i : Nat, (i : Int) < (A 4 q).toInt → A' 8 (16 * q + i) = A 3 (16 * q + i)) l (fun j x2 I2 A2 => x2.toInt = (j : Int) ∧ I2 = upd I1 19 (I1 19 + 1) ∧ Md [8, 9] A A2 ∧ (A2 9 k).toInt = (j : Int) ∧ (∀ i : Nat, i < j → A2 8 (16 * k + i) = A 3 (16 * k + i)) ∧ ∀ q, q < k → A2 9 q = A 4 q ∧ ∀ i : Nat, (i : Int) < (A 4 q).toInt → A2 8 (16 * q + i) = A 3 (16 * q + i)) (fun G2 j x2 I2 A2 hj hP2 => ?_) FU 0 0 _ _ ⟨rfl, rfl, Md.up3 mA rfl, by rw [up3_at rfl]; rfl, fun i hi => by omega, fun q hq9 => ⟨by rw [up3_ne (by omega)]; exact (hq q hq9).1, fun i hi => by rw [up3_o (by decide)]; exact (hq q hq9).2 i hi⟩⟩ (by omega) (fu_lt (by omega))
    obtain ⟨hx2, eI, mA2, h9, h8, hq2⟩ := hP2
    have i16 : I2 16 = I 16 := by rw [eI]; exact mI 16 rfl
    have i19 : (I2 19).toInt = ((k + 1 : Nat) : Int) := by rw [eI]; exact e19
    have a4 : A2 4 k = A 4 k := by rw [mA2 4 rfl]
    have hL : fX4_lengthOf I2 A2 x = (A 4 k, 1) := by
      unfold fX4_lengthOf
      rw [x_hasR (by rw [i16]; exact h16) hn, if10, if_pos (by omega), clN hx, a4]
    unfold bX4_takeFrom_21
    dsimp only [f_lt]
    rw [hL, ifp]
    by_cases c2 : (A 4 k).toInt ≤ x2.toInt
    · rw [if_pos c2]
      have ej : j = l := by omega
      subst ej
      refine Or.inr ⟨_, _, _, rfl, i_s hx (by omega), ?_, mA2, i19, fun q hq9 => ?_⟩
      · rw [eI]; exact Md.up mI rfl
      · by_cases eq : q = k
        · subst eq
          exact ⟨Int32.toInt_inj.mp (by omega), fun i hi => h8 i (by omega)⟩
        · exact hq2 q (by omega)
    · rw [if_neg c2]
      left
      refine ⟨by omega, ?_⟩
      have hV : fX4_valueAt I2 A2 x x2 = A 3 (16 * k + j) := by
        unfold fX4_valueAt
        dsimp only [f_lt]
        rw [hL, if_neg (by omega), if_neg (by omega), ifp, if_neg (by omega), i_16 hx hx2 (by omega) (by omega), mA2 3 rfl]
      have e1 : (I2 19 - 1).toInt = (k : Int) := by
        have := i32_sub (x := I2 19) (y := 1) (b := 1) rfl i19 rfl (by omega) (by omega)
        omega
      have hA : fX4_append_2 I2 A2 (A 3 (16 * k + j)) = (0, I2, up3 (up3 A2 8 (16 * k + j) (A 3 (16 * k + j))) 9 k (A2 9 k + 1)) := by
        unfold fX4_append_2
        dsimp only [f_lt]
        rw [x_hasQ i19 (by omega), if10, if_pos (by omega), clN e1, if_neg (by omega), i_16 e1 h9 (by omega) (by omega)]
      rw [hV, hA, bdX_mk]
      refine ⟨_, _, _, rfl, i_s hx2 (by omega), eI, Md.up3 (Md.up3 mA2 rfl) rfl, ?_, fun i hi => ?_, fun q hq9 => ⟨?_, fun i hi => ?_⟩⟩
      · rw [up3_at rfl, i32_inc (by omega)]; omega
      · rw [up3_o (by decide)]
        by_cases ei : i = j
        · rw [up3_at (by omega), ei]
        · rw [up3_ne (by omega)]; exact h8 i (by omega)
      · rw [up3_ne (by omega), up3_o (by decide)]; exact (hq2 q hq9).1
      · have h16q := hl q (by omega)
        rw [up3_o (by decide), up3_ne (by omega)]; exact (hq2 q hq9).2 i hi
theorem x_ser0 {I : Nat → Int32} {A : Nat → Nat → Int32} {n : Nat} (h : (I 14).toInt = (n : Int)) (hn : n ≤ 160) : ∃ (I' : Nat → Int32) (A' : Nat → Nat → Int32), fX6_takeFrom I A = (0, I', A') ∧ Md [17, 18] I I' ∧ Md [7] A A' ∧ (I' 17).toInt = 0 ∧ (I' 18).toInt = (n : Int) ∧ ∀ i : Nat, i < n → A' 7 i = A 1 i := by
  unfold fX6_takeFrom
  refine run_iIA (Q := fun r => ∃ (I' : Nat → Int32) (A' : Nat → Nat → Int32), r = (0, I', A') ∧ Md [17, 18] I I' ∧ Md [7] A A' ∧ (I' 17).toInt = 0 ∧ (I' 18).toInt = (n : Int) ∧ ∀ i : Nat, i < n → A' 7 i = A 1 i) n (fun k x I1 A1 => x.toInt = (k : Int) ∧ Md [17, 18] I I1 ∧ Md [7] A A1 ∧ (I1 17).toInt = 0 ∧ (I1 18).toInt = (k : Int) ∧ ∀ i : Nat, i < k → A1 7 i = A 1 i) (fun G k x I1 A1 hk hP => ?_) FU 0 0 _ A ⟨rfl, Md.up (Md.up Md.rf rfl) rfl, Md.rf, rfl, rfl, fun i hi => by omega⟩ (by omega) (fu_lt (by omega))
  obtain ⟨hx, mI, mA, h17, h18, ha⟩ := hP
  unfold bX6_takeFrom_12
  dsimp only [f_lt]
  by_cases c : (I 14).toInt ≤ x.toInt
  · rw [if_pos c]
    have e : k = n := by omega
    subst e
    exact Or.inr ⟨I1, A1, rfl, mI, mA, h17, h18, ha⟩
  · rw [if_neg c]
    left
    refine ⟨by omega, ?_⟩
    have hV : fX8_valueAt I1 A1 x = A 1 k := by
      unfold fX8_valueAt
      rw [if_neg (by omega), mI 14 rfl, if_neg (by omega), if_neg (by omega), clN hx, mA 1 rfl]
    have hA : fX6_append I1 A1 (A 1 k) = (1, upd I1 18 (I1 18 + 1), up3 A1 7 k (A 1 k)) := by
      unfold fX6_append
      dsimp only [f_lt]
      rw [if_pos (by omega), ri_and (fs := 0) (by rw [h17]; rfl), h18, show ri (0 + (k : Int)) = k by unfold ri; omega]
    rw [hV, hA, bdX_mk]
    refine ⟨_, _, _, rfl, i_s hx (by omega), Md.up mI rfl, Md.up3 mA rfl, h17, ?_, fun i hi => ?_⟩
    · show (I1 18 + 1).toInt = _
      rw [i32_inc (by omega)]; omega
    · by_cases ei : i = k
      · rw [up3_at ei, ei]
      · rw [up3_ne ei]; exact ha i (by omega)
theorem x_set0 {I : Nat → Int32} {A : Nat → Nat → Int32} : ∃ A' : Nat → Nat → Int32, fX7_takeFrom I A = (0, I, A') ∧ Md [10] A A' ∧ ∀ i : Nat, i < 4 → A' 10 i = A 2 i := by
  unfold fX7_takeFrom
  refine run_iIA (Q := fun r => ∃ A' : Nat → Nat → Int32, r = (0, I, A') ∧ Md [10] A A' ∧ ∀ i : Nat, i < 4 → A' 10 i = A 2 i) 4 (fun k x I1 A1 => x.toInt = (k : Int) ∧ I1 = I ∧ Md [10] A A1 ∧ ∀ i : Nat, i < k → A1 10 i = A 2 i) (fun G k x I1 A1 hk hP => ?_) FU 0 0 I A ⟨rfl, rfl, Md.rf, fun i hi => by omega⟩ (by omega) (fu_lt (by omega))
  obtain ⟨hx, eI, mA, ha⟩ := hP
  unfold bX7_takeFrom_2
  dsimp only [f_lt]
  by_cases c : 4 ≤ x.toInt
  · rw [if_pos c, eI]
    exact Or.inr ⟨A1, rfl, mA, fun i hi => ha i (by omega)⟩
  · rw [if_neg c]
    left
    refine ⟨by omega, ?_⟩
    have hV : fX7_valueOf I1 A1 x = A 2 k := by
      unfold fX7_valueOf
      rw [if_neg (by omega), if_neg (by omega), clN hx, mA 2 rfl]
    rw [hV, clN hx]
    refine ⟨_, _, _, rfl, i_s hx (by omega), eI, Md.up3 mA rfl, fun i hi => ?_⟩
    by_cases ei : i = k
    · rw [up3_at ei, ei]
    · rw [up3_ne ei]; exact ha i (by omega)
theorem x_go0 {I : Nat → Int32} {A : Nat → Nat → Int32} {n : Nat} (h : (I 14).toInt = (n : Int)) (hn : n ≤ 160) : ∃ (I' : Nat → Int32) (A' : Nat → Nat → Int32), fX11_goOnFrom I A = (0, I', A') ∧ Md [17, 18, 21] I I' ∧ Md [7, 10] A A' ∧ (I' 17).toInt = 0 ∧ (I' 18).toInt = (n : Int) ∧ (I' 21).toInt = 0 ∧ (∀ i : Nat, i < n → A' 7 i = A 1 i) ∧ ∀ i : Nat, i < 4 → A' 10 i = A 2 i := by
  obtain ⟨I1, A1, a1, a2, a3, a4, a5, a6⟩ := x_ser0 (A := A) h hn
  obtain ⟨A2, b1, b2, b3⟩ := x_set0 (I := I1) (A := A1)
  unfold fX11_goOnFrom fX3_forget
  rw [a1, bdX_mk, b1, bdX_mk, bdX_mk]
  refine ⟨_, _, rfl, Md.up (Md.tr Md.rf a2 rfl) rfl, Md.tr (Md.tr Md.rf a3 rfl) b2 rfl, a4, a5, rfl, fun i hi => ?_, fun i hi => ?_⟩
  · rw [b2 7 rfl]; exact a6 i hi
  · rw [b3 i hi, a3 2 rfl]
theorem x_ser1 {I : Nat → Int32} {A : Nat → Nat → Int32} {n : Nat} (h : (I 22).toInt = (n : Int)) (hn : n ≤ 160) : ∃ (I' : Nat → Int32) (A' : Nat → Nat → Int32), fX6_takeFrom_2 I A = (0, I', A') ∧ Md [17, 18] I I' ∧ Md [7] A A' ∧ (I' 17).toInt = 0 ∧ (I' 18).toInt = (n : Int) ∧ ∀ i : Nat, i < n → A' 7 i = A 15 i := by
  unfold fX6_takeFrom_2
  refine run_iIA (Q := fun r => ∃ (I' : Nat → Int32) (A' : Nat → Nat → Int32), r = (0, I', A') ∧ Md [17, 18] I I' ∧ Md [7] A A' ∧ (I' 17).toInt = 0 ∧ (I' 18).toInt = (n : Int) ∧ ∀ i : Nat, i < n → A' 7 i = A 15 i) n (fun k x I1 A1 => x.toInt = (k : Int) ∧ Md [17, 18] I I1 ∧ Md [7] A A1 ∧ (I1 17).toInt = 0 ∧ (I1 18).toInt = (k : Int) ∧ ∀ i : Nat, i < k → A1 7 i = A 15 i) (fun G k x I1 A1 hk hP => ?_) FU 0 0 _ A ⟨rfl, Md.up (Md.up Md.rf rfl) rfl, Md.rf, rfl, rfl, fun i hi => by omega⟩ (by omega) (fu_lt (by omega))
  obtain ⟨hx, mI, mA, h17, h18, ha⟩ := hP
  unfold bX6_takeFrom_2_12
  dsimp only [f_lt]
  by_cases c : (I 22).toInt ≤ x.toInt
  · rw [if_pos c]
    have e : k = n := by omega
    subst e
    exact Or.inr ⟨I1, A1, rfl, mI, mA, h17, h18, ha⟩
  · rw [if_neg c]
    left
    refine ⟨by omega, ?_⟩
    have hV : fX8_valueAt_2 I1 A1 x = A 15 k := by
      unfold fX8_valueAt_2
      rw [if_neg (by omega), mI 22 rfl, if_neg (by omega), if_neg (by omega), clN hx, mA 15 rfl]
    have hA : fX6_append I1 A1 (A 15 k) = (1, upd I1 18 (I1 18 + 1), up3 A1 7 k (A 15 k)) := by
      unfold fX6_append
      dsimp only [f_lt]
      rw [if_pos (by omega), ri_and (fs := 0) (by rw [h17]; rfl), h18, show ri (0 + (k : Int)) = k by unfold ri; omega]
    rw [hV, hA, bdX_mk]
    refine ⟨_, _, _, rfl, i_s hx (by omega), Md.up mI rfl, Md.up3 mA rfl, h17, ?_, fun i hi => ?_⟩
    · show (I1 18 + 1).toInt = _
      rw [i32_inc (by omega)]; omega
    · by_cases ei : i = k
      · rw [up3_at ei, ei]
      · rw [up3_ne ei]; exact ha i (by omega)
theorem x_set1 {I : Nat → Int32} {A : Nat → Nat → Int32} : ∃ A' : Nat → Nat → Int32, fX7_takeFrom_5 I A = (0, I, A') ∧ Md [10] A A' ∧ ∀ i : Nat, i < 4 → A' 10 i = A 16 i := by
  unfold fX7_takeFrom_5
  refine run_iIA (Q := fun r => ∃ A' : Nat → Nat → Int32, r = (0, I, A') ∧ Md [10] A A' ∧ ∀ i : Nat, i < 4 → A' 10 i = A 16 i) 4 (fun k x I1 A1 => x.toInt = (k : Int) ∧ I1 = I ∧ Md [10] A A1 ∧ ∀ i : Nat, i < k → A1 10 i = A 16 i) (fun G k x I1 A1 hk hP => ?_) FU 0 0 I A ⟨rfl, rfl, Md.rf, fun i hi => by omega⟩ (by omega) (fu_lt (by omega))
  obtain ⟨hx, eI, mA, ha⟩ := hP
  unfold bX7_takeFrom_5_2
  dsimp only [f_lt]
  by_cases c : 4 ≤ x.toInt
  · rw [if_pos c, eI]
    exact Or.inr ⟨A1, rfl, mA, fun i hi => ha i (by omega)⟩
  · rw [if_neg c]
    left
    refine ⟨by omega, ?_⟩
    have hV : fX7_valueOf_3 I1 A1 x = A 16 k := by
      unfold fX7_valueOf_3
      rw [if_neg (by omega), if_neg (by omega), clN hx, mA 16 rfl]
    rw [hV, clN hx]
    refine ⟨_, _, _, rfl, i_s hx (by omega), eI, Md.up3 mA rfl, fun i hi => ?_⟩
    by_cases ei : i = k
    · rw [up3_at ei, ei]
    · rw [up3_ne ei]; exact ha i (by omega)
theorem x_go1 {I : Nat → Int32} {A : Nat → Nat → Int32} {n : Nat} (h : (I 22).toInt = (n : Int)) (hn : n ≤ 160) : ∃ (I' : Nat → Int32) (A' : Nat → Nat → Int32), fX11_goOnFrom_2 I A = (0, I', A') ∧ Md [17, 18, 21] I I' ∧ Md [7, 10] A A' ∧ (I' 17).toInt = 0 ∧ (I' 18).toInt = (n : Int) ∧ (I' 21).toInt = 0 ∧ (∀ i : Nat, i < n → A' 7 i = A 15 i) ∧ ∀ i : Nat, i < 4 → A' 10 i = A 16 i := by
  obtain ⟨I1, A1, a1, a2, a3, a4, a5, a6⟩ := x_ser1 (A := A) h hn
  obtain ⟨A2, b1, b2, b3⟩ := x_set1 (I := I1) (A := A1)
  unfold fX11_goOnFrom_2 fX3_forget
  rw [a1, bdX_mk, b1, bdX_mk, bdX_mk]
  refine ⟨_, _, rfl, Md.up (Md.tr Md.rf a2 rfl) rfl, Md.tr (Md.tr Md.rf a3 rfl) b2 rfl, a4, a5, rfl, fun i hi => ?_, fun i hi => ?_⟩
  · rw [b2 7 rfl]; exact a6 i hi
  · rw [b3 i hi, a3 16 rfl]
theorem x_ser2 {I : Nat → Int32} {A : Nat → Nat → Int32} {n : Nat} (h : (I 24).toInt = (n : Int)) (hn : n ≤ 160) : ∃ (I' : Nat → Int32) (A' : Nat → Nat → Int32), fX6_takeFrom_3 I A = (0, I', A') ∧ Md [17, 18] I I' ∧ Md [7] A A' ∧ (I' 17).toInt = 0 ∧ (I' 18).toInt = (n : Int) ∧ ∀ i : Nat, i < n → A' 7 i = A 17 i := by
  unfold fX6_takeFrom_3
  refine run_iIA (Q := fun r => ∃ (I' : Nat → Int32) (A' : Nat → Nat → Int32), r = (0, I', A') ∧ Md [17, 18] I I' ∧ Md [7] A A' ∧ (I' 17).toInt = 0 ∧ (I' 18).toInt = (n : Int) ∧ ∀ i : Nat, i < n → A' 7 i = A 17 i) n (fun k x I1 A1 => x.toInt = (k : Int) ∧ Md [17, 18] I I1 ∧ Md [7] A A1 ∧ (I1 17).toInt = 0 ∧ (I1 18).toInt = (k : Int) ∧ ∀ i : Nat, i < k → A1 7 i = A 17 i) (fun G k x I1 A1 hk hP => ?_) FU 0 0 _ A ⟨rfl, Md.up (Md.up Md.rf rfl) rfl, Md.rf, rfl, rfl, fun i hi => by omega⟩ (by omega) (fu_lt (by omega))
  obtain ⟨hx, mI, mA, h17, h18, ha⟩ := hP
  unfold bX6_takeFrom_3_12
  dsimp only [f_lt]
  by_cases c : (I 24).toInt ≤ x.toInt
  · rw [if_pos c]
    have e : k = n := by omega
    subst e
    exact Or.inr ⟨I1, A1, rfl, mI, mA, h17, h18, ha⟩
  · rw [if_neg c]
    left
    refine ⟨by omega, ?_⟩
    have hV : fX8_valueAt_3 I1 A1 x = A 17 k := by
      unfold fX8_valueAt_3
      rw [if_neg (by omega), mI 24 rfl, if_neg (by omega), if_neg (by omega), clN hx, mA 17 rfl]
    have hA : fX6_append I1 A1 (A 17 k) = (1, upd I1 18 (I1 18 + 1), up3 A1 7 k (A 17 k)) := by
      unfold fX6_append
      dsimp only [f_lt]
      rw [if_pos (by omega), ri_and (fs := 0) (by rw [h17]; rfl), h18, show ri (0 + (k : Int)) = k by unfold ri; omega]
    rw [hV, hA, bdX_mk]
    refine ⟨_, _, _, rfl, i_s hx (by omega), Md.up mI rfl, Md.up3 mA rfl, h17, ?_, fun i hi => ?_⟩
    · show (I1 18 + 1).toInt = _
      rw [i32_inc (by omega)]; omega
    · by_cases ei : i = k
      · rw [up3_at ei, ei]
      · rw [up3_ne ei]; exact ha i (by omega)
theorem x_set2 {I : Nat → Int32} {A : Nat → Nat → Int32} : ∃ A' : Nat → Nat → Int32, fX7_takeFrom_6 I A = (0, I, A') ∧ Md [10] A A' ∧ ∀ i : Nat, i < 4 → A' 10 i = A 18 i := by
  unfold fX7_takeFrom_6
  refine run_iIA (Q := fun r => ∃ A' : Nat → Nat → Int32, r = (0, I, A') ∧ Md [10] A A' ∧ ∀ i : Nat, i < 4 → A' 10 i = A 18 i) 4 (fun k x I1 A1 => x.toInt = (k : Int) ∧ I1 = I ∧ Md [10] A A1 ∧ ∀ i : Nat, i < k → A1 10 i = A 18 i) (fun G k x I1 A1 hk hP => ?_) FU 0 0 I A ⟨rfl, rfl, Md.rf, fun i hi => by omega⟩ (by omega) (fu_lt (by omega))
  obtain ⟨hx, eI, mA, ha⟩ := hP
  unfold bX7_takeFrom_6_2
  dsimp only [f_lt]
  by_cases c : 4 ≤ x.toInt
  · rw [if_pos c, eI]
    exact Or.inr ⟨A1, rfl, mA, fun i hi => ha i (by omega)⟩
  · rw [if_neg c]
    left
    refine ⟨by omega, ?_⟩
    have hV : fX7_valueOf_4 I1 A1 x = A 18 k := by
      unfold fX7_valueOf_4
      rw [if_neg (by omega), if_neg (by omega), clN hx, mA 18 rfl]
    rw [hV, clN hx]
    refine ⟨_, _, _, rfl, i_s hx (by omega), eI, Md.up3 mA rfl, fun i hi => ?_⟩
    by_cases ei : i = k
    · rw [up3_at ei, ei]
    · rw [up3_ne ei]; exact ha i (by omega)
theorem x_go2 {I : Nat → Int32} {A : Nat → Nat → Int32} {n : Nat} (h : (I 24).toInt = (n : Int)) (hn : n ≤ 160) : ∃ (I' : Nat → Int32) (A' : Nat → Nat → Int32), fX11_goOnFrom_3 I A = (0, I', A') ∧ Md [17, 18, 21] I I' ∧ Md [7, 10] A A' ∧ (I' 17).toInt = 0 ∧ (I' 18).toInt = (n : Int) ∧ (I' 21).toInt = 0 ∧ (∀ i : Nat, i < n → A' 7 i = A 17 i) ∧ ∀ i : Nat, i < 4 → A' 10 i = A 18 i := by
  obtain ⟨I1, A1, a1, a2, a3, a4, a5, a6⟩ := x_ser2 (A := A) h hn
  obtain ⟨A2, b1, b2, b3⟩ := x_set2 (I := I1) (A := A1)
  unfold fX11_goOnFrom_3 fX3_forget
  rw [a1, bdX_mk, b1, bdX_mk, bdX_mk]
  refine ⟨_, _, rfl, Md.up (Md.tr Md.rf a2 rfl) rfl, Md.tr (Md.tr Md.rf a3 rfl) b2 rfl, a4, a5, rfl, fun i hi => ?_, fun i hi => ?_⟩
  · rw [b2 7 rfl]; exact a6 i hi
  · rw [b3 i hi, a3 18 rfl]
theorem x_ser3 {I : Nat → Int32} {A : Nat → Nat → Int32} {n : Nat} (h : (I 26).toInt = (n : Int)) (hn : n ≤ 160) : ∃ (I' : Nat → Int32) (A' : Nat → Nat → Int32), fX6_takeFrom_4 I A = (0, I', A') ∧ Md [17, 18] I I' ∧ Md [7] A A' ∧ (I' 17).toInt = 0 ∧ (I' 18).toInt = (n : Int) ∧ ∀ i : Nat, i < n → A' 7 i = A 19 i := by
  unfold fX6_takeFrom_4
  refine run_iIA (Q := fun r => ∃ (I' : Nat → Int32) (A' : Nat → Nat → Int32), r = (0, I', A') ∧ Md [17, 18] I I' ∧ Md [7] A A' ∧ (I' 17).toInt = 0 ∧ (I' 18).toInt = (n : Int) ∧ ∀ i : Nat, i < n → A' 7 i = A 19 i) n (fun k x I1 A1 => x.toInt = (k : Int) ∧ Md [17, 18] I I1 ∧ Md [7] A A1 ∧ (I1 17).toInt = 0 ∧ (I1 18).toInt = (k : Int) ∧ ∀ i : Nat, i < k → A1 7 i = A 19 i) (fun G k x I1 A1 hk hP => ?_) FU 0 0 _ A ⟨rfl, Md.up (Md.up Md.rf rfl) rfl, Md.rf, rfl, rfl, fun i hi => by omega⟩ (by omega) (fu_lt (by omega))
  obtain ⟨hx, mI, mA, h17, h18, ha⟩ := hP
  unfold bX6_takeFrom_4_12
  dsimp only [f_lt]
  by_cases c : (I 26).toInt ≤ x.toInt
  · rw [if_pos c]
    have e : k = n := by omega
    subst e
    exact Or.inr ⟨I1, A1, rfl, mI, mA, h17, h18, ha⟩
  · rw [if_neg c]
    left
    refine ⟨by omega, ?_⟩
    have hV : fX8_valueAt_4 I1 A1 x = A 19 k := by
      unfold fX8_valueAt_4
      rw [if_neg (by omega), mI 26 rfl, if_neg (by omega), if_neg (by omega), clN hx, mA 19 rfl]
    have hA : fX6_append I1 A1 (A 19 k) = (1, upd I1 18 (I1 18 + 1), up3 A1 7 k (A 19 k)) := by
      unfold fX6_append
      dsimp only [f_lt]
      rw [if_pos (by omega), ri_and (fs := 0) (by rw [h17]; rfl), h18, show ri (0 + (k : Int)) = k by unfold ri; omega]
    rw [hV, hA, bdX_mk]
    refine ⟨_, _, _, rfl, i_s hx (by omega), Md.up mI rfl, Md.up3 mA rfl, h17, ?_, fun i hi => ?_⟩
    · show (I1 18 + 1).toInt = _
      rw [i32_inc (by omega)]; omega
    · by_cases ei : i = k
      · rw [up3_at ei, ei]
      · rw [up3_ne ei]; exact ha i (by omega)
theorem x_set3 {I : Nat → Int32} {A : Nat → Nat → Int32} : ∃ A' : Nat → Nat → Int32, fX7_takeFrom_7 I A = (0, I, A') ∧ Md [10] A A' ∧ ∀ i : Nat, i < 4 → A' 10 i = A 20 i := by
  unfold fX7_takeFrom_7
  refine run_iIA (Q := fun r => ∃ A' : Nat → Nat → Int32, r = (0, I, A') ∧ Md [10] A A' ∧ ∀ i : Nat, i < 4 → A' 10 i = A 20 i) 4 (fun k x I1 A1 => x.toInt = (k : Int) ∧ I1 = I ∧ Md [10] A A1 ∧ ∀ i : Nat, i < k → A1 10 i = A 20 i) (fun G k x I1 A1 hk hP => ?_) FU 0 0 I A ⟨rfl, rfl, Md.rf, fun i hi => by omega⟩ (by omega) (fu_lt (by omega))
  obtain ⟨hx, eI, mA, ha⟩ := hP
  unfold bX7_takeFrom_7_2
  dsimp only [f_lt]
  by_cases c : 4 ≤ x.toInt
  · rw [if_pos c, eI]
    exact Or.inr ⟨A1, rfl, mA, fun i hi => ha i (by omega)⟩
  · rw [if_neg c]
    left
    refine ⟨by omega, ?_⟩
    have hV : fX7_valueOf_5 I1 A1 x = A 20 k := by
      unfold fX7_valueOf_5
      rw [if_neg (by omega), if_neg (by omega), clN hx, mA 20 rfl]
    rw [hV, clN hx]
    refine ⟨_, _, _, rfl, i_s hx (by omega), eI, Md.up3 mA rfl, fun i hi => ?_⟩
    by_cases ei : i = k
    · rw [up3_at ei, ei]
    · rw [up3_ne ei]; exact ha i (by omega)
theorem x_go3 {I : Nat → Int32} {A : Nat → Nat → Int32} {n : Nat} (h : (I 26).toInt = (n : Int)) (hn : n ≤ 160) : ∃ (I' : Nat → Int32) (A' : Nat → Nat → Int32), fX11_goOnFrom_4 I A = (0, I', A') ∧ Md [17, 18, 21] I I' ∧ Md [7, 10] A A' ∧ (I' 17).toInt = 0 ∧ (I' 18).toInt = (n : Int) ∧ (I' 21).toInt = 0 ∧ (∀ i : Nat, i < n → A' 7 i = A 19 i) ∧ ∀ i : Nat, i < 4 → A' 10 i = A 20 i := by
  obtain ⟨I1, A1, a1, a2, a3, a4, a5, a6⟩ := x_ser3 (A := A) h hn
  obtain ⟨A2, b1, b2, b3⟩ := x_set3 (I := I1) (A := A1)
  unfold fX11_goOnFrom_4 fX3_forget
  rw [a1, bdX_mk, b1, bdX_mk, bdX_mk]
  refine ⟨_, _, rfl, Md.up (Md.tr Md.rf a2 rfl) rfl, Md.tr (Md.tr Md.rf a3 rfl) b2 rfl, a4, a5, rfl, fun i hi => ?_, fun i hi => ?_⟩
  · rw [b2 7 rfl]; exact a6 i hi
  · rw [b3 i hi, a3 20 rfl]
theorem x_put0 {I : Nat → Int32} {A : Nat → Nat → Int32} {n : Nat} {fs : Int} (h17 : (I 17).toInt = fs % 256) (h : (I 18).toInt = (n : Int)) (hn : n ≤ 160) : ∃ (I' : Nat → Int32) (A' : Nat → Nat → Int32), fX6_copyInto I A = (0, I', A') ∧ Md [22] I I' ∧ Md [15] A A' ∧ (I' 22).toInt = (n : Int) ∧ ∀ i : Nat, i < n → A' 15 i = A 7 (ri (fs + i)) := by
  unfold fX6_copyInto
  refine run_iIA (Q := fun r => ∃ (I' : Nat → Int32) (A' : Nat → Nat → Int32), r = (0, I', A') ∧ Md [22] I I' ∧ Md [15] A A' ∧ (I' 22).toInt = (n : Int) ∧ ∀ i : Nat, i < n → A' 15 i = A 7 (ri (fs + i))) n (fun k x I1 A1 => x.toInt = (k : Int) ∧ Md [22] I I1 ∧ Md [15] A A1 ∧ (I1 22).toInt = (k : Int) ∧ ∀ i : Nat, i < k → A1 15 i = A 7 (ri (fs + i))) (fun G k x I1 A1 hk hP => ?_) FU 0 0 _ A ⟨rfl, Md.up Md.rf rfl, Md.rf, rfl, fun i hi => by omega⟩ (by omega) (fu_lt (by omega))
  obtain ⟨hx, mI, mA, h18, ha⟩ := hP
  unfold bX6_copyInto_7
  dsimp only [f_lt]
  by_cases c : (I 18).toInt ≤ x.toInt
  · rw [if_pos c]
    have e : k = n := by omega
    subst e
    exact Or.inr ⟨I1, A1, rfl, mI, mA, h18, ha⟩
  · rw [if_neg c]
    left
    refine ⟨by omega, ?_⟩
    have hV : fX6_valueAt I1 A1 x = A 7 (ri (fs + k)) := by
      rw [x_val (fs := fs) (by rw [mI 17 rfl]; exact h17) (by omega) (by rw [mI 18 rfl]; omega), mA 7 rfl, hx]
    have hA : fX8_append_2 I1 A1 (A 7 (ri (fs + k))) = (0, upd I1 22 (I1 22 + 1), up3 A1 15 k (A 7 (ri (fs + k)))) := by
      unfold fX8_append_2
      dsimp only [f_lt]
      rw [if_neg (by omega), if_neg (by omega), clN h18]
    rw [hV, hA, bdX_mk]
    refine ⟨_, _, _, rfl, i_s hx (by omega), Md.up mI rfl, Md.up3 mA rfl, ?_, fun i hi => ?_⟩
    · show (I1 22 + 1).toInt = _
      rw [i32_inc (by omega)]; omega
    · by_cases ei : i = k
      · rw [up3_at ei, ei]
      · rw [up3_ne ei]; exact ha i (by omega)
theorem x_puts0 {I : Nat → Int32} {A : Nat → Nat → Int32} : ∃ A' : Nat → Nat → Int32, fX7_takeFrom_2 I A = (0, I, A') ∧ Md [16] A A' ∧ ∀ i : Nat, i < 4 → A' 16 i = A 10 i := by
  unfold fX7_takeFrom_2
  refine run_iIA (Q := fun r => ∃ A' : Nat → Nat → Int32, r = (0, I, A') ∧ Md [16] A A' ∧ ∀ i : Nat, i < 4 → A' 16 i = A 10 i) 4 (fun k x I1 A1 => x.toInt = (k : Int) ∧ I1 = I ∧ Md [16] A A1 ∧ ∀ i : Nat, i < k → A1 16 i = A 10 i) (fun G k x I1 A1 hk hP => ?_) FU 0 0 I A ⟨rfl, rfl, Md.rf, fun i hi => by omega⟩ (by omega) (fu_lt (by omega))
  obtain ⟨hx, eI, mA, ha⟩ := hP
  unfold bX7_takeFrom_2_2
  dsimp only [f_lt]
  by_cases c : 4 ≤ x.toInt
  · rw [if_pos c, eI]
    exact Or.inr ⟨A1, rfl, mA, fun i hi => ha i (by omega)⟩
  · rw [if_neg c]
    left
    refine ⟨by omega, ?_⟩
    have hV : fX7_valueOf_2 I1 A1 x = A 10 k := by
      unfold fX7_valueOf_2
      rw [if_neg (by omega), if_neg (by omega), clN hx, mA 10 rfl]
    rw [hV, clN hx]
    refine ⟨_, _, _, rfl, i_s hx (by omega), eI, Md.up3 mA rfl, fun i hi => ?_⟩
    by_cases ei : i = k
    · rw [up3_at ei, ei]
    · rw [up3_ne ei]; exact ha i (by omega)
theorem x_put1 {I : Nat → Int32} {A : Nat → Nat → Int32} {n : Nat} {fs : Int} (h17 : (I 17).toInt = fs % 256) (h : (I 18).toInt = (n : Int)) (hn : n ≤ 160) : ∃ (I' : Nat → Int32) (A' : Nat → Nat → Int32), fX6_copyInto_2 I A = (0, I', A') ∧ Md [24] I I' ∧ Md [17] A A' ∧ (I' 24).toInt = (n : Int) ∧ ∀ i : Nat, i < n → A' 17 i = A 7 (ri (fs + i)) := by
  unfold fX6_copyInto_2
  refine run_iIA (Q := fun r => ∃ (I' : Nat → Int32) (A' : Nat → Nat → Int32), r = (0, I', A') ∧ Md [24] I I' ∧ Md [17] A A' ∧ (I' 24).toInt = (n : Int) ∧ ∀ i : Nat, i < n → A' 17 i = A 7 (ri (fs + i))) n (fun k x I1 A1 => x.toInt = (k : Int) ∧ Md [24] I I1 ∧ Md [17] A A1 ∧ (I1 24).toInt = (k : Int) ∧ ∀ i : Nat, i < k → A1 17 i = A 7 (ri (fs + i))) (fun G k x I1 A1 hk hP => ?_) FU 0 0 _ A ⟨rfl, Md.up Md.rf rfl, Md.rf, rfl, fun i hi => by omega⟩ (by omega) (fu_lt (by omega))
  obtain ⟨hx, mI, mA, h18, ha⟩ := hP
  unfold bX6_copyInto_2_7
  dsimp only [f_lt]
  by_cases c : (I 18).toInt ≤ x.toInt
  · rw [if_pos c]
    have e : k = n := by omega
    subst e
    exact Or.inr ⟨I1, A1, rfl, mI, mA, h18, ha⟩
  · rw [if_neg c]
    left
    refine ⟨by omega, ?_⟩
    have hV : fX6_valueAt I1 A1 x = A 7 (ri (fs + k)) := by
      rw [x_val (fs := fs) (by rw [mI 17 rfl]; exact h17) (by omega) (by rw [mI 18 rfl]; omega), mA 7 rfl, hx]
    have hA : fX8_append_3 I1 A1 (A 7 (ri (fs + k))) = (0, upd I1 24 (I1 24 + 1), up3 A1 17 k (A 7 (ri (fs + k)))) := by
      unfold fX8_append_3
      dsimp only [f_lt]
      rw [if_neg (by omega), if_neg (by omega), clN h18]
    rw [hV, hA, bdX_mk]
    refine ⟨_, _, _, rfl, i_s hx (by omega), Md.up mI rfl, Md.up3 mA rfl, ?_, fun i hi => ?_⟩
    · show (I1 24 + 1).toInt = _
      rw [i32_inc (by omega)]; omega
    · by_cases ei : i = k
      · rw [up3_at ei, ei]
      · rw [up3_ne ei]; exact ha i (by omega)
theorem x_puts1 {I : Nat → Int32} {A : Nat → Nat → Int32} : ∃ A' : Nat → Nat → Int32, fX7_takeFrom_3 I A = (0, I, A') ∧ Md [18] A A' ∧ ∀ i : Nat, i < 4 → A' 18 i = A 10 i := by
  unfold fX7_takeFrom_3
  refine run_iIA (Q := fun r => ∃ A' : Nat → Nat → Int32, r = (0, I, A') ∧ Md [18] A A' ∧ ∀ i : Nat, i < 4 → A' 18 i = A 10 i) 4 (fun k x I1 A1 => x.toInt = (k : Int) ∧ I1 = I ∧ Md [18] A A1 ∧ ∀ i : Nat, i < k → A1 18 i = A 10 i) (fun G k x I1 A1 hk hP => ?_) FU 0 0 I A ⟨rfl, rfl, Md.rf, fun i hi => by omega⟩ (by omega) (fu_lt (by omega))
  obtain ⟨hx, eI, mA, ha⟩ := hP
  unfold bX7_takeFrom_3_2
  dsimp only [f_lt]
  by_cases c : 4 ≤ x.toInt
  · rw [if_pos c, eI]
    exact Or.inr ⟨A1, rfl, mA, fun i hi => ha i (by omega)⟩
  · rw [if_neg c]
    left
    refine ⟨by omega, ?_⟩
    have hV : fX7_valueOf_2 I1 A1 x = A 10 k := by
      unfold fX7_valueOf_2
      rw [if_neg (by omega), if_neg (by omega), clN hx, mA 10 rfl]
    rw [hV, clN hx]
    refine ⟨_, _, _, rfl, i_s hx (by omega), eI, Md.up3 mA rfl, fun i hi => ?_⟩
    by_cases ei : i = k
    · rw [up3_at ei, ei]
    · rw [up3_ne ei]; exact ha i (by omega)
theorem x_put2 {I : Nat → Int32} {A : Nat → Nat → Int32} {n : Nat} {fs : Int} (h17 : (I 17).toInt = fs % 256) (h : (I 18).toInt = (n : Int)) (hn : n ≤ 160) : ∃ (I' : Nat → Int32) (A' : Nat → Nat → Int32), fX6_copyInto_3 I A = (0, I', A') ∧ Md [26] I I' ∧ Md [19] A A' ∧ (I' 26).toInt = (n : Int) ∧ ∀ i : Nat, i < n → A' 19 i = A 7 (ri (fs + i)) := by
  unfold fX6_copyInto_3
  refine run_iIA (Q := fun r => ∃ (I' : Nat → Int32) (A' : Nat → Nat → Int32), r = (0, I', A') ∧ Md [26] I I' ∧ Md [19] A A' ∧ (I' 26).toInt = (n : Int) ∧ ∀ i : Nat, i < n → A' 19 i = A 7 (ri (fs + i))) n (fun k x I1 A1 => x.toInt = (k : Int) ∧ Md [26] I I1 ∧ Md [19] A A1 ∧ (I1 26).toInt = (k : Int) ∧ ∀ i : Nat, i < k → A1 19 i = A 7 (ri (fs + i))) (fun G k x I1 A1 hk hP => ?_) FU 0 0 _ A ⟨rfl, Md.up Md.rf rfl, Md.rf, rfl, fun i hi => by omega⟩ (by omega) (fu_lt (by omega))
  obtain ⟨hx, mI, mA, h18, ha⟩ := hP
  unfold bX6_copyInto_3_7
  dsimp only [f_lt]
  by_cases c : (I 18).toInt ≤ x.toInt
  · rw [if_pos c]
    have e : k = n := by omega
    subst e
    exact Or.inr ⟨I1, A1, rfl, mI, mA, h18, ha⟩
  · rw [if_neg c]
    left
    refine ⟨by omega, ?_⟩
    have hV : fX6_valueAt I1 A1 x = A 7 (ri (fs + k)) := by
      rw [x_val (fs := fs) (by rw [mI 17 rfl]; exact h17) (by omega) (by rw [mI 18 rfl]; omega), mA 7 rfl, hx]
    have hA : fX8_append_4 I1 A1 (A 7 (ri (fs + k))) = (0, upd I1 26 (I1 26 + 1), up3 A1 19 k (A 7 (ri (fs + k)))) := by
      unfold fX8_append_4
      dsimp only [f_lt]
      rw [if_neg (by omega), if_neg (by omega), clN h18]
    rw [hV, hA, bdX_mk]
    refine ⟨_, _, _, rfl, i_s hx (by omega), Md.up mI rfl, Md.up3 mA rfl, ?_, fun i hi => ?_⟩
    · show (I1 26 + 1).toInt = _
      rw [i32_inc (by omega)]; omega
    · by_cases ei : i = k
      · rw [up3_at ei, ei]
      · rw [up3_ne ei]; exact ha i (by omega)
theorem x_puts2 {I : Nat → Int32} {A : Nat → Nat → Int32} : ∃ A' : Nat → Nat → Int32, fX7_takeFrom_4 I A = (0, I, A') ∧ Md [20] A A' ∧ ∀ i : Nat, i < 4 → A' 20 i = A 10 i := by
  unfold fX7_takeFrom_4
  refine run_iIA (Q := fun r => ∃ A' : Nat → Nat → Int32, r = (0, I, A') ∧ Md [20] A A' ∧ ∀ i : Nat, i < 4 → A' 20 i = A 10 i) 4 (fun k x I1 A1 => x.toInt = (k : Int) ∧ I1 = I ∧ Md [20] A A1 ∧ ∀ i : Nat, i < k → A1 20 i = A 10 i) (fun G k x I1 A1 hk hP => ?_) FU 0 0 I A ⟨rfl, rfl, Md.rf, fun i hi => by omega⟩ (by omega) (fu_lt (by omega))
  obtain ⟨hx, eI, mA, ha⟩ := hP
  unfold bX7_takeFrom_4_2
  dsimp only [f_lt]
  by_cases c : 4 ≤ x.toInt
  · rw [if_pos c, eI]
    exact Or.inr ⟨A1, rfl, mA, fun i hi => ha i (by omega)⟩
  · rw [if_neg c]
    left
    refine ⟨by omega, ?_⟩
    have hV : fX7_valueOf_2 I1 A1 x = A 10 k := by
      unfold fX7_valueOf_2
      rw [if_neg (by omega), if_neg (by omega), clN hx, mA 10 rfl]
    rw [hV, clN hx]
    refine ⟨_, _, _, rfl, i_s hx (by omega), eI, Md.up3 mA rfl, fun i hi => ?_⟩
    by_cases ei : i = k
    · rw [up3_at ei, ei]
    · rw [up3_ne ei]; exact ha i (by omega)
