/-- a place's value in the class's rows and in the reference's -/
def RdE (v w : Int32) : Prop := (v = -1000 ∧ w = 100000) ∨ (w = v ∧ -999 ≤ v.toInt ∧ v.toInt ≤ 999)
/-- what is set, in the class's row and in the reference's -/
def StE (S r : Nat → Int32) : Prop := (r 161 = S 0 ∧ 0 ≤ (S 0).toInt ∧ (S 0).toInt ≤ 15) ∧ (r 162 = S 1 ∧ 0 ≤ (S 1).toInt ∧ (S 1).toInt ≤ 3) ∧ (r 163 = S 2 ∧ 0 ≤ (S 2).toInt ∧ (S 2).toInt ≤ 1) ∧ (r 164 = S 3 ∧ 1 ≤ (S 3).toInt ∧ (S 3).toInt ≤ 99)
/-- where a place lies in the ring -/
def ri (a : Int) : Nat := (a % 256).toNat
theorem ri_ne {a b : Int} (h : a < b) (h2 : b < a + 256) : ri a ≠ ri b := by unfold ri; omega
theorem ri_lt {a : Int} (h : 0 ≤ a) (h2 : a < 256) : ri a = a.toNat := by unfold ri; omega
theorem ri_mod {a b : Int} (h : a % 256 = b % 256) : ri a = ri b := by unfold ri; omega
/-- the series of n places from fs on in the ring, and what is set, are the row r of the reference -/
def Rep (fs n : Int) (rg st r : Nat → Int32) : Prop := (r 0).toInt = n ∧ 0 ≤ n ∧ n ≤ 160 ∧ (∀ i : Nat, (i : Int) < n → RdE (rg (ri (fs + i))) (r (1 + i))) ∧ StE st r
theorem Rep.ring {fs n p : Int} {rg st r : Nat → Int32} {v : Int32} (h : Rep fs n rg st r) (h1 : fs + n ≤ p) (h2 : p < fs + 256) : Rep fs n (upd rg (ri p) v) st r := by
  obtain ⟨a, b, c, d, e⟩ := h
  refine ⟨a, b, c, fun i hi => ?_, e⟩
  rw [upd_ne (ri_ne (by omega) (by omega))]
  exact d i hi
theorem Rep.cg {fs n : Int} {rg st r r' : Nat → Int32} (h : Rep fs n rg st r) (e : ∀ k, k < 165 → r' k = r k) : Rep fs n rg st r' := by
  obtain ⟨a, b, c, d, e2⟩ := h
  refine ⟨by rw [e 0 (by omega)]; exact a, b, c, fun i hi => ?_, ?_⟩
  · rw [e (1 + i) (by omega)]; exact d i hi
  · unfold StE at *
    rw [e 161 (by omega), e 162 (by omega), e 163 (by omega), e 164 (by omega)]; exact e2
def pvN (k : Nat) : Nat := if k = 0 then 39 else k - 1
def nxN (k : Nat) : Nat := if k = 39 then 0 else k + 1
theorem pv_nx {k : Nat} (h : k < 40) : pvN (nxN k) = k := by
  unfold pvN nxN
  by_cases c : k = 39
  · rw [if_pos c, if_pos rfl, c]
  · rw [if_neg c, if_neg (by omega)]; omega
/-- one step undone by what was noted of it -/
def XP1 (Q : Int → Int → (Nat → Int32) → (Nat → Int32) → Prop) (k f s : Int32) (fs n : Int) (rg st : Nat → Int32) : Prop :=
  (k.toInt = 0 ∧ 1 ≤ n ∧ Q fs (n - 1) rg st) ∨ (k.toInt = 1 ∧ 0 ≤ f.toInt ∧ f.toInt < n ∧ Q fs n (upd rg (ri (fs + f.toInt)) (-1000)) st) ∨ (k.toInt = 2 ∧ 1 ≤ f.toInt ∧ f.toInt + n ≤ 160 ∧ Q (fs - f.toInt) (n + f.toInt) rg st) ∨ (k.toInt = 3 ∧ 0 ≤ f.toInt ∧ f.toInt < 4 ∧ Q fs n rg (upd st f.toNatClampNeg s))
/-- u steps undone one behind the other give the rows u - 1, u - 2 .. -/
def XP (K F S : Nat → Int32) (rw : Nat → Nat → Int32) : Nat → Int → Int → (Nat → Int32) → (Nat → Int32) → Nat → Prop
  | 0 => fun _ _ _ _ _ => True
  | u + 1 => fun fs n rg st nx => XP1 (fun fs' n' rg' st' => Rep fs' n' rg' st' (rw u) ∧ XP K F S rw u fs' n' rg' st' (pvN nx)) (K (pvN nx)) (F (pvN nx)) (S (pvN nx)) fs n rg st
theorem XP_s {K F S : Nat → Int32} {rw : Nat → Nat → Int32} {u : Nat} {fs n : Int} {rg st : Nat → Int32} {nx : Nat} : XP K F S rw (u + 1) fs n rg st nx = XP1 (fun fs' n' rg' st' => Rep fs' n' rg' st' (rw u) ∧ XP K F S rw u fs' n' rg' st' (pvN nx)) (K (pvN nx)) (F (pvN nx)) (S (pvN nx)) fs n rg st := rfl
theorem XP.ring {K F S : Nat → Int32} {rw : Nat → Nat → Int32} {p : Int} {v : Int32} : ∀ (u : Nat) (fs n : Int) (rg st : Nat → Int32) (nx : Nat), n ≤ 160 → fs + n ≤ p → p - (fs + n) + u ≤ 90 → XP K F S rw u fs n rg st nx → XP K F S rw u fs n (upd rg (ri p) v) st nx := by
  intro u
  induction u with
  | zero => intro fs n rg st nx _ _ _ _; exact trivial
  | succ u ih =>
    intro fs n rg st nx h0 h1 h2 h
    rw [XP_s] at h ⊢
    unfold XP1 at h ⊢
    rcases h with ⟨k, a, r, x⟩ | ⟨k, a, b, r, x⟩ | ⟨k, a, b, r, x⟩ | ⟨k, a, b, r, x⟩
    · exact Or.inl ⟨k, a, r.ring (by omega) (by omega), ih _ _ _ _ _ (by omega) (by omega) (by omega) x⟩
    · have e : upd (upd rg (ri p) v) (ri (fs + (F (pvN nx)).toInt)) (-1000) = upd (upd rg (ri (fs + (F (pvN nx)).toInt)) (-1000)) (ri p) v := upd_comm (fun e => ri_ne (by omega) (by omega) e.symm)
      rw [e]
      exact Or.inr (Or.inl ⟨k, a, b, r.ring (by omega) (by omega), ih _ _ _ _ _ (by omega) (by omega) (by omega) x⟩)
    · exact Or.inr (Or.inr (Or.inl ⟨k, a, b, r.ring (by omega) (by omega), ih _ _ _ _ _ (by omega) (by omega) (by omega) x⟩))
    · exact Or.inr (Or.inr (Or.inr ⟨k, a, b, r.ring (by omega) (by omega), ih _ _ _ _ _ (by omega) (by omega) (by omega) x⟩))
theorem XP.fr {K F S K' F' S' : Nat → Int32} {rw rw' : Nat → Nat → Int32} {q sh : Nat} (hK : ∀ j, j ≠ q → K' j = K j) (hF : ∀ j, j ≠ q → F' j = F j) (hS : ∀ j, j ≠ q → S' j = S j) : ∀ (u : Nat) (fs n : Int) (rg st : Nat → Int32) (nx c : Nat), u < c → c ≤ 40 → (nx = q + c ∨ nx + 40 = q + c) → nx < 40 → (∀ j, j < u → ∀ k, k < 165 → rw' j k = rw (j + sh) k) → XP K F S rw (u + sh) fs n rg st nx → XP K' F' S' rw' u fs n rg st nx := by
  intro u
  induction u with
  | zero => intro fs n rg st nx c _ _ _ _ _ _; exact trivial
  | succ u ih =>
    intro fs n rg st nx c h0 h1 h2 h3 hr h
    have e : u + 1 + sh = u + sh + 1 := by omega
    rw [e, XP_s] at h
    rw [XP_s]
    have hp : pvN nx ≠ q ∧ (pvN nx = q + (c - 1) ∨ pvN nx + 40 = q + (c - 1)) ∧ pvN nx < 40 := by
      unfold pvN
      by_cases c0 : nx = 0
      · rw [if_pos c0]; omega
      · rw [if_neg c0]; omega
    rw [hK _ hp.1, hF _ hp.1, hS _ hp.1]
    have hx : ∀ (fs' n' : Int) (rg' st' : Nat → Int32), (Rep fs' n' rg' st' (rw (u + sh)) ∧ XP K F S rw (u + sh) fs' n' rg' st' (pvN nx)) → (Rep fs' n' rg' st' (rw' u) ∧ XP K' F' S' rw' u fs' n' rg' st' (pvN nx)) := fun fs' n' rg' st' h9 => ⟨h9.1.cg (fun k hk => hr u (by omega) k hk), ih _ _ _ _ _ (c - 1) (by omega) (by omega) hp.2.1 hp.2.2 (fun j hj => hr j (by omega)) h9.2⟩
    unfold XP1 at h ⊢
    rcases h with ⟨k, a, r⟩ | ⟨k, a, b, r⟩ | ⟨k, a, b, r⟩ | ⟨k, a, b, r⟩
    · exact Or.inl ⟨k, a, hx _ _ _ _ r⟩
    · exact Or.inr (Or.inl ⟨k, a, b, hx _ _ _ _ r⟩)
    · exact Or.inr (Or.inr (Or.inl ⟨k, a, b, hx _ _ _ _ r⟩))
    · exact Or.inr (Or.inr (Or.inr ⟨k, a, b, hx _ _ _ _ r⟩))
/-- the steps so far, when the next one is noted at nx -/
theorem XP.old {K F S : Nat → Int32} {rw rw' : Nat → Nat → Int32} {u sh : Nat} {fs n : Int} {rg st : Nat → Int32} {nx : Nat} {k f s : Int32} (h : XP K F S rw (u + sh) fs n rg st nx) (hu : u ≤ 39) (hx : nx < 40) (hr : ∀ j, j < u → ∀ k, k < 165 → rw' j k = rw (j + sh) k) : XP (upd K nx k) (upd F nx f) (upd S nx s) rw' u fs n rg st nx :=
  XP.fr (q := nx) (sh := sh) (fun j hj => upd_ne hj) (fun j hj => upd_ne hj) (fun j hj => upd_ne hj) u fs n rg st nx 40 (by omega) (by omega) (Or.inr rfl) hx hr h
theorem XP.put {K F S : Nat → Int32} {rw' : Nat → Nat → Int32} {u : Nat} {fs n : Int} {rg st : Nat → Int32} {nx : Nat} {k f s : Int32} (hx : nx < 40) (hQ : XP1 (fun fs2 n2 rg2 st2 => Rep fs2 n2 rg2 st2 (rw' u) ∧ XP (upd K nx k) (upd F nx f) (upd S nx s) rw' u fs2 n2 rg2 st2 nx) k f s fs n rg st) : XP (upd K nx k) (upd F nx f) (upd S nx s) rw' (u + 1) fs n rg st (nxN nx) := by
  rw [XP_s, pv_nx hx]
  have e1 : upd K nx k nx = k := if_pos rfl
  have e2 : upd F nx f nx = f := if_pos rfl
  have e3 : upd S nx s nx = s := if_pos rfl
  rw [e1, e2, e3]; exact hQ
/-- a mask of 8 bits is the rest by 256 -/
theorem and255 (x : Int32) : (x &&& 255).toInt = x.toInt % 256 := by
  obtain ⟨m, hm, e⟩ : ∃ m : Nat, m < 2 ^ 32 ∧ x = nI m := ⟨x.toBitVec.toNat, x.toBitVec.isLt, Int32.toBitVec_inj.mp (by show _ = BitVec.ofNat 32 _; simp)⟩
  have e2 : x &&& 255 = nI (m % 256) := by
    apply Int32.toBitVec_inj.mp
    rw [e]
    show BitVec.ofNat 32 m &&& BitVec.ofNat 32 255 = BitVec.ofNat 32 (m % 256)
    apply BitVec.eq_of_toNat_eq
    rw [BitVec.toNat_and, BitVec.toNat_ofNat, BitVec.toNat_ofNat, BitVec.toNat_ofNat, Nat.mod_eq_of_lt hm, Nat.mod_eq_of_lt (show 255 < 2 ^ 32 by decide)]
    rw [Nat.and_two_pow_sub_one_eq_mod m 8]
    omega
  rw [e2, nI_toInt (by omega)]
  have e3 : x.toInt = (m : Int).bmod (2 ^ 32) := by
    rw [e]
    show (BitVec.ofNat 32 m).toInt = _
    rw [BitVec.toInt_eq_toNat_bmod, BitVec.toNat_ofNat, Nat.mod_eq_of_lt hm]
  rw [e3, Int.bmod_def]
  split <;> omega
theorem and255_add {x y : Int32} : ((x + y) &&& 255).toInt = (x.toInt + y.toInt) % 256 := by
  rw [and255, Int32.toInt_add, Int.bmod_def]
  split <;> omega
theorem and255_sub {x y : Int32} : ((x - y) &&& 255).toInt = (x.toInt - y.toInt) % 256 := by
  rw [and255, Int32.toInt_sub, Int.bmod_def]
  split <;> omega
/-- the ring's index -/
theorem ri_and {x y : Int32} {fs : Int} (h : x.toInt = fs % 256) : ((x + y) &&& 255).toNatClampNeg = ri (fs + y.toInt) := by
  have h1 := and255_add (x := x) (y := y)
  have h2 := cl_int (y := (x + y) &&& 255) (by rw [h1]; omega)
  unfold ri
  rw [h1, h] at h2
  omega
theorem if10 {α : Type} {p : Prop} {i : Decidable p} {a b : α} : (if (if p then (1 : Int32) else 0) = 0 then a else b) = if p then b else a := by
  by_cases h : p
  · rw [if_pos h, if_pos h, if_neg (by decide)]
  · rw [if_neg h, if_neg h, if_pos rfl]
theorem m_in {J : Nat → Int32} {B : Nat → Nat → Int32} {L : Nat → Nat → Int64} {z a b : Int32} : fM12_in J B L z a b = if a.toInt ≤ z.toInt ∧ z.toInt ≤ b.toInt then 1 else 0 := by
  unfold fM12_in
  by_cases c : z.toInt < a.toInt
  · rw [if_pos c, if_neg (by omega)]
  · rw [if_neg c]
    by_cases d : b.toInt < z.toInt
    · rw [if_pos d, if_neg (by omega)]
    · rw [if_neg d, if_pos (by omega)]
theorem f_lt_eq {α ρ : Type} {v : α} {k : α → ρ} : f_lt v k = k v := (Classical.em True).elim (fun _ => rfl) (fun _ => rfl)
