def FE {α : Type} (a b : α) : Prop := a = b
def FU : Nat := 10000000000
theorem FU_eq : (FU : Int) = 10000000000 := rfl
def f_lt {α ρ : Type} (v : α) (k : α → ρ) : ρ := k v
def f_bdX {ρ : Type} (r : Int32 × (Nat → Int32) × (Nat → Nat → Int32)) (k : Int32 → (Nat → Int32) → (Nat → Nat → Int32) → ρ) : ρ := k r.1 r.2.1 r.2.2
def f_bdM {ρ : Type} (r : Int32 × (Nat → Int32) × (Nat → Nat → Int32) × (Nat → Nat → Int64)) (k : Int32 → (Nat → Int32) → (Nat → Nat → Int32) → (Nat → Nat → Int64) → ρ) : ρ := k r.1 r.2.1 r.2.2.1 r.2.2.2
theorem FE.rf {α : Type} {a : α} : FE a a := rfl
theorem FE.lt {α ρ : Type} {f : ρ} {v y : α} {k : α → ρ} (h : FE f (f_lt v k)) (e : y = v) : FE f (k y) := by subst e; exact h
theorem FE.pos {ρ : Type} {f a b : ρ} {c : Prop} {i : Decidable c} (h : FE f (@ite ρ c i a b)) (hc : c) : FE f a := Eq.trans (b := @ite ρ c i a b) h (if_pos hc)
theorem FE.neg {ρ : Type} {f a b : ρ} {c : Prop} {i : Decidable c} (h : FE f (@ite ρ c i a b)) (hc : ¬ c) : FE f b := Eq.trans (b := @ite ρ c i a b) h (if_neg hc)
theorem FE.bdX {ρ : Type} {f : ρ} {r : Int32 × (Nat → Int32) × (Nat → Nat → Int32)} {k : Int32 → (Nat → Int32) → (Nat → Nat → Int32) → ρ} {y : Int32} {I : Nat → Int32} {A : Nat → Nat → Int32} (h : FE f (f_bdX r k)) (e : FE r (y, I, A)) : FE f (k y I A) := by
  have e2 : r = (y, I, A) := e
  subst e2; exact h
theorem FE.bdM {ρ : Type} {f : ρ} {r : Int32 × (Nat → Int32) × (Nat → Nat → Int32) × (Nat → Nat → Int64)} {k : Int32 → (Nat → Int32) → (Nat → Nat → Int32) → (Nat → Nat → Int64) → ρ} {y : Int32} {I : Nat → Int32} {A : Nat → Nat → Int32} {L : Nat → Nat → Int64} (h : FE f (f_bdM r k)) (e : FE r (y, I, A, L)) : FE f (k y I A L) := by
  have e2 : r = (y, I, A, L) := e
  subst e2; exact h
theorem fe_s {α : Type} {a b : α} (h : FE a b) : b = a := Eq.symm h
theorem fe_ne {a b c : Int32} (h : FE a b) (hb : ¬ b = c) : ¬ a = c := fun e => hb (Eq.trans (Eq.symm (show a = b from h)) e)
theorem fe_1 {a : Int32 × Nat} {b : Int32} {n : Nat} (h : FE a (b, n)) : b = a.1 := by have e : a = (b, n) := h; rw [e]
theorem fe_2 {a : Int32 × Nat} {b : Int32} {n : Nat} (h : FE a (b, n)) : a.2 = n := by have e : a = (b, n) := h; rw [e]
theorem fe_ne2 {a : Int32 × Nat} {b : Int32} {n m : Nat} (h : FE a (b, n)) (hb : ¬ n = m) : ¬ a.2 = m := fun e => hb ((fe_2 h).symm.trans e)
def dfX : Int32 × (Nat → Int32) × (Nat → Nat → Int32) := (0, fun _ => 0, fun _ _ => 0)
def dfM : Int32 × (Nat → Int32) × (Nat → Nat → Int32) × (Nat → Nat → Int64) := (0, fun _ => 0, fun _ _ => 0, fun _ _ => 0)
section GS2
variable {κ : Cx} {l0 : Launch} {D0 : va_G} {zt : Nat × Nat × Nat × (Nat → Nat) × (Nat → Nat)} {cc : ByteArray} {nL : Nat} {own : String} {Ts : List Cond} {tys : Tys} {rm : Room} {n1 n2 : Nat} {ws : va_W} {pc : Nat} {lv : List (Nat × Value)} {st : List Value}
theorem g_strB2 (hk : GC κ l0 D0 zt cc nL own Ts tys rm) (i : Nat) (hi : i < 13) {k : Int32} (hin : vp_in k (lenS.getD i 0)) (hd : decode cc pc = .ok (.baload, 1)) (kk : GW κ nL n1 n2 ws (pc + 1) lv (.int ((bytS.getD i []).getD k.toNatClampNeg 0) :: st)) : GW κ nL n1 n2 ws pc lv (.int k :: .ref (zt.2.2.2.2 i) :: st) := by
  obtain ⟨p, l, e, R, s, m, args, below, meth, c, D, A, Q⟩ := κ
  obtain ⟨hx, hb, hml, hown, hts, hK, hA, rfl, hz⟩ := hk
  exact fun H locs ls hP hD hS hl => va_tb hx hb (hz.1.1.2.2.1.1 i hi).2.2.2 hS hin rfl hd (kk H locs ls hP hD hS hl)
end GS2
def itr_IAL {ρ : Type} (d : ρ) (b : ((Nat → Int32) → (Nat → Nat → Int32) → (Nat → Nat → Int64) → ρ) → (Nat → Int32) → (Nat → Nat → Int32) → (Nat → Nat → Int64) → ρ) : Nat → (Nat → Int32) → (Nat → Nat → Int32) → (Nat → Nat → Int64) → ρ
  | 0 => fun _ _ _ => d
  | n + 1 => b (itr_IAL d b n)
theorem FE.itr_IAL {ρ : Type} {d f : ρ} {b : ((Nat → Int32) → (Nat → Nat → Int32) → (Nat → Nat → Int64) → ρ) → (Nat → Int32) → (Nat → Nat → Int32) → (Nat → Nat → Int64) → ρ} {n : Nat} {a0 : (Nat → Int32)} {a1 : (Nat → Nat → Int32)} {a2 : (Nat → Nat → Int64)} (h : FE f (itr_IAL d b (n + 1) a0 a1 a2)) : FE f (b (itr_IAL d b n) a0 a1 a2) := h
def itr_i {ρ : Type} (d : ρ) (b : (Int32 → ρ) → Int32 → ρ) : Nat → Int32 → ρ
  | 0 => fun _ => d
  | n + 1 => b (itr_i d b n)
theorem FE.itr_i {ρ : Type} {d f : ρ} {b : (Int32 → ρ) → Int32 → ρ} {n : Nat} {a0 : Int32} (h : FE f (itr_i d b (n + 1) a0)) : FE f (b (itr_i d b n) a0) := h
def itr_iIA {ρ : Type} (d : ρ) (b : (Int32 → (Nat → Int32) → (Nat → Nat → Int32) → ρ) → Int32 → (Nat → Int32) → (Nat → Nat → Int32) → ρ) : Nat → Int32 → (Nat → Int32) → (Nat → Nat → Int32) → ρ
  | 0 => fun _ _ _ => d
  | n + 1 => b (itr_iIA d b n)
theorem FE.itr_iIA {ρ : Type} {d f : ρ} {b : (Int32 → (Nat → Int32) → (Nat → Nat → Int32) → ρ) → Int32 → (Nat → Int32) → (Nat → Nat → Int32) → ρ} {n : Nat} {a0 : Int32} {a1 : (Nat → Int32)} {a2 : (Nat → Nat → Int32)} (h : FE f (itr_iIA d b (n + 1) a0 a1 a2)) : FE f (b (itr_iIA d b n) a0 a1 a2) := h
def itr_iIAL {ρ : Type} (d : ρ) (b : (Int32 → (Nat → Int32) → (Nat → Nat → Int32) → (Nat → Nat → Int64) → ρ) → Int32 → (Nat → Int32) → (Nat → Nat → Int32) → (Nat → Nat → Int64) → ρ) : Nat → Int32 → (Nat → Int32) → (Nat → Nat → Int32) → (Nat → Nat → Int64) → ρ
  | 0 => fun _ _ _ _ => d
  | n + 1 => b (itr_iIAL d b n)
theorem FE.itr_iIAL {ρ : Type} {d f : ρ} {b : (Int32 → (Nat → Int32) → (Nat → Nat → Int32) → (Nat → Nat → Int64) → ρ) → Int32 → (Nat → Int32) → (Nat → Nat → Int32) → (Nat → Nat → Int64) → ρ} {n : Nat} {a0 : Int32} {a1 : (Nat → Int32)} {a2 : (Nat → Nat → Int32)} {a3 : (Nat → Nat → Int64)} (h : FE f (itr_iIAL d b (n + 1) a0 a1 a2 a3)) : FE f (b (itr_iIAL d b n) a0 a1 a2 a3) := h
def itr_ii {ρ : Type} (d : ρ) (b : (Int32 → Int32 → ρ) → Int32 → Int32 → ρ) : Nat → Int32 → Int32 → ρ
  | 0 => fun _ _ => d
  | n + 1 => b (itr_ii d b n)
theorem FE.itr_ii {ρ : Type} {d f : ρ} {b : (Int32 → Int32 → ρ) → Int32 → Int32 → ρ} {n : Nat} {a0 : Int32} {a1 : Int32} (h : FE f (itr_ii d b (n + 1) a0 a1)) : FE f (b (itr_ii d b n) a0 a1) := h
def itr_iiIA {ρ : Type} (d : ρ) (b : (Int32 → Int32 → (Nat → Int32) → (Nat → Nat → Int32) → ρ) → Int32 → Int32 → (Nat → Int32) → (Nat → Nat → Int32) → ρ) : Nat → Int32 → Int32 → (Nat → Int32) → (Nat → Nat → Int32) → ρ
  | 0 => fun _ _ _ _ => d
  | n + 1 => b (itr_iiIA d b n)
theorem FE.itr_iiIA {ρ : Type} {d f : ρ} {b : (Int32 → Int32 → (Nat → Int32) → (Nat → Nat → Int32) → ρ) → Int32 → Int32 → (Nat → Int32) → (Nat → Nat → Int32) → ρ} {n : Nat} {a0 : Int32} {a1 : Int32} {a2 : (Nat → Int32)} {a3 : (Nat → Nat → Int32)} (h : FE f (itr_iiIA d b (n + 1) a0 a1 a2 a3)) : FE f (b (itr_iiIA d b n) a0 a1 a2 a3) := h
def itr_iiIAL {ρ : Type} (d : ρ) (b : (Int32 → Int32 → (Nat → Int32) → (Nat → Nat → Int32) → (Nat → Nat → Int64) → ρ) → Int32 → Int32 → (Nat → Int32) → (Nat → Nat → Int32) → (Nat → Nat → Int64) → ρ) : Nat → Int32 → Int32 → (Nat → Int32) → (Nat → Nat → Int32) → (Nat → Nat → Int64) → ρ
  | 0 => fun _ _ _ _ _ => d
  | n + 1 => b (itr_iiIAL d b n)
theorem FE.itr_iiIAL {ρ : Type} {d f : ρ} {b : (Int32 → Int32 → (Nat → Int32) → (Nat → Nat → Int32) → (Nat → Nat → Int64) → ρ) → Int32 → Int32 → (Nat → Int32) → (Nat → Nat → Int32) → (Nat → Nat → Int64) → ρ} {n : Nat} {a0 : Int32} {a1 : Int32} {a2 : (Nat → Int32)} {a3 : (Nat → Nat → Int32)} {a4 : (Nat → Nat → Int64)} (h : FE f (itr_iiIAL d b (n + 1) a0 a1 a2 a3 a4)) : FE f (b (itr_iiIAL d b n) a0 a1 a2 a3 a4) := h
def itr_iii {ρ : Type} (d : ρ) (b : (Int32 → Int32 → Int32 → ρ) → Int32 → Int32 → Int32 → ρ) : Nat → Int32 → Int32 → Int32 → ρ
  | 0 => fun _ _ _ => d
  | n + 1 => b (itr_iii d b n)
theorem FE.itr_iii {ρ : Type} {d f : ρ} {b : (Int32 → Int32 → Int32 → ρ) → Int32 → Int32 → Int32 → ρ} {n : Nat} {a0 : Int32} {a1 : Int32} {a2 : Int32} (h : FE f (itr_iii d b (n + 1) a0 a1 a2)) : FE f (b (itr_iii d b n) a0 a1 a2) := h
def itr_iiiIA {ρ : Type} (d : ρ) (b : (Int32 → Int32 → Int32 → (Nat → Int32) → (Nat → Nat → Int32) → ρ) → Int32 → Int32 → Int32 → (Nat → Int32) → (Nat → Nat → Int32) → ρ) : Nat → Int32 → Int32 → Int32 → (Nat → Int32) → (Nat → Nat → Int32) → ρ
  | 0 => fun _ _ _ _ _ => d
  | n + 1 => b (itr_iiiIA d b n)
theorem FE.itr_iiiIA {ρ : Type} {d f : ρ} {b : (Int32 → Int32 → Int32 → (Nat → Int32) → (Nat → Nat → Int32) → ρ) → Int32 → Int32 → Int32 → (Nat → Int32) → (Nat → Nat → Int32) → ρ} {n : Nat} {a0 : Int32} {a1 : Int32} {a2 : Int32} {a3 : (Nat → Int32)} {a4 : (Nat → Nat → Int32)} (h : FE f (itr_iiiIA d b (n + 1) a0 a1 a2 a3 a4)) : FE f (b (itr_iiiIA d b n) a0 a1 a2 a3 a4) := h
def itr_iiiIAL {ρ : Type} (d : ρ) (b : (Int32 → Int32 → Int32 → (Nat → Int32) → (Nat → Nat → Int32) → (Nat → Nat → Int64) → ρ) → Int32 → Int32 → Int32 → (Nat → Int32) → (Nat → Nat → Int32) → (Nat → Nat → Int64) → ρ) : Nat → Int32 → Int32 → Int32 → (Nat → Int32) → (Nat → Nat → Int32) → (Nat → Nat → Int64) → ρ
  | 0 => fun _ _ _ _ _ _ => d
  | n + 1 => b (itr_iiiIAL d b n)
theorem FE.itr_iiiIAL {ρ : Type} {d f : ρ} {b : (Int32 → Int32 → Int32 → (Nat → Int32) → (Nat → Nat → Int32) → (Nat → Nat → Int64) → ρ) → Int32 → Int32 → Int32 → (Nat → Int32) → (Nat → Nat → Int32) → (Nat → Nat → Int64) → ρ} {n : Nat} {a0 : Int32} {a1 : Int32} {a2 : Int32} {a3 : (Nat → Int32)} {a4 : (Nat → Nat → Int32)} {a5 : (Nat → Nat → Int64)} (h : FE f (itr_iiiIAL d b (n + 1) a0 a1 a2 a3 a4 a5)) : FE f (b (itr_iiiIAL d b n) a0 a1 a2 a3 a4 a5) := h
def itr_iiii {ρ : Type} (d : ρ) (b : (Int32 → Int32 → Int32 → Int32 → ρ) → Int32 → Int32 → Int32 → Int32 → ρ) : Nat → Int32 → Int32 → Int32 → Int32 → ρ
  | 0 => fun _ _ _ _ => d
  | n + 1 => b (itr_iiii d b n)
theorem FE.itr_iiii {ρ : Type} {d f : ρ} {b : (Int32 → Int32 → Int32 → Int32 → ρ) → Int32 → Int32 → Int32 → Int32 → ρ} {n : Nat} {a0 : Int32} {a1 : Int32} {a2 : Int32} {a3 : Int32} (h : FE f (itr_iiii d b (n + 1) a0 a1 a2 a3)) : FE f (b (itr_iiii d b n) a0 a1 a2 a3) := h
def itr_iiiiIAL {ρ : Type} (d : ρ) (b : (Int32 → Int32 → Int32 → Int32 → (Nat → Int32) → (Nat → Nat → Int32) → (Nat → Nat → Int64) → ρ) → Int32 → Int32 → Int32 → Int32 → (Nat → Int32) → (Nat → Nat → Int32) → (Nat → Nat → Int64) → ρ) : Nat → Int32 → Int32 → Int32 → Int32 → (Nat → Int32) → (Nat → Nat → Int32) → (Nat → Nat → Int64) → ρ
  | 0 => fun _ _ _ _ _ _ _ => d
  | n + 1 => b (itr_iiiiIAL d b n)
theorem FE.itr_iiiiIAL {ρ : Type} {d f : ρ} {b : (Int32 → Int32 → Int32 → Int32 → (Nat → Int32) → (Nat → Nat → Int32) → (Nat → Nat → Int64) → ρ) → Int32 → Int32 → Int32 → Int32 → (Nat → Int32) → (Nat → Nat → Int32) → (Nat → Nat → Int64) → ρ} {n : Nat} {a0 : Int32} {a1 : Int32} {a2 : Int32} {a3 : Int32} {a4 : (Nat → Int32)} {a5 : (Nat → Nat → Int32)} {a6 : (Nat → Nat → Int64)} (h : FE f (itr_iiiiIAL d b (n + 1) a0 a1 a2 a3 a4 a5 a6)) : FE f (b (itr_iiiiIAL d b n) a0 a1 a2 a3 a4 a5 a6) := h
def itr_li {ρ : Type} (d : ρ) (b : (Int64 → Int32 → ρ) → Int64 → Int32 → ρ) : Nat → Int64 → Int32 → ρ
  | 0 => fun _ _ => d
  | n + 1 => b (itr_li d b n)
theorem FE.itr_li {ρ : Type} {d f : ρ} {b : (Int64 → Int32 → ρ) → Int64 → Int32 → ρ} {n : Nat} {a0 : Int64} {a1 : Int32} (h : FE f (itr_li d b (n + 1) a0 a1)) : FE f (b (itr_li d b n) a0 a1) := h
