/-- the reference's kinds -/
def KM (c : Int) (K : Int32) : Prop := (c = 0 → K.toInt = 0) ∧ (c = 2 → K.toInt = 2) ∧ (c = 3 → K.toInt = 4) ∧ (c = 4 → K.toInt = 9) ∧ (c = 5 → K.toInt = 3)
/-- row t of the reference's TOKENS -/
def TM (f : Nat → Int) (n : Nat) (B : Nat → Nat → Int32) (L : Nat → Nat → Int64) (t p s e : Nat) (c : Int) : Prop :=
  Tk f n p c s e ∧ (B 3 t).toInt = (s : Int) ∧ (c = 2 → (B 4 t).toInt = dec f s (e - s)) ∧ (c = 1 → (L 5 t).toInt = enc f s (e - s) ∧ KW L (L 5 t) (B 2 t)) ∧ KM c (B 2 t)
def stB (B : Nat → Nat → Int32) (u : Nat) (K x v : Int32) : Nat → Nat → Int32 := up3 (up3 (up3 B 2 u K) 3 u x) 4 u v
theorem stB_2 {B : Nat → Nat → Int32} {u : Nat} {K x v : Int32} : stB B u K x v 2 u = K := by
  unfold stB
  rw [up3_o (by decide), up3_o (by decide)]
  exact up3_at rfl
theorem stB_3 {B : Nat → Nat → Int32} {u : Nat} {K x v : Int32} : stB B u K x v 3 u = x := by
  unfold stB
  rw [up3_o (by decide)]
  exact up3_at rfl
theorem stB_4 {B : Nat → Nat → Int32} {u : Nat} {K x v : Int32} : stB B u K x v 4 u = v := by
  unfold stB
  exact up3_at rfl
theorem stB_ne {B : Nat → Nat → Int32} {u t : Nat} {K x v : Int32} (h : t ≠ u) : stB B u K x v 2 t = B 2 t ∧ stB B u K x v 3 t = B 3 t ∧ stB B u K x v 4 t = B 4 t := by
  refine ⟨?_, ?_, ?_⟩
  · unfold stB
    rw [up3_o (by decide), up3_o (by decide)]
    exact up3_ne h
  · unfold stB
    rw [up3_o (by decide), up3_ne h, up3_o (by decide)]
  · unfold stB
    rw [up3_ne h, up3_o (by decide), up3_o (by decide)]
theorem stB_md {S : Nat → Nat → Int32} {B : Nat → Nat → Int32} {u : Nat} {K x v : Int32} (h : Md [2, 3, 4] S B) : Md [2, 3, 4] S (stB B u K x v) := Md.up3 (Md.up3 (Md.up3 h rfl) rfl) rfl
theorem m_token {J : Nat → Int32} {B : Nat → Nat → Int32} {L : Nat → Nat → Int64} {K x v : Int32} {nm : Int64} : fM12_token J B L K x v nm = (0, upd J 3 (J 3 + 1), stB B (J 3).toNatClampNeg K x v, up3L L 5 (J 3).toNatClampNeg nm) := rfl
theorem KW_st {L : Nat → Nat → Int64} {u : Nat} {w nm : Int64} {K : Int32} (h : KW L nm K) : KW (up3L L 5 u w) nm K := h
theorem TM_st {f : Nat → Int} {n : Nat} {B : Nat → Nat → Int32} {L : Nat → Nat → Int64} {t p s e u : Nat} {c : Int} {K x v : Int32} {nm : Int64} (h : TM f n B L t p s e c) (hu : t ≠ u) : TM f n (stB B u K x v) (up3L L 5 u nm) t p s e c := by
  obtain ⟨h1, h2, h3, h4, h5⟩ := h
  have g := stB_ne (B := B) (K := K) (x := x) (v := v) hu
  have gl : up3L L 5 u nm 5 t = L 5 t := up3L_ne hu
  refine ⟨h1, by rw [g.2.1]; exact h2, by rw [g.2.2]; exact h3, fun h9 => ?_, by rw [g.1]; exact h5⟩
  rw [gl, g.1]
  exact ⟨(h4 h9).1, KW_st (h4 h9).2⟩
def CUT (f : Nat → Int) (n : Nat) (J : Nat → Int32) (B : Nat → Nat → Int32) (L : Nat → Nat → Int64) (R : Int32 × (Nat → Int32) × (Nat → Nat → Int32) × (Nat → Nat → Int64)) : Prop :=
  ∃ (J2 : Nat → Int32) (B2 : Nat → Nat → Int32) (L2 : Nat → Nat → Int64) (c : Nat) (pos : Nat → Nat), R = (0, J2, B2, L2) ∧ Md [3] J J2 ∧ Md [2, 3, 4] B B2 ∧ Md [5] L L2 ∧ (J2 3).toInt = (c : Int) ∧ c ≤ 401 ∧ pos 0 = 0 ∧ (∀ t, t ≤ c → pos t ≤ n) ∧ (∀ t, t < c → ∃ (s : Nat) (cl : Int), TM f n B2 L2 t (pos t) s (pos (t + 1)) cl) ∧ (c = 401 ∨ ∃ t : Nat, c = t + 1 ∧ (B2 2 t).toInt = 0)
theorem m_cut {J : Nat → Int32} {B : Nat → Nat → Int32} {L : Nat → Nat → Int64} {f : Nat → Int} {n : Nat} (hn : (J 2).toInt = (n : Int)) (hn2 : n ≤ 2000) (hf : ∀ j, j < n → (B 1 j &&& 255).toInt = f j) :
    ∀ (m : Nat) (x : Int32) (J1 : Nat → Int32) (B1 : Nat → Nat → Int32) (L1 : Nat → Nat → Int64) (c p q : Nat) (pos : Nat → Nat), x.toInt = (q : Int) → q ≤ n → (J1 3).toInt = (c : Int) → c ≤ 401 → Md [3] J J1 → Md [2, 3, 4] B B1 → Md [5] L L1 → pos 0 = 0 → pos c = p → (∀ t, t ≤ c → pos t ≤ n) → p ≤ q → (∀ j, p ≤ j → j < q → j < n ∧ isB (f j)) → (∀ t, t < c → ∃ (s : Nat) (cl : Int), TM f n B1 L1 t (pos t) s (pos (t + 1)) cl) → (2001 - q) + (402 - c) < m → CUT f n J B L (itr_iIAL dfM (bM12_cut_7 J) m x J1 B1 L1) := by
  intro m
  induction m with
  | zero => intro x J1 B1 L1 c p q pos _ _ _ _ _ _ _ _ _ _ _ _ _ h; omega
  | succ m ih =>
    intro x J1 B1 L1 c p q pos hx hq hc hc2 hJ hB hL hp0 hpc hpn hpq hbl hT hm
    show CUT f n J B L (bM12_cut_7 J (itr_iIAL dfM (bM12_cut_7 J) m) x J1 B1 L1)
    obtain ⟨G, hG⟩ : ∃ G, G = itr_iIAL dfM (bM12_cut_7 J) m := ⟨_, rfl⟩
    rw [← hG] at ih ⊢
    have hn1 : (J1 2).toInt = (n : Int) := by rw [hJ 2 rfl]; exact hn
    have hf1 : ∀ j, j < n → (B1 1 j &&& 255).toInt = f j := fun j hj => by rw [hB 1 rfl]; exact hf j hj
    have hcn := clN hc
    -- one more TOKEN
    have add : ∀ (K v : Int32) (nm : Int64) (e : Nat) (cl : Int), c ≤ 400 → e ≤ n → Tk f n p cl q e → (cl = 2 → v.toInt = dec f q (e - q)) → (cl = 1 → nm.toInt = enc f q (e - q) ∧ KW L1 nm K) → KM cl K → ∃ pos2 : Nat → Nat, pos2 0 = 0 ∧ pos2 (c + 1) = e ∧ (∀ t, t ≤ c + 1 → pos2 t ≤ n) ∧ (∀ t, t < c + 1 → ∃ (s : Nat) (cl : Int), TM f n (stB B1 c K x v) (up3L L1 5 c nm) t (pos2 t) s (pos2 (t + 1)) cl) := by
      intro K v nm e cl hc4 he hTk h2 h1 hK
      refine ⟨fun t => if t = c + 1 then e else pos t, by show (if 0 = c + 1 then e else pos 0) = 0; rw [if_neg (by omega)]; exact hp0, by show (if c + 1 = c + 1 then e else _) = e; rw [if_pos rfl], fun t ht => ?_, fun t ht => ?_⟩
      · show (if t = c + 1 then e else pos t) ≤ n
        by_cases h9 : t = c + 1
        · rw [if_pos h9]; exact he
        · rw [if_neg h9]; exact hpn t (by omega)
      · show ∃ (s : Nat) (cl : Int), TM f n (stB B1 c K x v) (up3L L1 5 c nm) t (if t = c + 1 then e else pos t) s (if t + 1 = c + 1 then e else pos (t + 1)) cl
        rw [if_neg (by omega)]
        by_cases h9 : t = c
        · rw [if_pos (by omega), h9, hpc]
          refine ⟨q, cl, hTk, by rw [stB_3]; exact hx, by rw [stB_4]; exact h2, fun h8 => ?_, by rw [stB_2]; exact hK⟩
          rw [up3L_at rfl, stB_2]
          exact ⟨(h1 h8).1, KW_st (h1 h8).2⟩
        · rw [if_neg (by omega)]
          obtain ⟨s, cl2, h8⟩ := hT t (by omega)
          exact ⟨s, cl2, TM_st h8 h9⟩
    have hJ3 : c ≤ 400 → (upd J1 3 (J1 3 + 1) 3).toInt = ((c + 1 : Nat) : Int) := fun h9 => by
      rw [show upd J1 3 (J1 3 + 1) 3 = J1 3 + 1 from upd_at (α := Nat), i32_inc (by omega)]; omega
    have go : ∀ (K v : Int32) (nm : Int64) (e : Nat) (y : Int32) (cl : Int), c ≤ 400 → y.toInt = (e : Int) → e ≤ n → q < e → Tk f n p cl q e → (cl = 2 → v.toInt = dec f q (e - q)) → (cl = 1 → nm.toInt = enc f q (e - q) ∧ KW L1 nm K) → KM cl K → CUT f n J B L (f_bdM (fM12_token J1 B1 L1 K x v nm) (fun _ I A L => G y I A L)) := by
      intro K v nm e y cl hc4 hy he hqe hTk h2 h1 hK
      rw [m_token, hcn]
      obtain ⟨pos2, g1, g2, g3, g4⟩ := add K v nm e cl hc4 he hTk h2 h1 hK
      exact ih y (upd J1 3 (J1 3 + 1)) (stB B1 c K x v) (up3L L1 5 c nm) (c + 1) e e pos2 hy he (hJ3 hc4) (by omega) (Md.up hJ rfl) (stB_md hB) (Md.up3L hL rfl) g1 g2 g3 (Nat.le_refl _) (fun j a b => by omega) g4 (by omega)
    have fin : c ≤ 400 → ¬ q < n → CUT f n J B L (f_bdM (fM12_token J1 B1 L1 0 (J 2) 0 0) (fun _ I A L => (0, I, A, L))) := fun hc4 hqn => by
      have e2 : J 2 = x := Int32.toInt_inj.mp (by omega)
      rw [e2, m_token, hcn]
      obtain ⟨pos2, g1, g2, g3, g4⟩ := add 0 0 0 q 0 hc4 hq ⟨⟨hpq, hbl, fun h9 => hqn h9.1⟩, Or.inl ⟨hqn, rfl, rfl⟩⟩ (fun h9 => absurd h9 (by decide)) (fun h9 => absurd h9 (by decide)) ⟨fun _ => rfl, fun h9 => absurd h9 (by decide), fun h9 => absurd h9 (by decide), fun h9 => absurd h9 (by decide), fun h9 => absurd h9 (by decide)⟩
      exact ⟨upd J1 3 (J1 3 + 1), stB B1 c 0 x 0, up3L L1 5 c 0, c + 1, pos2, rfl, Md.up hJ rfl, stB_md hB, Md.up3L hL rfl, hJ3 hc4, by omega, g1, g3, g4, Or.inr ⟨c, rfl, by rw [stB_2]; rfl⟩⟩
    unfold bM12_cut_7
    dsimp only [f_lt]
    by_cases h4 : 400 < (J1 3).toInt
    · rw [if_pos h4]
      exact ⟨J1, B1, L1, c, pos, rfl, hJ, hB, hL, hc, hc2, hp0, hpn, hT, Or.inl (by omega)⟩
    · rw [if_neg h4]
      have hc4 : c ≤ 400 := by omega
      by_cases hqn : q < n
      · rw [m_byte (I := J1) (A := B1) (L := L1) (z := x) (by omega), if_neg (show ¬ ((1 : Nat) = 0) by decide), clN hx, if_pos (show x.toInt < (J 2).toInt by omega)]
        have hb := hf1 q hqn
        dsimp only
        obtain ⟨y, hy⟩ : ∃ y, y = B1 1 q &&& 255 := ⟨_, rfl⟩
        rw [← hy] at hb ⊢
        have hx1 : (x + 1).toInt = ((q + 1 : Nat) : Int) := by rw [i32_inc (by omega)]; omega
        have blank : isB (f q) → CUT f n J B L (G (x + 1) J1 B1 L1) := fun h9 =>
          ih (x + 1) J1 B1 L1 c p (q + 1) pos hx1 (by omega) hc hc2 hJ hB hL hp0 hpc hpn (by omega) (fun j a b => by
            by_cases e : j = q
            · rw [e]; exact ⟨hqn, h9⟩
            · exact hbl j a (by omega)) hT (by omega)
        by_cases b1 : y.toInt = 9
        · rw [if_pos b1]; exact blank (Or.inl (by omega))
        rw [if_neg b1]
        by_cases b2 : y.toInt = 10
        · rw [if_pos b2]; exact blank (Or.inr (Or.inl (by omega)))
        rw [if_neg b2]
        by_cases b3 : y.toInt = 13
        · rw [if_pos b3]; exact blank (Or.inr (Or.inr (Or.inl (by omega))))
        rw [if_neg b3]
        by_cases b4 : y.toInt = 32
        · rw [if_neg (fun h9 => h9 b4)]; exact blank (Or.inr (Or.inr (Or.inr (by omega))))
        rw [if_pos b4]
        have hRn : Rn isB f n p q := ⟨hpq, hbl, fun h9 => by
          rcases h9.2 with h8 | h8 | h8 | h8 <;> omega⟩
        rw [m_isL, m_isD]
        by_cases cL : 97 ≤ y.toInt ∧ y.toInt ≤ 122
        · rw [if_pos cL, if_neg (by decide)]
          obtain ⟨e, w, K, z, h1, h2, h3, h5, h6, h7⟩ := m_letters (J := J1) (B := B1) (L := L1) (f := f) (n := n) (s := q) hn1 hn2 hf1 hx G FU 0 0 0 rfl (by omega) (by have := FU_eq; omega) (fun j a b => by omega) rfl
          rw [h7]
          have h1' : Rn isL f n q e := h1
          have cL2 : isL (f q) := by rw [← hb]; exact cL
          have hqe : q < e := by
            rcases Nat.lt_or_ge q e with h9 | h9
            · exact h9
            · have h8 := h1'.1
              have : e = q := by omega
              rw [this] at h1'
              exact absurd ⟨hqn, cL2⟩ h1'.2.2
          by_cases c8 : 8 < e - q
          · refine go K 0 w e z 5 hc4 h3 (h1'.le hq) hqe ⟨hRn, Or.inr (Or.inl ⟨hqn, cL2, h1', by rw [if_pos c8]⟩)⟩ (fun h9 => absurd h9 (by decide)) (fun h9 => absurd h9 (by decide)) ⟨fun h9 => absurd h9 (by decide), fun h9 => absurd h9 (by decide), fun h9 => absurd h9 (by decide), fun h9 => absurd h9 (by decide), fun _ => h5 c8⟩
          · refine go K 0 w e z 1 hc4 h3 (h1'.le hq) hqe ⟨hRn, Or.inr (Or.inl ⟨hqn, cL2, h1', by rw [if_neg c8]⟩)⟩ (fun h9 => absurd h9 (by decide)) (fun _ => ⟨by rw [h2, show min (e - q) 8 = e - q by omega], h6 c8⟩) ⟨fun h9 => absurd h9 (by decide), fun h9 => absurd h9 (by decide), fun h9 => absurd h9 (by decide), fun h9 => absurd h9 (by decide), fun h9 => absurd h9 (by decide)⟩
        · rw [if_neg cL, if_pos rfl]
          have cL2 : ¬ isL (f q) := by rw [← hb]; exact cL
          by_cases cD : 48 ≤ y.toInt ∧ y.toInt ≤ 57
          · rw [if_pos cD, if_neg (by decide)]
            obtain ⟨e, w, z, h1, h2, h3, h7⟩ := m_digits (J := J1) (B := B1) (L := L1) (f := f) (n := n) (s := q) hn1 hn2 hf1 hx G FU 0 0 0 rfl (by omega) (by have := FU_eq; omega) (fun j a b => by omega) rfl
            rw [h7]
            have h1' : Rn isD f n q e := h1
            have cD2 : isD (f q) := by rw [← hb]; exact cD
            have hqe : q < e := by
              rcases Nat.lt_or_ge q e with h9 | h9
              · exact h9
              · have h8 := h1'.1
                have : e = q := by omega
                rw [this] at h1'
                exact absurd ⟨hqn, cD2⟩ h1'.2.2
            by_cases c8 : 4 < e - q
            · rw [if_pos c8]
              exact go 3 w 0 e z 5 hc4 h3 (h1'.le hq) hqe ⟨hRn, Or.inr (Or.inr (Or.inl ⟨hqn, cD2, h1', by rw [if_pos c8]⟩))⟩ (fun h9 => absurd h9 (by decide)) (fun h9 => absurd h9 (by decide)) ⟨fun h9 => absurd h9 (by decide), fun h9 => absurd h9 (by decide), fun h9 => absurd h9 (by decide), fun h9 => absurd h9 (by decide), fun _ => rfl⟩
            · rw [if_neg c8]
              exact go 2 w 0 e z 2 hc4 h3 (h1'.le hq) hqe ⟨hRn, Or.inr (Or.inr (Or.inl ⟨hqn, cD2, h1', by rw [if_neg c8]⟩))⟩ (fun _ => by rw [h2, show min (e - q) 4 = e - q by omega]) (fun h9 => absurd h9 (by decide)) ⟨fun h9 => absurd h9 (by decide), fun _ => rfl, fun h9 => absurd h9 (by decide), fun h9 => absurd h9 (by decide), fun h9 => absurd h9 (by decide)⟩
          · rw [if_neg cD, if_pos rfl]
            have cD2 : ¬ isD (f q) := by rw [← hb]; exact cD
            have sg : ∀ d : Int32, CUT f n J B L (f_bdM (fM12_sign J1 B1 L1 x y d) (fun y3 I A L => G (x + y3) I A L)) := by
              intro d
              unfold fM12_sign
              by_cases k1 : y.toInt = 59
              · rw [if_neg (fun h9 => h9 k1)]
                exact go 4 0 0 (q + 1) (x + 1) 3 hc4 hx1 (by omega) (by omega) ⟨hRn, Or.inr (Or.inr (Or.inr ⟨hqn, cL2, cD2, rfl, by rw [if_pos (by omega)]⟩))⟩ (fun h9 => absurd h9 (by decide)) (fun h9 => absurd h9 (by decide)) ⟨fun h9 => absurd h9 (by decide), fun h9 => absurd h9 (by decide), fun _ => rfl, fun h9 => absurd h9 (by decide), fun h9 => absurd h9 (by decide)⟩
              · rw [if_pos k1]
                by_cases k2 : y.toInt = 45
                · rw [if_neg (fun h9 => h9 k2)]
                  exact go 9 0 0 (q + 1) (x + 1) 4 hc4 hx1 (by omega) (by omega) ⟨hRn, Or.inr (Or.inr (Or.inr ⟨hqn, cL2, cD2, rfl, by rw [if_neg (by omega), if_pos (by omega)]⟩))⟩ (fun h9 => absurd h9 (by decide)) (fun h9 => absurd h9 (by decide)) ⟨fun h9 => absurd h9 (by decide), fun h9 => absurd h9 (by decide), fun h9 => absurd h9 (by decide), fun _ => rfl, fun h9 => absurd h9 (by decide)⟩
                · rw [if_pos k2]
                  exact go 3 0 0 (q + 1) (x + 1) 5 hc4 hx1 (by omega) (by omega) ⟨hRn, Or.inr (Or.inr (Or.inr ⟨hqn, cL2, cD2, rfl, by rw [if_neg (by omega), if_neg (by omega)]⟩))⟩ (fun h9 => absurd h9 (by decide)) (fun h9 => absurd h9 (by decide)) ⟨fun h9 => absurd h9 (by decide), fun h9 => absurd h9 (by decide), fun h9 => absurd h9 (by decide), fun h9 => absurd h9 (by decide), fun _ => rfl⟩
            by_cases k9 : (fM12_byteAt J1 B1 L1 (x + 1)).2 = 0
            · rw [if_pos k9]; exact sg 0
            · rw [if_neg k9]; exact sg _
      · rw [m_byteE (I := J1) (A := B1) (L := L1) (z := x) (by omega), if_pos rfl, if_neg (show ¬ x.toInt < (J 2).toInt by omega)]
        exact fin hc4 hqn
