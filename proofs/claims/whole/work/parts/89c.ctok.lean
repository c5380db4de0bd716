/-! THE TAPE IN THE CLASS: a token is read -/
def TP (st : zS) (b : Nat → Nat) (n : Nat) : Prop := st 35 0 = Int32.ofNat n ∧ n ≤ 200 ∧ ∀ i, i < n → b i ≤ 255 ∧ (st 36 i).toInt = if b i < 128 then (b i : Int) else (b i : Int) - 256
theorem TP_e {st st' : zS} {b : Nat → Nat} {n : Nat} (h : TP st b n) (f : st' 36 = st 36) (g : st' 35 0 = st 35 0) : TP st' b n := by
  unfold TP
  rw [f, g]; exact h
theorem TP_up {st : zS} {b : Nat → Nat} {n : Nat} (h : TP st b n) {i j : Nat} {v : Int32} (hi : i ≠ 36) (hj : i ≠ 35 ∨ j ≠ 0) : TP (m_up st i j v) b n := by
  refine TP_e h (up_ne (fun z => hi z.symm)) ?_
  rcases hj with q | q
  · rw [up_ne (fun z => q z.symm)]
  · by_cases z : i = 35
    · subst z; exact up_nj (fun z => q z.symm)
    · rw [up_ne (fun y => z y.symm)]
theorem tp_e {st : zS} {b : Nat → Nat} {n i : Nat} (h : TP st b n) (hi : i < n) {c : Nat} (hc : c < 128) : st 36 i = Int32.ofNat c ↔ b i = c := by
  obtain ⟨h3, h4⟩ := h.2.2 i hi
  rw [← Int32.toInt_inj, n_int (by omega), h4]
  split <;> omega
theorem up_same {st : zS} {i j : Nat} {v : Int32} (h : st i j = v) : m_up st i j v = st := by
  funext x y
  unfold m_up
  split
  · rename_i e; subst e
    split
    · rename_i e; subst e; exact h.symm
    · rfl
  · rfl
theorem up_up (st : zS) (i j : Nat) (v w : Int32) : m_up (m_up st i j v) i j w = m_up st i j w := by
  funext x y
  unfold m_up
  split
  · split <;> rfl
  · rfl
theorem x_isL (d : Nat) {st : zS} {b : Nat → Nat} {n i : Nat} (h : TP st b n) (hi : i < n) : m_evc (d + 1) 39 [.ref 35, .int (Int32.ofNat i)] (SH, st) = some (some (.int (bZ (Lz b n i = true))), (SH, st)) := by
  obtain ⟨h3, h4⟩ := h.2.2 i hi
  have h2 := h.2.1
  have e1 : (97 : Int32).toInt = 97 := rfl
  have e2 : (122 : Int32).toInt = 122 := rfl
  rw [cal_X6_isLetter, eX6_isLetter_0, ix_200 (by omega), ob_s]
  by_cases q : st 36 i < 97
  · rw [if_pos q, eX6_isLetter_26, eX6_isLetter_27, if_pos (Or.inl rfl), bZ_f]
    intro z
    have := Lz_i.mp z
    rw [i_lt, h4, e1] at q
    split at q <;> omega
  · rw [if_neg q, ob_s]
    by_cases q2 : 122 < st 36 i
    · rw [if_pos q2, eX6_isLetter_26, eX6_isLetter_27, if_pos (Or.inl rfl), bZ_f]
      intro z
      have := Lz_i.mp z
      rw [i_lt, h4, e2] at q2
      split at q2 <;> omega
    · rw [if_neg q2, eX6_isLetter_27, if_pos (Or.inr rfl), bZ_t]
      rw [i_lt, h4, e1] at q
      rw [i_lt, h4, e2] at q2
      refine Lz_i.mpr ⟨hi, ?_⟩
      split at q <;> omega
theorem x_isD (d : Nat) {st : zS} {b : Nat → Nat} {n i : Nat} (h : TP st b n) (hi : i < n) : m_evc (d + 1) 40 [.ref 35, .int (Int32.ofNat i)] (SH, st) = some (some (.int (bZ (Dz b n i = true))), (SH, st)) := by
  obtain ⟨h3, h4⟩ := h.2.2 i hi
  have h2 := h.2.1
  have e1 : (48 : Int32).toInt = 48 := rfl
  have e2 : (57 : Int32).toInt = 57 := rfl
  rw [cal_X6_isDigit, eX6_isDigit_0, ix_200 (by omega), ob_s]
  by_cases q : st 36 i < 48
  · rw [if_pos q, eX6_isDigit_26, eX6_isDigit_27, if_pos (Or.inl rfl), bZ_f]
    intro z
    have := Dz_i.mp z
    rw [i_lt, h4, e1] at q
    split at q <;> omega
  · rw [if_neg q, ob_s]
    by_cases q2 : 57 < st 36 i
    · rw [if_pos q2, eX6_isDigit_26, eX6_isDigit_27, if_pos (Or.inl rfl), bZ_f]
      intro z
      have := Dz_i.mp z
      rw [i_lt, h4, e2] at q2
      split at q2 <;> omega
    · rw [if_neg q2, eX6_isDigit_27, if_pos (Or.inr rfl), bZ_t]
      rw [i_lt, h4, e1] at q
      rw [i_lt, h4, e2] at q2
      refine Dz_i.mpr ⟨hi, ?_⟩
      split at q <;> omega
theorem Bz_n {b : Nat → Nat} {n : Nat} : Bz b n n = false := by
  cases q : Bz b n n with
  | false => rfl
  | true => have := (Bz_i.mp q).1; omega
theorem Lz_n {b : Nat → Nat} {n : Nat} : Lz b n n = false := by
  cases q : Lz b n n with
  | false => rfl
  | true => have := (Lz_i.mp q).1; omega
theorem Dz_n {b : Nat → Nat} {n : Nat} : Dz b n n = false := by
  cases q : Dz b n n with
  | false => rfl
  | true => have := (Dz_i.mp q).1; omega
theorem bo_f {p : Bool} (h : ¬ p = true) : p = false := by cases p <;> simp_all
theorem x_blanks (d : Nat) {b : Nat → Nat} {n : Nat} : ∀ k p (st : zS), p + k = n → TP st b n → st 35 5 = Int32.ofNat p → m_ev none d 37 0 [some (.ref 35)] [] (SH, st) = m_ev none d 37 38 [some (.ref 35)] [] (SH, m_up st 35 5 (Int32.ofNat (fz b n p)))
  | 0, p, st, e, h, h5 => by
    have e : p = n := e
    subst e
    have h2 := h.2.1
    rw [eX6_readToken_0, h5, h.1, if_neg (by rw [n_lt (by omega) (by omega)]; omega)]
    unfold fz
    rw [rz_f Bz_n, up_same h5]
  | k + 1, p, st, e, h, h5 => by
    have h2 := h.2.1
    have hp : p < n := by omega
    rw [eX6_readToken_0, h5, h.1, if_pos (by rw [n_lt (by omega) (by omega)]; exact hp), ix_200 (by omega), ob_s]
    have q32 : (st 36 p = 32) ↔ b p = 32 := tp_e h hp (c := 32) (by omega)
    by_cases q : b p = 32
    · rw [if_pos (q32.mpr q), n_succ, x_blanks d k (p + 1) _ (by omega) (TP_up h (by decide) (Or.inr (by decide))) (up_in _ _ _ _), up_up]
      have : fz b n p = fz b n (p + 1) := by unfold fz; exact rz_t (Bz_i.mpr ⟨hp, q⟩) (by omega)
      rw [this]
    · rw [if_neg (fun z => q (q32.mp z))]
      have : fz b n p = p := by unfold fz; exact rz_f (bo_f (fun z => q (Bz_i.mp z).2))
      rw [this, up_same h5]
theorem x_lets (d : Nat) {b : Nat → Nat} {n : Nat} : ∀ k p (st : zS), p + k = n → TP st b n → st 35 5 = Int32.ofNat p → m_ev none (d + 1) 37 81 [some (.ref 35)] [] (SH, st) = m_ev none (d + 1) 37 162 [some (.ref 35)] [] (SH, m_up st 35 5 (Int32.ofNat (rz (Lz b n) p)))
  | 0, p, st, e, h, h5 => by
    have e : p = n := e
    subst e
    have h2 := h.2.1
    rw [eX6_readToken_81, h5, h.1, if_neg (by rw [n_lt (by omega) (by omega)]; omega), rz_f Lz_n, up_same h5]
  | k + 1, p, st, e, h, h5 => by
    have h2 := h.2.1
    have hp : p < n := by omega
    rw [eX6_readToken_81, h5, h.1, if_pos (by rw [n_lt (by omega) (by omega)]; exact hp), x_isL d h hp]
    simp only [m_bd, Option.toList, List.cons_append, List.nil_append]
    rw [eX6_readToken_100, bZ_if]
    by_cases q : Lz b n p = true
    · rw [if_pos q, h5, n_succ, x_lets d k (p + 1) _ (by omega) (TP_up h (by decide) (Or.inr (by decide))) (up_in _ _ _ _), up_up, rz_t q (by omega)]
    · rw [if_neg q, rz_f (bo_f q), up_same h5]
theorem n_dig {v c : Nat} {x : Int32} (hx : x.toInt = (c : Int)) (hc : 48 ≤ c) : Int32.ofNat v * 10 + x - 48 = Int32.ofNat (10 * v + (c - 48)) := by
  have ex : x = Int32.ofNat c := by
    have h0 : (0 : Int32) ≤ x := by rw [i_le, hx]; show (0 : Int) ≤ _; omega
    obtain ⟨a, _, e⟩ := n_of h0
    rw [a]; congr 1; omega
  rw [ex, show (10 : Int32) = Int32.ofNat 10 from rfl, show (48 : Int32) = Int32.ofNat 48 from rfl, n_mul, n_add, n_sub (by omega)]
  congr 1; omega
theorem x_digs (d : Nat) {b : Nat → Nat} {n a : Nat} : ∀ k p (st : zS), p + k = n → a ≤ p → TP st b n → st 35 5 = Int32.ofNat p → st 35 4 = Int32.ofNat a → st 35 6 = Int32.ofNat (dv b a (min (p - a) 4)) → ∃ st', m_ev none (d + 1) 38 5 [some (.ref 35)] [] (SH, st) = m_ev none (d + 1) 38 77 [some (.ref 35)] [] (SH, st') ∧ fr [35] st st' ∧ (∀ j, j ≠ 5 → j ≠ 6 → st' 35 j = st 35 j) ∧ st' 35 5 = Int32.ofNat (rz (Dz b n) p) ∧ st' 35 6 = Int32.ofNat (dv b a (min (rz (Dz b n) p - a) 4))
  | 0, p, st, e, ha, h, h5, h4, h6 => by
    have e : p = n := e
    subst e
    have h2 := h.2.1
    refine ⟨st, ?_, fr_refl _ _, fun _ _ _ => rfl, ?_, ?_⟩
    · rw [eX6_readNumber_5, h5, h.1, if_neg (by rw [n_lt (by omega) (by omega)]; omega)]
    · rw [rz_f Dz_n]; exact h5
    · rw [rz_f Dz_n]; exact h6
  | k + 1, p, st, e, ha, h, h5, h4, h6 => by
    have h2 := h.2.1
    have hp : p < n := by omega
    rw [eX6_readNumber_5, h5, h.1, if_pos (by rw [n_lt (by omega) (by omega)]; exact hp), x_isD d h hp]
    simp only [m_bd, Option.toList, List.cons_append, List.nil_append]
    rw [eX6_readNumber_24, bZ_if]
    by_cases q : Dz b n p = true
    · rw [if_pos q, h5, h4, n_sub ha, rz_t q (by omega)]
      obtain ⟨q0, q1, q2⟩ := Dz_i.mp q
      by_cases z : p - a < 4
      · rw [if_pos (by rw [show (4 : Int32) = Int32.ofNat 4 from rfl, n_lt (by omega) (by omega)]; exact z), ix_200 (by omega), ob_s, eX6_readNumber_64, up_nj (by decide), h5, n_succ]
        obtain ⟨st', e1, f1, g1, g2, g3⟩ := x_digs d (b := b) (n := n) (a := a) k (p + 1) (m_up (m_up st 35 6 (st 35 6 * 10 + st 36 p - 48)) 35 5 (Int32.ofNat (p + 1))) (by omega) (by omega) (TP_up (TP_up h (by decide) (Or.inr (by decide))) (by decide) (Or.inr (by decide))) (up_in _ _ _ _) (by rw [up_nj (by decide), up_nj (by decide)]; exact h4) (by
          rw [up_nj (by decide), up_in, h6]
          have hx : (st 36 p).toInt = (b p : Int) := by
            rw [(h.2.2 p hp).2, if_pos (by omega)]
          rw [n_dig hx (by omega), show min (p - a) 4 = p - a by omega, show min (p + 1 - a) 4 = (p - a) + 1 by omega]
          show _ = Int32.ofNat (10 * dv b a (p - a) + (b (a + (p - a)) - 48))
          rw [show a + (p - a) = p by omega])
        refine ⟨st', e1, fr_mono (fr_tr (fr_up (fr_up (fr_refl [35] st) rfl) rfl) f1) (by decide), fun j j1 j2 => ?_, g2, g3⟩
        rw [g1 j j1 j2, up_nj j1, up_nj j2]
      · rw [if_neg (by rw [show (4 : Int32) = Int32.ofNat 4 from rfl, n_lt (by omega) (by omega)]; exact z), eX6_readNumber_64, h5, n_succ]
        obtain ⟨st', e1, f1, g1, g2, g3⟩ := x_digs d (b := b) (n := n) (a := a) k (p + 1) (m_up st 35 5 (Int32.ofNat (p + 1))) (by omega) (by omega) (TP_up h (by decide) (Or.inr (by decide))) (up_in _ _ _ _) (by rw [up_nj (by decide)]; exact h4) (by
          rw [up_nj (by decide), h6, show min (p - a) 4 = min (p + 1 - a) 4 by omega])
        refine ⟨st', e1, fr_mono (fr_tr (fr_up (fr_refl [35] st) rfl) f1) (by decide), fun j j1 j2 => ?_, g2, g3⟩
        rw [g1 j j1 j2, up_nj j1]
    · refine ⟨st, ?_, fr_refl _ _, fun _ _ _ => rfl, ?_, ?_⟩
      · rw [if_neg q]
      · rw [rz_f (bo_f q)]; exact h5
      · rw [rz_f (bo_f q)]; exact h6
/-- a token has been read -/
def TQ (st : zS) (b : Nat → Nat) (n a : Nat) : Prop := TP st b n ∧ a ≤ n ∧ st 35 4 = Int32.ofNat a ∧ st 35 5 = Int32.ofNat (ez b n a) ∧ st 35 3 = Int32.ofNat (tk b n a).1 ∧ ((tk b n a).1 = 1 → st 35 6 = Int32.ofNat (tk b n a).2) ∧ ((tk b n a).1 = 2 → ∀ c, c < 128 → (st 35 6 = Int32.ofNat c ↔ (tk b n a).2 = c))
theorem x_tok (d : Nat) {st : zS} {b : Nat → Nat} {n p : Nat} (h : TP st b n) (hp : p ≤ n) (h5 : st 35 5 = Int32.ofNat p) : RT (m_evc (d + 4) 37 [.ref 35] (SH, st)) none (fun st' => fr [35] st st' ∧ (∀ j, j ≠ 3 → j ≠ 4 → j ≠ 5 → j ≠ 6 → st' 35 j = st 35 j) ∧ TQ st' b n (fz b n p)) := by
  have h2 := h.2.1
  have ha := fz_le (b := b) hp
  rw [cal_X6_readToken, x_blanks (d + 3) (n - p) p st (by omega) h h5]
  generalize fz b n p = a at ha ⊢
  have h1 : TP (m_up st 35 5 (Int32.ofNat a)) b n := TP_up h (by decide) (Or.inr (by decide))
  have h3 : TP (m_up (m_up st 35 5 (Int32.ofNat a)) 35 4 (Int32.ofNat a)) b n := TP_up h1 (by decide) (Or.inr (by decide))
  rw [eX6_readToken_38, up_in, up_nj (by decide), h.1]
  by_cases q : a < n
  · rw [if_pos (by rw [n_lt (by omega) (by omega)]; exact q), eX6_readToken_65, up_nj (by decide), up_in, x_isL (d + 2) h3 q]
    simp only [m_bd, Option.toList, List.cons_append, List.nil_append]
    rw [eX6_readToken_73, bZ_if]
    by_cases qL : Lz b n a = true
    · have ee : ez b n a = rz (Lz b n) a := by unfold ez; rw [if_pos qL]
      have et : tk b n a = (0, wv b a (ez b n a - a)) := by unfold tk; rw [if_pos qL]
      have h4 : TP (m_up (m_up (m_up st 35 5 (Int32.ofNat a)) 35 4 (Int32.ofNat a)) 35 3 0) b n := TP_up h3 (by decide) (Or.inr (by decide))
      rw [if_pos qL, x_lets (d + 2) (n - a) a _ (by omega) h4 (by rw [up_nj (by decide), up_nj (by decide), up_in]), eX6_readToken_162]
      refine ⟨_, rfl, fr_up (fr_up (fr_up (fr_up (fr_refl _ _) rfl) rfl) rfl) rfl, fun j j3 j4 j5 j6 => ?_, TP_up h4 (by decide) (Or.inr (by decide)), ha, ?_, ?_, ?_, ?_, ?_⟩
      · rw [up_nj j5, up_nj j3, up_nj j4, up_nj j5]
      · rw [up_nj (by decide), up_nj (by decide), up_in]
      · rw [up_in, ee]
      · rw [up_nj (by decide), up_in, et]; rfl
      · rw [et]; intro z; cases z
      · rw [et]; intro z; cases z
    · rw [if_neg qL, eX6_readToken_116, up_nj (by decide), up_in, x_isD (d + 2) h3 q]
      simp only [m_bd, Option.toList, List.cons_append, List.nil_append]
      rw [eX6_readToken_124, bZ_if]
      by_cases qD : Dz b n a = true
      · have ee : ez b n a = rz (Dz b n) a := by unfold ez; rw [if_neg qL, if_pos qD]
        have et : tk b n a = if ez b n a - a ≤ 4 then (1, dv b a (ez b n a - a)) else (3, 0) := by unfold tk; rw [if_neg qL, if_pos qD]
        have h4 : TP (m_up (m_up (m_up st 35 5 (Int32.ofNat a)) 35 4 (Int32.ofNat a)) 35 6 0) b n := TP_up h3 (by decide) (Or.inr (by decide))
        obtain ⟨s2, e1, f1, g1, g2, g3⟩ := x_digs (d + 1) (b := b) (n := n) (a := a) (n - a) a _ (by omega) (Nat.le_refl a) h4 (by rw [up_nj (by decide), up_nj (by decide), up_in]) (by rw [up_nj (by decide), up_in]) (by rw [up_in, show min (a - a) 4 = 0 by omega]; rfl)
        rw [if_pos qD, cal_X6_readNumber, eX6_readNumber_0, e1, eX6_readNumber_77, g2, g1 4 (by decide) (by decide), up_nj (by decide), up_in, ← ee, n_sub ez_ge]
        rw [← ee] at g2 g3
        have le := ez_le (b := b) ha
        have fr0 : fr [35] st s2 := fr_mono (fr_tr (fr_up (fr_up (fr_up (fr_refl [35] st) rfl) rfl) rfl) f1) (by decide)
        have T0 : TP s2 b n := TP_e h (fr0 36 rfl) (by rw [g1 0 (by decide) (by decide), up_nj (by decide), up_nj (by decide), up_nj (by decide)])
        have k0 : ∀ j, j ≠ 3 → j ≠ 4 → j ≠ 5 → j ≠ 6 → s2 35 j = st 35 j := fun j j3 j4 j5 j6 => by rw [g1 j j5 j6, up_nj j6, up_nj j4, up_nj j5]
        have k4 : s2 35 4 = Int32.ofNat a := by rw [g1 4 (by decide) (by decide), up_nj (by decide), up_in]
        by_cases z : ez b n a - a ≤ 4
        · rw [if_pos z] at et
          rw [if_neg (by rw [show (4 : Int32) = Int32.ofNat 4 from rfl, n_lt (by omega) (by omega)]; omega), eX6_readNumber_95, eX6_readNumber_96]
          simp only [m_bd, Option.toList, List.cons_append, List.nil_append]
          rw [eX6_readToken_131, eX6_readToken_162]
          refine ⟨_, rfl, fr_up fr0 rfl, fun j j3 j4 j5 j6 => ?_, TP_up T0 (by decide) (Or.inr (by decide)), ha, ?_, ?_, ?_, ?_, ?_⟩
          · rw [up_nj j3]; exact k0 j j3 j4 j5 j6
          · rw [up_nj (by decide)]; exact k4
          · rw [up_nj (by decide)]; exact g2
          · rw [up_in, et]; rfl
          · rw [et, up_nj (by decide), g3, show min (ez b n a - a) 4 = ez b n a - a by omega]; intro _; rfl
          · rw [et]; intro z; cases z
        · rw [if_neg z] at et
          rw [if_pos (by rw [show (4 : Int32) = Int32.ofNat 4 from rfl, n_lt (by omega) (by omega)]; omega), eX6_readNumber_96]
          simp only [m_bd, Option.toList, List.cons_append, List.nil_append]
          rw [eX6_readToken_131, eX6_readToken_162]
          refine ⟨_, rfl, fr_up fr0 rfl, fun j j3 j4 j5 j6 => ?_, TP_up T0 (by decide) (Or.inr (by decide)), ha, ?_, ?_, ?_, ?_, ?_⟩
          · rw [up_nj j3]; exact k0 j j3 j4 j5 j6
          · rw [up_nj (by decide)]; exact k4
          · rw [up_nj (by decide)]; exact g2
          · rw [up_in, et]; rfl
          · rw [et]; intro z; cases z
          · rw [et]; intro z; cases z
      · have ee : ez b n a = a + 1 := by unfold ez; rw [if_neg qL, if_neg qD, if_pos q]
        have et : tk b n a = (2, b a) := by unfold tk; rw [if_neg qL, if_neg qD, if_pos q]
        rw [if_neg qD, eX6_readToken_134, up_nj (by decide), up_in, ix_200 (by omega), ob_s, eX6_readToken_162]
        refine ⟨_, rfl, fr_up (fr_up (fr_up (fr_up (fr_up (fr_refl _ _) rfl) rfl) rfl) rfl) rfl, fun j j3 j4 j5 j6 => ?_, TP_up (TP_up (TP_up h3 (by decide) (Or.inr (by decide))) (by decide) (Or.inr (by decide))) (by decide) (Or.inr (by decide)), ha, ?_, ?_, ?_, ?_, ?_⟩
        · rw [up_nj j5, up_nj j6, up_nj j3, up_nj j4, up_nj j5]
        · rw [up_nj (by decide), up_nj (by decide), up_nj (by decide), up_in]
        · rw [up_in, ee, n_succ]
        · rw [up_nj (by decide), up_nj (by decide), up_in, et]; rfl
        · rw [et]; intro z; cases z
        · rw [et]
          intro _ c hc
          rw [up_nj (by decide), up_in]
          exact tp_e h q hc
  · have ea : a = n := by omega
    subst ea
    have ee : ez b a a = a := by unfold ez; rw [if_neg (by rw [Lz_n]; decide), if_neg (by rw [Dz_n]; decide), if_neg q]
    have et : tk b a a = (4, 0) := by unfold tk; rw [if_neg (by rw [Lz_n]; decide), if_neg (by rw [Dz_n]; decide), if_neg q]
    rw [if_neg (by rw [n_lt (by omega) (by omega)]; exact q), eX6_readToken_162]
    refine ⟨_, rfl, fr_up (fr_up (fr_up (fr_refl _ _) rfl) rfl) rfl, fun j j3 j4 j5 j6 => ?_, TP_up h3 (by decide) (Or.inr (by decide)), ha, ?_, ?_, ?_, ?_, ?_⟩
    · rw [up_nj j3, up_nj j4, up_nj j5]
    · rw [up_nj (by decide), up_in]
    · rw [up_nj (by decide), up_nj (by decide), up_in, ee]
    · rw [up_in, et]; rfl
    · rw [et]; intro z; cases z
    · rw [et]; intro z; cases z
