/-! THE TAPE IN THE MODEL: a rule -/
def SG (A E : List Int32) : Prop := (A = [] ∧ E = []) ∨ den 9 A E
def fRl (st st' : zS) : Prop := fr [85, 86] st st' ∧ (∀ j, j ≠ 18 → j ≠ 19 → j ≠ 20 → j ≠ 22 → j ≠ 23 → st' 85 j = st 85 j) ∧ ∀ j, j ≠ 4 → (j < 78 ∨ 310 ≤ j) → st' 86 j = st 86 j
theorem fRl_C {a b : zS} (h : fC a b) : fRl a b := ⟨h.1, h.2.1, fun j _ hj => h.2.2 j (by omega)⟩
theorem fRl_t {a b c : zS} (h : fRl a b) (g : fRl b c) : fRl a c := ⟨fr_mono (fr_tr h.1 g.1) (by decide), fun j h1 h2 h3 h4 h5 => (g.2.1 j h1 h2 h3 h4 h5).trans (h.2.1 j h1 h2 h3 h4 h5), fun j h4 hj => (g.2.2 j h4 hj).trans (h.2.2 j h4 hj)⟩
theorem fC_20 (st : zS) (v : Int32) : fC st (m_up st 85 20 v) := ⟨fr_mono (fr_up0 st 85 20 v) (by decide), fun j _ _ h _ _ => up_nj h, fun j _ => by rw [up_ne (by decide)]⟩
theorem WR_20 {st : zS} {b : Nat → Nat} {n a : Nat} (h : WR st b n a) (v : Int32) : WR (m_up st 85 20 v) b n a := WR_e h (up_ne (by decide)) fun j hj => up_nj (by omega)
theorem MA_20 {st : zS} {b : Nat → Nat} {n p : Nat} (h : MA st b n p) (v : Int32) : MA (m_up st 85 20 v) b n p := MA_e h (up_ne (by decide)) fun j hj => up_nj (by omega)
theorem MC_20 {st : zS} {M : List Int32} (h : MC st M) (v : Int32) : MC (m_up st 85 20 v) M := by
  unfold MC
  rw [up_nj (by decide), up_ne (by decide)]
  exact h
theorem r_194 (d : Nat) {st : zS} {b : Nat → Nat} {n a : Nat} (h : WR st b n a) (x1 x4 x5 : Int32) (x2 : Int64) : m_ev none d 242 194 [some (.ref 85), some (.int x1), some (.long x2), none, some (.int x4), some (.int x5), none] [] (SH, st) = some (none, (SH, st)) := by
  rw [eX12_rule_194, h.2.2.2.2, if_neg i_10, eX12_rule_269]
theorem r_159 (d : Nat) {st : zS} {b : Nat → Nat} {n a : Nat} (h : WR st b n a) (x1 x4 : Int32) (x2 : Int64) : m_ev none (d + 4) 242 159 [some (.ref 85), some (.int x1), some (.long x2), none, some (.int x4), none, none] [] (SH, st) = some (none, (SH, st)) := by
  rw [eX12_rule_159, h.2.2.2.2, if_neg i_10, eX12_rule_190, eX12_rule_191, m_needW (d + 3) h]
  simp only [m_bd, Option.toList, List.cons_append, List.nil_append]
  rw [r_194 (d + 4) h]
theorem r_119 (d : Nat) {st : zS} {b : Nat → Nat} {n a : Nat} (h : WR st b n a) (x1 x4 : Int32) (hx : x4 < 0) (x2 : Int64) : m_ev none (d + 4) 242 119 [some (.ref 85), some (.int x1), some (.long x2), none, some (.int x4), none, none] [] (SH, st) = some (none, (SH, m_up st 85 20 0)) := by
  rw [eX12_rule_119, if_pos hx, r_159 d (WR_20 h 0)]
theorem r_49 (d : Nat) {st : zS} {b : Nat → Nat} {n a : Nat} (h : WR st b n a) (x1 : Int32) : m_ev none (d + 4) 242 49 [some (.ref 85), some (.int x1), none, none, none, none, none] [] (SH, st) = some (none, (SH, m_up st 85 20 0)) := by
  rw [eX12_rule_49, m_wordW (d + 3) h]
  simp only [m_bd, Option.toList, List.cons_append, List.nil_append]
  rw [eX12_rule_53, if_neg (by decide), eX12_rule_66, if_neg (by decide), eX12_rule_78, if_neg (by decide), eX12_rule_90, if_neg (by decide), eX12_rule_102, eX12_rule_103, if_pos (by decide), eX12_rule_115, eX12_rule_116, m_needW (d + 3) h]
  simp only [m_bd, Option.toList, List.cons_append, List.nil_append]
  rw [r_119 d h _ _ (by decide)]
theorem r_29 (d : Nat) {st : zS} {b : Nat → Nat} {n a : Nat} (h : WR st b n a) (x1 : Int32) : m_ev none (d + 4) 242 29 [some (.ref 85), some (.int x1), none, none, none, none, none] [] (SH, st) = some (none, (SH, m_up st 85 20 0)) := by
  rw [eX12_rule_29, m_wordW (d + 3) h]
  simp only [m_bd, Option.toList, List.cons_append, List.nil_append]
  rw [eX12_rule_33, if_neg (by decide), r_49 d h]
def ruleOK (st : zS) (M S : List Int32) (R : List (Int32 × Int32 × Int32 × Nat)) (p : Nat) (y : CS) (p' : Nat) (st' : zS) : Prop := ∃ lf' sg' kd' dd' nm' A E, y = (0, lf', sg', 0, [], S ++ A, R ++ [(kd', dd', nm', (S ++ A).length)], kd', dd', nm') ∧ MC st' (M ++ E) ∧ E.length + p ≤ p' ∧ p < p' ∧ SG A E ∧ R.length < 8 ∧ st' 86 4 = Int32.ofNat (R.length + 1) ∧ st' 86 (78 + 4 * R.length) = kd' ∧ st' 86 (79 + 4 * R.length) = dd' ∧ st' 86 (80 + 4 * R.length) = nm' ∧ st' 86 (81 + 4 * R.length) = Int32.ofNat (M ++ E).length ∧ (∀ j, 78 ≤ j → j < 78 + 4 * R.length → st' 86 j = st 86 j) ∧ 0 ≤ nm'.toInt ∧ nm'.toInt ≤ 99
/-- behind the words of a deed: from the semicolon on -/
theorem m_semi (d : Nat) {st0 st : zS} {b : Nat → Nat} {n p0 p : Nat} {M E S A : List Int32} {R : List (Int32 × Int32 × Int32 × Nat)} {x : CS × Nat} {lf sg kd dv nm : Int32} (hf : fC st0 st) (h : MA st b n p) (hM : MC st (M ++ E)) (hl : E.length + p0 ≤ p) (hg : SG A E) (hr : rch b n x ((7, lf, sg, 0, [], S ++ A, R, kd, dv, nm), p)) (hp0 : p0 < p) (hR : R.length < 8) (h4 : st0 86 4 = Int32.ofNat R.length) (hnm : 0 ≤ nm.toInt ∧ nm.toInt ≤ 99) (h20 : st 85 20 = nm) (x2 : Int64) : ∃ st', m_ev none (d + 5) 242 159 [some (.ref 85), some (.int kd), some (.long x2), none, some (.int dv), none, none] [] (SH, st) = some (none, (SH, st')) ∧ fRl st0 st' ∧ ((∃ a, WR st' b n a ∧ bad b n x a) ∨ ∃ y p', MA st' b n p' ∧ rch b n x (y, p') ∧ ruleOK st0 M S R p0 y p' st') := by
  have hn := h.1.2.1
  have hp := h.2.1
  have g1 := fz_ge b n p
  have fl := fz_le (b := b) hp
  have k59 : ((if fz b n p < n then Int32.ofNat (b (fz b n p)) else -1) = 59) ↔ ((tk b n (fz b n p)).1 = 2 ∧ (tk b n (fz b n p)).2 = 59) := tk_c h.1 (c := 59) (by omega)
  have c7 : ct (tk b n (fz b n p)) (7, lf, sg, 0, [], S ++ A, R, kd, dv, nm) = if ((tk b n (fz b n p)).1 = 2 ∧ (tk b n (fz b n p)).2 = 59) ∧ R.length < 8 then some (0, lf, sg, 0, [], S ++ A, R ++ [(kd, dv, nm, (S ++ A).length)], kd, dv, nm) else none := rfl
  rw [eX12_rule_159, h.2.2.2.2, if_pos rfl, h.2.2.1, m_byt (d + 4) h.1 (by omega), h20]
  simp only [m_bd, Option.toList, List.cons_append, List.nil_append]
  rw [eX12_rule_181]
  by_cases q : (tk b n (fz b n p)).1 = 2 ∧ (tk b n (fz b n p)).2 = 59
  · rw [if_pos ⟨q, hR⟩] at c7
    have ge := ez_ge (b := b) (n := n) (a := fz b n p)
    obtain ⟨s1, e1, a1, f1⟩ := m_need1 (d + 1) h
    have M1 := MC_T hM f1
    have f01 := fC_t hf (fC_T f1)
    have s4 : s1 86 4 = Int32.ofNat R.length := (f01.2.2 4 (by omega)).trans h4
    rw [if_pos (k59.mpr q), eX12_rule_191, e1]
    simp only [m_bd, Option.toList, List.cons_append, List.nil_append]
    rw [eX12_rule_194, a1.2.2.2.2, if_pos rfl, s4, ix_R0 hR, ob_s, ix_R1 hR, ob_s, ix_R2 hR, ob_s, ix_R3 hR, ob_s, eX12_rule_269]
    refine ⟨_, rfl, fRl_t (fRl_C f01) ⟨fr_up (fr_up (fr_up (fr_up (fr_up (fr_refl _ _) rfl) rfl) rfl) rfl) rfl, fun j _ _ _ _ _ => ?_, fun j j4 hj => ?_⟩, Or.inr ⟨_, _, MA_e a1 ?_ fun j hj => ?_, rch_t hr (rch_s (stp_of c7) (rch_0 _)), lf, sg, kd, dv, nm, A, E, rfl, ⟨?_, ?_⟩, by omega, by omega, hg, hR, ?_, ?_, ?_, ?_, ?_, fun j j1 j2 => ?_, hnm.1, hnm.2⟩⟩
    · rw [up_ne (by decide), up_ne (by decide), up_ne (by decide), up_ne (by decide), up_ne (by decide)]
    · rw [up_nj j4, up_nj (by omega), up_nj (by omega), up_nj (by omega), up_nj (by omega)]
    · rw [up_ne (by decide), up_ne (by decide), up_ne (by decide), up_ne (by decide), up_ne (by decide)]
    · rw [up_ne (by decide), up_ne (by decide), up_ne (by decide), up_ne (by decide), up_ne (by decide)]
    · rw [up_ne (by decide), up_ne (by decide), up_ne (by decide), up_ne (by decide), up_ne (by decide)]; exact M1.1
    · refine Eq.trans (cl_cg _ _ fun j _ hj => ?_) M1.2
      rw [up_nj (by omega), up_nj (by omega), up_nj (by omega), up_nj (by omega), up_nj (by omega)]
    · rw [up_in, up_nj (by omega), up_nj (by omega), up_nj (by omega), up_nj (by omega), s4, n_succ]
    · rw [up_nj (by omega), up_nj (by omega), up_nj (by omega), up_nj (by omega), up_in]
    · rw [up_nj (by omega), up_nj (by omega), up_nj (by omega), up_in]
    · rw [up_nj (by omega), up_nj (by omega), up_in]
    · rw [up_nj (by omega), up_in]; exact M1.1
    · rw [up_nj (by omega), up_nj (by omega), up_nj (by omega), up_nj (by omega), up_nj (by omega), f1.1 86 rfl]
      exact hf.2.2 j (by omega)
  · rw [if_neg (fun z => q z.1)] at c7
    obtain ⟨s1, e1, w1, f1⟩ := m_need0 (d + 4) h
    rw [if_neg (fun z => q (k59.mp z)), eX12_rule_190, eX12_rule_191, e1]
    simp only [m_bd, Option.toList, List.cons_append, List.nil_append]
    rw [r_194 (d + 5) w1]
    exact ⟨s1, rfl, fRl_C (fC_t hf (fC_T f1)), Or.inl ⟨_, w1, bad_s hr (bad_of c7 (Or.inl (show (7 : Nat) ≠ 0 by decide)))⟩⟩
theorem fdx_D (w : Nat) : fdx ND 0 w = -1 ∨ (fdx ND 0 w = 0 ∨ fdx ND 0 w = 1 ∨ fdx ND 0 w = 2 ∨ fdx ND 0 w = 3) := by
  have e : fdx ND 0 w = if w = 1156 then 0 else if w = 441925 then 1 else if w = 435589 then 2 else if w = 647370196 then 3 else -1 := rfl
  rw [e]
  by_cases h0 : w = 1156
  · rw [if_pos h0]; exact Or.inr (Or.inl rfl)
  rw [if_neg h0]
  by_cases h1 : w = 441925
  · rw [if_pos h1]; exact Or.inr (Or.inr (Or.inl rfl))
  rw [if_neg h1]
  by_cases h2 : w = 435589
  · rw [if_pos h2]; exact Or.inr (Or.inr (Or.inr (Or.inl rfl)))
  rw [if_neg h2]
  by_cases h3 : w = 647370196
  · rw [if_pos h3]; exact Or.inr (Or.inr (Or.inr (Or.inr rfl)))
  rw [if_neg h3]; exact Or.inl rfl
theorem m_deedw (d : Nat) {st : zS} {w : Nat} (hw : w < 9223372036854775808) (x1 : Int32) : m_ev none d 242 53 [some (.ref 85), some (.int x1), none, none, none, none, none] [.long (Int64.ofNat w)] (SH, st) = m_ev none d 242 103 [some (.ref 85), some (.int x1), some (.long (Int64.ofNat w)), none, none, none, none] [.int (fdx ND 0 w)] (SH, st) := by
  have k1 : (lg_cmp (Int64.ofNat w) 1156 = 0) = (w = 1156) := l_eq (c := 1156) hw (by omega)
  have k2 : (lg_cmp (Int64.ofNat w) 441925 = 0) = (w = 441925) := l_eq (c := 441925) hw (by omega)
  have k3 : (lg_cmp (Int64.ofNat w) 435589 = 0) = (w = 435589) := l_eq (c := 435589) hw (by omega)
  have k4 : (lg_cmp (Int64.ofNat w) 647370196 = 0) = (w = 647370196) := l_eq (c := 647370196) hw (by omega)
  have e : fdx ND 0 w = if w = 1156 then 0 else if w = 441925 then 1 else if w = 435589 then 2 else if w = 647370196 then 3 else -1 := rfl
  rw [e, eX12_rule_53]
  simp only [k1]
  by_cases q : w = 1156
  · rw [if_pos q, if_pos q]
  rw [if_neg q, if_neg q, eX12_rule_66]
  simp only [k2]
  by_cases q : w = 441925
  · rw [if_pos q, if_pos q]
  rw [if_neg q, if_neg q, eX12_rule_78]
  simp only [k3]
  by_cases q : w = 435589
  · rw [if_pos q, if_pos q]
  rw [if_neg q, if_neg q, eX12_rule_90]
  simp only [k4]
  by_cases q : w = 647370196
  · rw [if_pos q, if_pos q]
  · rw [if_neg q, if_neg q, eX12_rule_102]
/-- from the words of a deed on -/
theorem m_deed (d : Nat) {st0 st : zS} {b : Nat → Nat} {n p0 p q : Nat} {M E S A A' X : List Int32} {R : List (Int32 × Int32 × Int32 × Nat)} {x : CS × Nat} {lf sg kd dd : Int32} (hf : fC st0 st) (h : MA st b n p) (hM : MC st (M ++ E)) (hl : E.length + p0 ≤ p) (hg : SG A E) (hr : rch b n x ((q, lf, sg, 0, X, S ++ A', R, kd, dd, 0), p)) (hp0 : p0 < p) (hR : R.length < 8) (h4 : st0 86 4 = Int32.ofNat R.length) (hq : q ≠ 0) (hc : ct (tk b n (fz b n p)) (q, lf, sg, 0, X, S ++ A', R, kd, dd, 0) = cdeed (tk b n (fz b n p)) lf sg 0 X (S ++ A') R kd 0) (hX : awx 1 X (S ++ A') = ([], S ++ A)) : ∃ st', m_ev none (d + 6) 242 49 [some (.ref 85), some (.int kd), none, none, none, none, none] [] (SH, st) = some (none, (SH, st')) ∧ fRl st0 st' ∧ ((∃ a, WR st' b n a ∧ bad b n x a) ∨ ∃ y p', MA st' b n p' ∧ rch b n x (y, p') ∧ ruleOK st0 M S R p0 y p' st') := by
  have hn := h.1.2.1
  have hp := h.2.1
  have g1 := fz_ge b n p
  rw [eX12_rule_49, m_wordA (d + 2) h]
  simp only [m_bd, Option.toList, List.cons_append, List.nil_append]
  rw [m_deedw (d + 6) wd_top, eX12_rule_103]
  have c1 : cdeed (tk b n (fz b n p)) lf sg 0 X (S ++ A') R kd 0 = if fdx ND 0 (wd (tk b n (fz b n p))) < 0 then none else some (if fdx ND 0 (wd (tk b n (fz b n p))) = 3 then 7 else 6, lf, sg, 0, [], S ++ A, R, kd, fdx ND 0 (wd (tk b n (fz b n p))), 0) := by
    unfold cdeed
    rw [hX]
    by_cases z : fdx ND 0 (wd (tk b n (fz b n p))) < 0
    · rw [if_pos (Or.inl z), if_pos z]
    · rw [if_neg z, if_neg (by rintro (y | y | y); exact z y; omega; omega)]
  have hdx := fdx_D (wd (tk b n (fz b n p)))
  generalize hdv : fdx ND 0 (wd (tk b n (fz b n p))) = dv at c1 hdx
  by_cases z : dv < 0
  · rw [if_pos z] at c1
    obtain ⟨s1, e1, w1, f1⟩ := m_need0 (d + 5) h
    rw [if_pos z, eX12_rule_115, eX12_rule_116, e1]
    simp only [m_bd, Option.toList, List.cons_append, List.nil_append]
    rw [r_119 (d + 2) w1 _ _ z]
    refine ⟨_, rfl, fRl_C (fC_t (fC_t hf (fC_T f1)) (fC_20 _ _)), Or.inl ⟨_, WR_20 w1 0, bad_s hr (bad_of (hc.trans c1) (Or.inl hq))⟩⟩
  rw [if_neg z] at c1
  have st1 := stp_of (hc.trans c1)
  have lt1 : fz b n p < n := wd_lt (b := b) (n := n) (a := fz b n p) (fun y => by
    rw [y] at hdv
    rw [← hdv] at z
    exact z (by decide))
  have gt1 := ez_gt (b := b) hn lt1
  obtain ⟨s1, e1, a1, f1⟩ := m_need1 (d + 2) h
  rw [if_neg z, eX12_rule_116, e1]
  simp only [m_bd, Option.toList, List.cons_append, List.nil_append]
  generalize ez b n (fz b n p) = p1 at st1 gt1 a1
  have hp1 := a1.2.1
  have a2 := MA_20 a1 0
  have m2 := MC_20 (MC_T hM f1) 0
  have f2 : fC st0 (m_up s1 85 20 0) := fC_t (fC_t hf (fC_T f1)) (fC_20 _ _)
  have r2 := rch_t hr (rch_s st1 (rch_0 _))
  rw [eX12_rule_119, if_neg z]
  by_cases z3 : dv = 3
  · rw [if_pos z3]
    rw [if_pos z3] at r2
    exact m_semi (d + 1) f2 a2 m2 (by omega) hg r2 (by omega) hR h4 ⟨by decide, by decide⟩ (up_in _ _ _ _) _
  · rw [if_neg z3, a1.2.2.2.2, if_pos rfl]
    rw [if_neg z3] at r2
    have A156 : (if dv = 2 then m_ev none (d + 6) 242 156 [some (.ref 85), some (.int kd), some (.long (Int64.ofNat (wd (tk b n (fz b n p))))), none, some (.int dv), none, none] [.int 9, .ref 85] (SH, m_up s1 85 20 0) else m_ev none (d + 6) 242 154 [some (.ref 85), some (.int kd), some (.long (Int64.ofNat (wd (tk b n (fz b n p))))), none, some (.int dv), none, none] [.ref 85] (SH, m_up s1 85 20 0)) = m_ev none (d + 6) 242 156 [some (.ref 85), some (.int kd), some (.long (Int64.ofNat (wd (tk b n (fz b n p))))), none, some (.int dv), none, none] [.int (Int32.ofNat (if dv = 2 then 9 else 99)), .ref 85] (SH, m_up s1 85 20 0) := by
      by_cases y : dv = 2
      · rw [if_pos y, if_pos y]; rfl
      · rw [if_neg y, if_neg y, eX12_rule_154]; rfl
    rw [A156, eX12_rule_156]
    have c6 : ct (tk b n (fz b n p1)) (6, lf, sg, 0, [], S ++ A, R, kd, dv, 0) = if (tk b n (fz b n p1)).1 = 1 ∧ R.length < 8 ∧ ¬ (if dv = 2 then 9 else 99) < (tk b n (fz b n p1)).2 then some (7, lf, sg, 0, [], S ++ A, R, kd, dv, Int32.ofNat (tk b n (fz b n p1)).2) else none := rfl
    have h99 : (if dv = 2 then 9 else 99 : Nat) ≤ 99 := by split <;> omega
    generalize (if dv = 2 then 9 else 99 : Nat) = hi at c6 h99 ⊢
    obtain ⟨n1, n2⟩ := m_numb (d + 1) a2 (hi := hi) (by omega)
    by_cases y : (tk b n (fz b n p1)).1 = 1 ∧ (tk b n (fz b n p1)).2 ≤ hi
    · obtain ⟨s3, e3, f3, a3, v3⟩ := n1 y
      rw [if_pos ⟨y.1, hR, by omega⟩] at c6
      have ge := ez_ge (b := b) (n := n) (a := fz b n p1)
      have g2 := fz_ge b n p1
      rw [e3]
      simp only [m_bd, Option.toList, List.cons_append, List.nil_append]
      exact m_semi (d + 1) (fC_t f2 (fC_N f3)) a3 (MC_N m2 f3) (by omega) hg (rch_t r2 (rch_s (stp_of c6) (rch_0 _))) (by omega) hR h4 ⟨by rw [n_int (by omega)]; omega, by rw [n_int (by omega)]; omega⟩ v3 _
    · obtain ⟨s3, e3, f3, w3⟩ := n2 y
      rw [if_neg (fun u => y ⟨u.1, by omega⟩)] at c6
      rw [e3]
      simp only [m_bd, Option.toList, List.cons_append, List.nil_append]
      rw [r_159 (d + 2) w3]
      exact ⟨s3, rfl, fRl_C (fC_t f2 (fC_N f3)), Or.inl ⟨_, w3, bad_s r2 (bad_of c6 (Or.inl (show (6 : Nat) ≠ 0 by decide)))⟩⟩
theorem m_rule (d : Nat) {st : zS} {b : Nat → Nat} {n p : Nat} {M S : List Int32} {R : List (Int32 × Int32 × Int32 × Nat)} {lf sg kd dd nm : Int32} (h : MA st b n p) (hM : MC st M) (hl : M.length ≤ p) (h21 : st 85 21 = 0) (hlt : fz b n p < n) (hR : R.length ≤ 8) (h4 : st 86 4 = Int32.ofNat R.length) : ∃ st', m_evc (d + 25) 242 [.ref 85] (SH, st) = some (none, (SH, st')) ∧ fRl st st' ∧ ((∃ a, WR st' b n a ∧ bad b n ((0, lf, sg, 0, [], S, R, kd, dd, nm), p) a) ∨ ∃ y p', MA st' b n p' ∧ rch b n ((0, lf, sg, 0, [], S, R, kd, dd, nm), p) (y, p') ∧ ruleOK st M S R p y p' st') := by
  have hn := h.1.2.1
  have hp := h.2.1
  have g1 := fz_ge b n p
  have ek := m_kindw (d + 23) wd_top (m_wordA (d + 19) h)
  have c0 : ct (tk b n (fz b n p)) (0, lf, sg, 0, [], S, R, kd, dd, nm) = if fdx NK 0 (wd (tk b n (fz b n p))) < 0 ∨ 8 ≤ R.length then none else some (1, lf, sg, 0, [], S, R, fdx NK 0 (wd (tk b n (fz b n p))), dd, 0) := rfl
  rw [cal_X12_rule, eX12_rule_0, ek]
  simp only [m_bd, Option.toList, List.cons_append, List.nil_append]
  rw [eX12_rule_4, h4]
  generalize fdx NK 0 (wd (tk b n (fz b n p))) = kv at c0
  by_cases z : kv < 0 ∨ 8 ≤ R.length
  · rw [if_pos z] at c0
    obtain ⟨s1, e1, w1, f1⟩ := m_need0 (d + 23) h
    have A25 : m_ev none (d + 24) 242 25 [some (.ref 85), some (.int kv), none, none, none, none, none] [.ref 85] (SH, st) = some (none, (SH, m_up s1 85 20 0)) := by
      rw [eX12_rule_25, eX12_rule_26, e1]
      simp only [m_bd, Option.toList, List.cons_append, List.nil_append]
      rw [r_29 (d + 20) w1]
    refine ⟨_, ?_, fRl_C (fC_t (fC_T f1) (fC_20 _ _)), Or.inl ⟨_, WR_20 w1 0, bad_of c0 (Or.inr hlt)⟩⟩
    by_cases y : kv < 0
    · rw [if_pos y, A25]
    · rw [if_neg y, if_neg (by rw [show (8 : Int32) = Int32.ofNat 8 from rfl, n_lt (by omega) (by omega)]; rcases z with z | z; exact absurd z y; omega), A25]
  rw [if_neg z] at c0
  have st0 := stp_of c0
  have hR8 : R.length < 8 := by
    by_cases y : R.length < 8
    · exact y
    · exact absurd (Or.inr (by omega)) z
  have gt0 := ez_gt (b := b) hn hlt
  obtain ⟨s1, e1, a1, f1⟩ := m_need1 (d + 20) h
  rw [if_neg (fun y => z (Or.inl y)), if_pos (by rw [show (8 : Int32) = Int32.ofNat 8 from rfl, n_lt (by omega) (by omega)]; exact hR8), eX12_rule_26, e1]
  simp only [m_bd, Option.toList, List.cons_append, List.nil_append]
  generalize ez b n (fz b n p) = p1 at st0 gt0 a1
  have hp1 := a1.2.1
  have g2 := fz_ge b n p1
  have k1 : (lg_cmp (Int64.ofNat (wd (tk b n (fz b n p1)))) 294 = 0) = (wd (tk b n (fz b n p1)) = 294) := l_eq (c := 294) wd_top (by omega)
  have c1 : ct (tk b n (fz b n p1)) (1, lf, sg, 0, [], S, R, kv, dd, 0) = if wd (tk b n (fz b n p1)) = 294 then some (2, lf, sg, 0, [], S, R, kv, dd, 0) else cdeed (tk b n (fz b n p1)) lf sg 0 [] S R kv 0 := rfl
  rw [eX12_rule_29, m_wordA (d + 20) a1]
  simp only [m_bd, Option.toList, List.cons_append, List.nil_append]
  rw [eX12_rule_33]
  simp only [k1]
  by_cases w : wd (tk b n (fz b n p1)) = 294
  · rw [if_pos w] at c1
    have st1 := stp_of c1
    have lt1 : fz b n p1 < n := wd_lt (b := b) (n := n) (a := fz b n p1) (by omega)
    have gt1 := ez_gt (b := b) hn lt1
    obtain ⟨s2, e2, a2, f2⟩ := m_need1 (d + 20) a1
    rw [if_pos w, e2]
    simp only [m_bd, Option.toList, List.cons_append, List.nil_append]
    generalize ez b n (fz b n p1) = p2 at st1 gt1 a2
    have f12 : fC st s2 := fC_t (fC_T f1) (fC_T f2)
    obtain ⟨s3, e3, f3, q3⟩ := m_cond 3 d s2 p2 M lf sg 0 [] S R kv dd 0 a2 (MC_T (MC_T hM f1) f2) (by omega) (by rw [fC_a f12]; exact h21) rfl (fun x W' e => by cases e)
    have e3 : m_evc (d + 24) 241 [.ref 85] (SH, s2) = some (none, (SH, s3)) := e3
    rw [eX12_rule_45, e3]
    simp only [m_bd, Option.toList, List.cons_append, List.nil_append]
    rcases q3 with ⟨a, w3, q⟩ | ⟨y, p3, a3, r, lf3, sg3, A, X, E, ey, hX, hM3, hl3, hd3, w31, w32⟩
    · rw [r_49 (d + 20) w3]
      exact ⟨_, rfl, fRl_C (fC_t (fC_t f12 f3) (fC_20 _ _)), Or.inl ⟨_, WR_20 w3 0, bad_t st0 (bad_t st1 q)⟩⟩
    · subst ey
      rw [List.append_nil] at r
      have aX : awx 1 X (S ++ A) = ([], S ++ (A ++ X)) := by
        have := awx_X (v := 1) X [] (S ++ A) hX (fun x W' e => by cases e)
        rw [List.append_nil, List.append_assoc] at this
        exact this
      have c5 : ct (tk b n (fz b n p3)) (5, lf3, sg3, 0, X, S ++ A, R, kv, dd, 0) = cdeed (tk b n (fz b n p3)) lf3 sg3 0 X (S ++ A) R kv 0 := by
        show (if wd (tk b n (fz b n p3)) = 498 then some (2, lf3, sg3, 0, 1 :: (awx 1 X (S ++ A)).1, (awx 1 X (S ++ A)).2, R, kv, dd, 0) else if wd (tk b n (fz b n p3)) = 1476 then some (2, lf3, sg3, 0, 2 :: (awx 2 X (S ++ A)).1, (awx 2 X (S ++ A)).2, R, kv, dd, 0) else if ((tk b n (fz b n p3)).1 = 2 ∧ (tk b n (fz b n p3)).2 = 41) ∧ 0 < 0 then some (5, lf3, sg3, 0 - 1, (awx 1 X (S ++ A)).1.tail, (awx 1 X (S ++ A)).2, R, kv, dd, 0) else cdeed (tk b n (fz b n p3)) lf3 sg3 0 X (S ++ A) R kv 0) = _
        rw [if_neg w32, if_neg w31, if_neg (fun z => by omega)]
      exact m_deed (d + 18) (fC_t f12 f3) a3 hM3 (by omega) (Or.inr hd3) (rch_s st0 (rch_s st1 r)) (by omega) hR8 h4 (show (5 : Nat) ≠ 0 by decide) c5 aX
  · rw [if_neg w] at c1
    rw [if_neg w]
    have M1 : MC s1 (M ++ []) := by rw [List.append_nil]; exact MC_T hM f1
    have r1 : rch b n ((0, lf, sg, 0, [], S, R, kd, dd, nm), p) ((1, lf, sg, 0, [], S ++ [], R, kv, dd, 0), p1) := by rw [List.append_nil]; exact rch_s st0 (rch_0 _)
    exact m_deed (d + 18) (E := []) (A := []) (A' := []) (X := []) (fC_T f1) a1 M1 (by show 0 + p ≤ p1; omega) (Or.inl ⟨rfl, rfl⟩) r1 (by omega) hR8 h4 (show (1 : Nat) ≠ 0 by decide) (by rw [List.append_nil]; exact c1) rfl
