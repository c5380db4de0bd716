/-! THE TAPE IN THE MODEL: all rules -/
theorem s_puts (d : Nat) (st : zS) : RT (m_evc (d + 1) 161 [.ref 85] (SH, st)) none (fun st' => fr [88] st st' ∧ ∀ j, j < 310 → st' 88 j = st 86 j) := by
  have L := lp_inv (fun j (c : zS) => m_ev none d 161 2 [some (.ref 85), some (.int (Int32.ofNat j))] [] (SH, c)) (fun j c => fr [88] st c ∧ ∀ i, i < j → c 88 i = st 86 i) 310 ?_ 310 0 st (by omega) ⟨fr_refl _ _, fun i hi => by omega⟩
  · obtain ⟨c, e, f, g⟩ := L
    refine ⟨c, ?_, f, g⟩
    rw [cal_X12_puts, eX12_puts_0]
    refine Eq.trans e ?_
    show m_ev none d 161 2 [some (.ref 85), some (.int (Int32.ofNat 310))] [] (SH, c) = _
    rw [eX12_puts_2, if_neg (by decide), eX12_puts_27]
  · rintro j c hj ⟨f, g⟩
    refine ⟨m_up c 88 j (c 86 j), ?_, fr_up f rfl, fun i hi => ?_⟩
    · show m_ev none d 161 2 [some (.ref 85), some (.int (Int32.ofNat j))] [] (SH, c) = _
      rw [eX12_puts_2, if_pos (by rw [show (310 : Int32) = Int32.ofNat 310 from rfl, n_lt (by omega) (by omega)]; exact hj), ix_310 hj, ob_s, ob_s, n_succ]
    · by_cases z : i = j
      · subst z; rw [up_in, f 86 rfl]
      · rw [up_nj z]; exact g i (by omega)
theorem s_back (d : Nat) (st : zS) : RT (m_evc (d + 1) 162 [.ref 85] (SH, st)) none (fun st' => fr [86] st st' ∧ (∀ j, j < 310 → st' 86 j = st 88 j) ∧ ∀ j, 310 ≤ j → st' 86 j = st 86 j) := by
  have L := lp_inv (fun j (c : zS) => m_ev none d 162 2 [some (.ref 85), some (.int (Int32.ofNat j))] [] (SH, c)) (fun j c => fr [86] st c ∧ (∀ i, i < j → c 86 i = st 88 i) ∧ ∀ i, 310 ≤ i → c 86 i = st 86 i) 310 ?_ 310 0 st (by omega) ⟨fr_refl _ _, fun i hi => by omega, fun _ _ => rfl⟩
  · obtain ⟨c, e, f, g, k⟩ := L
    refine ⟨c, ?_, f, g, k⟩
    rw [cal_X12_putsBack, eX12_putsBack_0]
    refine Eq.trans e ?_
    show m_ev none d 162 2 [some (.ref 85), some (.int (Int32.ofNat 310))] [] (SH, c) = _
    rw [eX12_putsBack_2, if_neg (by decide), eX12_putsBack_27]
  · rintro j c hj ⟨f, g, k⟩
    refine ⟨m_up c 86 j (c 88 j), ?_, fr_up f rfl, fun i hi => ?_, fun i hi => ?_⟩
    · show m_ev none d 162 2 [some (.ref 85), some (.int (Int32.ofNat j))] [] (SH, c) = _
      rw [eX12_putsBack_2, if_pos (by rw [show (310 : Int32) = Int32.ofNat 310 from rfl, n_lt (by omega) (by omega)]; exact hj), ix_310 hj, ob_s, ob_s, n_succ]
    · by_cases z : i = j
      · subst z; rw [up_in, f 88 rfl]
      · rw [up_nj z]; exact g i (by omega)
    · rw [up_nj (by omega)]; exact k i hi
def seg (S : List Int32) (a c : Nat) : List Int32 := (S.drop a).take (c - a)
theorem seg_a {S A : List Int32} {a c : Nat} (h1 : a ≤ c) (h2 : c ≤ S.length) : seg (S ++ A) a c = seg S a c := by
  unfold seg
  rw [List.drop_append_of_le_length (by omega), List.take_append_of_le_length (by rw [List.length_drop]; omega)]
theorem seg_n {S A : List Int32} : seg (S ++ A) S.length (S ++ A).length = A := by
  unfold seg
  rw [List.drop_left, List.length_append, Nat.add_sub_cancel_left, List.take_length]
/-- the rules that have been read, in the class and in the model -/
def RI (s : Nat → Int32) (S M : List Int32) (R : List (Int32 × Int32 × Int32 × Nat)) : Prop := s 4 = Int32.ofNat R.length ∧ R.length ≤ 8 ∧ ∃ cE mE : Nat → Nat, cE 0 = 0 ∧ mE 0 = 0 ∧ cE R.length = S.length ∧ mE R.length = M.length ∧ ∀ r, r < R.length → ∃ k d m, R[r]? = some (k, d, m, cE (r + 1)) ∧ s (78 + 4 * r) = k ∧ s (79 + 4 * r) = d ∧ s (80 + 4 * r) = m ∧ s (81 + 4 * r) = Int32.ofNat (mE (r + 1)) ∧ (0 ≤ m.toInt ∧ m.toInt ≤ 99) ∧ (cE r ≤ cE (r + 1) ∧ cE (r + 1) ≤ S.length) ∧ (mE r ≤ mE (r + 1) ∧ mE (r + 1) ≤ M.length) ∧ SG (seg S (cE r) (cE (r + 1))) (seg M (mE r) (mE (r + 1)))
theorem RI_0 {s : Nat → Int32} (h : s 4 = 0) : RI s [] [] [] := ⟨h, by decide, fun _ => 0, fun _ => 0, rfl, rfl, rfl, rfl, fun r hr => by cases hr⟩
theorem RI_s {st st' : zS} {S M A E : List Int32} {R : List (Int32 × Int32 × Int32 × Nat)} {kd dd nm : Int32} (h : RI (st 86) S M R) (hg : SG A E) (hR : R.length < 8) (h4 : st' 86 4 = Int32.ofNat (R.length + 1)) (h78 : st' 86 (78 + 4 * R.length) = kd) (h79 : st' 86 (79 + 4 * R.length) = dd) (h80 : st' 86 (80 + 4 * R.length) = nm) (h81 : st' 86 (81 + 4 * R.length) = Int32.ofNat (M ++ E).length) (hj : ∀ j, 78 ≤ j → j < 78 + 4 * R.length → st' 86 j = st 86 j) (hn : 0 ≤ nm.toInt ∧ nm.toInt ≤ 99) : RI (st' 86) (S ++ A) (M ++ E) (R ++ [(kd, dd, nm, (S ++ A).length)]) := by
  obtain ⟨_, _, cE, mE, c0, m0, cL, mL, g⟩ := h
  have lS : (S ++ A).length = S.length + A.length := List.length_append
  have lM : (M ++ E).length = M.length + E.length := List.length_append
  have lR : (R ++ [(kd, dd, nm, (S ++ A).length)]).length = R.length + 1 := by rw [List.length_append]; rfl
  refine ⟨by rw [lR]; exact h4, by omega, fun r => if r = R.length + 1 then (S ++ A).length else cE r, fun r => if r = R.length + 1 then (M ++ E).length else mE r, ?_, ?_, ?_, ?_, fun r hr => ?_⟩
  · show (if 0 = R.length + 1 then _ else cE 0) = 0
    rw [if_neg (by omega)]; exact c0
  · show (if 0 = R.length + 1 then _ else mE 0) = 0
    rw [if_neg (by omega)]; exact m0
  · show (if _ = R.length + 1 then _ else cE _) = _
    rw [lR, if_pos rfl]
  · show (if _ = R.length + 1 then _ else mE _) = _
    rw [lR, if_pos rfl]
  · show ∃ k d m, (R ++ [(kd, dd, nm, (S ++ A).length)])[r]? = some (k, d, m, if r + 1 = R.length + 1 then (S ++ A).length else cE (r + 1)) ∧ st' 86 (78 + 4 * r) = k ∧ st' 86 (79 + 4 * r) = d ∧ st' 86 (80 + 4 * r) = m ∧ st' 86 (81 + 4 * r) = Int32.ofNat (if r + 1 = R.length + 1 then (M ++ E).length else mE (r + 1)) ∧ (0 ≤ m.toInt ∧ m.toInt ≤ 99) ∧ ((if r = R.length + 1 then (S ++ A).length else cE r) ≤ (if r + 1 = R.length + 1 then (S ++ A).length else cE (r + 1)) ∧ (if r + 1 = R.length + 1 then (S ++ A).length else cE (r + 1)) ≤ (S ++ A).length) ∧ ((if r = R.length + 1 then (M ++ E).length else mE r) ≤ (if r + 1 = R.length + 1 then (M ++ E).length else mE (r + 1)) ∧ (if r + 1 = R.length + 1 then (M ++ E).length else mE (r + 1)) ≤ (M ++ E).length) ∧ SG (seg (S ++ A) (if r = R.length + 1 then (S ++ A).length else cE r) (if r + 1 = R.length + 1 then (S ++ A).length else cE (r + 1))) (seg (M ++ E) (if r = R.length + 1 then (M ++ E).length else mE r) (if r + 1 = R.length + 1 then (M ++ E).length else mE (r + 1)))
    rw [lR] at hr
    rw [if_neg (show ¬ r = R.length + 1 by omega), if_neg (show ¬ r = R.length + 1 by omega)]
    by_cases z : r = R.length
    · subst z
      rw [if_pos rfl, if_pos rfl, cL, mL, seg_n, seg_n]
      exact ⟨kd, dd, nm, List.getElem?_concat_length, h78, h79, h80, h81, hn, ⟨by omega, Nat.le_refl _⟩, ⟨by omega, Nat.le_refl _⟩, hg⟩
    · rw [if_neg (show ¬ r + 1 = R.length + 1 by omega), if_neg (show ¬ r + 1 = R.length + 1 by omega)]
      obtain ⟨k, d, m, g1, g2, g3, g4, g5, g6, g7, g8, g9⟩ := g r (by omega)
      refine ⟨k, d, m, by rw [List.getElem?_append_left (by omega)]; exact g1, by rw [hj _ (by omega) (by omega)]; exact g2, by rw [hj _ (by omega) (by omega)]; exact g3, by rw [hj _ (by omega) (by omega)]; exact g4, by rw [hj _ (by omega) (by omega)]; exact g5, g6, ⟨g7.1, by omega⟩, ⟨g8.1, by omega⟩, ?_⟩
      rw [seg_a g7.1 g7.2, seg_a g8.1 g8.2]
      exact g9
theorem rn_LI {b : Nat → Nat} {n : Nat} (hn : n ≤ 200) {y : CS × Nat} : ∀ k (x : CS) (p : Nat), p ≤ n → LI p x → rn b n k (x, p) = some y → LI y.2 y.1 ∧ y.2 ≤ n
  | 0, x, p, hp, hL, h => by cases h; exact ⟨hL, hp⟩
  | k + 1, x, p, hp, hL, h => by
    have h : (match stp b n (x, p) with
      | none => none
      | some y => rn b n k y) = some y := h
    cases q : stp b n (x, p) with
    | none => rw [q] at h; cases h
    | some z =>
      rw [q] at h
      obtain ⟨_, _, p2, p3, _, _⟩ := stp_p hn hp hL q
      exact rn_LI hn k z.1 z.2 p2 p3 h
/-- how the model ends: wrong where the class's reader does, or with the rules that it has read -/
def REN (s : zS) (b : Nat → Nat) (n : Nat) (x : CS × Nat) : Prop := (∃ a, WR s b n a ∧ bad b n x a) ∨ ∃ lf sg kd dd nm S R M p, MA s b n p ∧ n ≤ fz b n p ∧ rch b n x ((0, lf, sg, 0, [], S, R, kd, dd, nm), p) ∧ MC s M ∧ M.length ≤ p ∧ RI (s 86) S M R
theorem m_rloop (d : Nat) {b : Nat → Nat} {n : Nat} {x : CS × Nat} : ∀ m (st : zS) (p : Nat) (lf sg kd dd nm : Int32) (S M : List Int32) (R : List (Int32 × Int32 × Int32 × Nat)), n - p ≤ m → MA st b n p → MC st M → M.length ≤ p → st 85 21 = 0 → RI (st 86) S M R → rch b n x ((0, lf, sg, 0, [], S, R, kd, dd, nm), p) → ∃ st', m_ev none (d + 25) 243 35 [some (.ref 85)] [] (SH, st) = m_ev none (d + 25) 243 60 [some (.ref 85)] [] (SH, st') ∧ fRl st st' ∧ REN st' b n x := by
  intro m
  induction m with
  | zero =>
    intro st p lf sg kd dd nm S M R hm h hM hl h21 hI hr
    have hn := h.1.2.1
    have hp := h.2.1
    have g1 := fz_ge b n p
    have fl := fz_le (b := b) hp
    refine ⟨st, ?_, ⟨fr_refl _ _, fun _ _ _ _ _ _ => rfl, fun _ _ _ => rfl⟩, Or.inr ⟨lf, sg, kd, dd, nm, S, R, M, p, h, by omega, hr, hM, hl, hI⟩⟩
    rw [eX12_rules_35, h.2.2.2.2, if_pos rfl, h.2.2.1, h.1.1, if_neg (by rw [n_lt (by omega) (by omega)]; omega)]
  | succ m ih =>
    intro st p lf sg kd dd nm S M R hm h hM hl h21 hI hr
    have hn := h.1.2.1
    have hp := h.2.1
    have g1 := fz_ge b n p
    have fl := fz_le (b := b) hp
    by_cases q : fz b n p < n
    · obtain ⟨s1, e1, f1, q1⟩ := m_rule d (S := S) (R := R) (lf := lf) (sg := sg) (kd := kd) (dd := dd) (nm := nm) h hM hl h21 q hI.2.1 hI.1
      rw [eX12_rules_35, h.2.2.2.2, if_pos rfl, h.2.2.1, h.1.1, if_pos (by rw [n_lt (by omega) (by omega)]; exact q), e1]
      simp only [m_bd, Option.toList, List.cons_append, List.nil_append]
      rw [eX12_rules_57]
      rcases q1 with ⟨a, w, g⟩ | ⟨y, p', a, r, lf', sg', kd', dd', nm', A, E, z1, z2, z3, z4, z5, z6, z7, z8, z9, z10, z11, z12, z13, z14⟩
      · refine ⟨s1, ?_, f1, Or.inl ⟨a, w, bad_s hr g⟩⟩
        rw [eX12_rules_35, w.2.2.2.2, if_neg i_10]
      · subst z1
        have ml : (M ++ E).length = M.length + E.length := List.length_append
        have hp' := a.2.1
        obtain ⟨s2, e2, f2, q2⟩ := ih s1 p' lf' sg' kd' dd' nm' (S ++ A) (M ++ E) _ (by omega) a z2 (by omega) (by rw [f1.2.1 21 (by decide) (by decide) (by decide) (by decide) (by decide)]; exact h21) (RI_s hI z5 z6 z7 z8 z9 z10 z11 z12 ⟨z13, z14⟩) (rch_t hr r)
        exact ⟨s2, e2, fRl_t f1 f2, q2⟩
    · refine ⟨st, ?_, ⟨fr_refl _ _, fun _ _ _ _ _ _ => rfl, fun _ _ _ => rfl⟩, Or.inr ⟨lf, sg, kd, dd, nm, S, R, M, p, h, by omega, hr, hM, hl, hI⟩⟩
      rw [eX12_rules_35, h.2.2.2.2, if_pos rfl, h.2.2.1, h.1.1, if_neg (by rw [n_lt (by omega) (by omega)]; exact q)]
/-- rules() of the model up to its end -/
theorem m_rrun (d : Nat) {st : zS} {b : Nat → Nat} {n : Nat} (hM : MP st b n) (lf sg kd dd nm : Int32) : ∃ st', m_evc (d + 26) 243 [.ref 85] (SH, st) = m_ev none (d + 25) 243 60 [some (.ref 85)] [] (SH, st') ∧ fr [85, 86, 88] st st' ∧ (∀ j, j ≠ 18 → j ≠ 19 → j ≠ 20 → j ≠ 21 → j ≠ 22 → j ≠ 23 → st' 85 j = st 85 j) ∧ (∀ j, j ≠ 4 → (j < 78 ∨ 310 ≤ j) → st' 86 j = st 86 j) ∧ (∀ j, j < 310 → st' 88 j = st 86 j) ∧ REN st' b n ((0, lf, sg, 0, [], [], [], kd, dd, nm), 0) := by
  obtain ⟨s1, e1, f1, g1⟩ := s_puts (d + 24) st
  have f86 : s1 86 = st 86 := f1 86 rfl
  have f85 : s1 85 = st 85 := f1 85 rfl
  have f94 : s1 94 = st 94 := f1 94 rfl
  have hM1 : MP s1 b n := MP_e hM f94 (by rw [f85])
  have hM2 : MP (m_up (m_up (m_up (m_up (m_up s1 86 4 0) 85 22 0) 85 21 0) 85 19 0) 85 23 0) b n := MP_85 (MP_85 (MP_85 (MP_85 (MP_e hM1 (up_ne (by decide)) (by rw [up_ne (by decide)])) (by decide) _) (by decide) _) (by decide) _) (by decide) _
  have e2 := m_tok (d + 22) hM2 (p := 0) (by omega) (by rw [up_nj (by decide), up_in]; rfl)
  have h2 := hM2.2.1
  generalize hs2 : m_up (m_up (m_up (m_up (m_up s1 86 4 0) 85 22 0) 85 21 0) 85 19 0) 85 23 0 = s2 at hM2 e2
  have k86 : ∀ j, j ≠ 4 → s2 86 j = st 86 j := fun j hj => by
    rw [← hs2, up_ne (by decide), up_ne (by decide), up_ne (by decide), up_ne (by decide), up_nj hj, f86]
  have k864 : s2 86 4 = 0 := by rw [← hs2, up_ne (by decide), up_ne (by decide), up_ne (by decide), up_ne (by decide), up_in]
  have k85 : ∀ j, j ≠ 22 → j ≠ 21 → j ≠ 19 → j ≠ 23 → s2 85 j = st 85 j := fun j h1 h2 h3 h4 => by
    rw [← hs2, up_nj h4, up_nj h3, up_nj h2, up_nj h1, up_ne (by decide), f85]
  have k22 : s2 85 22 = 0 := by rw [← hs2, up_nj (by decide), up_nj (by decide), up_nj (by decide), up_in]
  have k21 : s2 85 21 = 0 := by rw [← hs2, up_nj (by decide), up_nj (by decide), up_in]
  have k23 : s2 85 23 = 0 := by rw [← hs2, up_in]
  have k88 : ∀ j, j < 310 → s2 88 j = st 86 j := fun j hj => by
    rw [← hs2, up_ne (by decide), up_ne (by decide), up_ne (by decide), up_ne (by decide), up_ne (by decide)]; exact g1 j hj
  have kf : fr [85, 86, 88] st s2 := by
    rw [← hs2]
    exact fr_up (fr_up (fr_up (fr_up (fr_up (fr_mono f1 (by decide)) rfl) rfl) rfl) rfl) rfl
  have aA : MA (m_up (m_up s2 85 18 (Int32.ofNat (fz b n 0))) 85 19 (Int32.ofNat (ez b n (fz b n 0)))) b n 0 := ⟨MP_85 (MP_85 hM2 (by decide) _) (by decide) _, by omega, by rw [up_nj (by decide), up_in], up_in _ _ _ _, by rw [up_nj (by decide), up_nj (by decide)]; exact k23⟩
  have aC : MC (m_up (m_up s2 85 18 (Int32.ofNat (fz b n 0))) 85 19 (Int32.ofNat (ez b n (fz b n 0)))) [] := ⟨by rw [up_nj (by decide), up_nj (by decide)]; exact k22, rfl⟩
  have aI : RI ((m_up (m_up s2 85 18 (Int32.ofNat (fz b n 0))) 85 19 (Int32.ofNat (ez b n (fz b n 0)))) 86) [] [] [] := RI_0 (by rw [up_ne (by decide), up_ne (by decide)]; exact k864)
  obtain ⟨s3, e3, f3, q3⟩ := m_rloop d (x := ((0, lf, sg, 0, [], [], [], kd, dd, nm), 0)) n _ 0 lf sg kd dd nm [] [] [] (by omega) aA aC (Nat.le_refl 0) (by rw [up_nj (by decide), up_nj (by decide)]; exact k21) aI (rch_0 _)
  refine ⟨s3, ?_, ?_, fun j h18 h19 h20 h21 h22 h23 => ?_, fun j h4 hj => ?_, fun j hj => ?_, q3⟩
  · rw [cal_X12_rules, eX12_rules_0, e1]
    simp only [m_bd, Option.toList, List.cons_append, List.nil_append]
    rw [eX12_rules_4, hs2, e2]
    simp only [m_bd, Option.toList, List.cons_append, List.nil_append]
    exact e3
  · exact fr_mono (fr_tr (fr_up (fr_up kf rfl) rfl) f3.1) (by decide)
  · rw [f3.2.1 j h18 h19 h20 h22 h23, up_nj h19, up_nj h18]
    exact k85 j h22 h21 h19 h23
  · rw [f3.2.2 j h4 hj, up_ne (by decide), up_ne (by decide)]
    exact k86 j h4
  · rw [f3.1 88 rfl, up_ne (by decide), up_ne (by decide)]
    exact k88 j hj
