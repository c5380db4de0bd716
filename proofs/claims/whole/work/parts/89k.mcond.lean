/-! THE TAPE IN THE MODEL: comparisons and conditions, held against the class's reader -/
/-- the model ends wrong where the class's reader does, or both go on -/
def OU (st st' : zS) (b : Nat → Nat) (n : Nat) (x : CS × Nat) (ok : CS → Nat → zS → Prop) : Prop := fC st st' ∧ ((∃ a, WR st' b n a ∧ bad b n x a) ∨ ∃ y p, MA st' b n p ∧ rch b n x (y, p) ∧ ok y p st')
def OUT (m : Option mF) (st : zS) (b : Nat → Nat) (n : Nat) (x : CS × Nat) (ok : CS → Nat → zS → Prop) : Prop := ∃ st', m = some (none, (SH, st')) ∧ OU st st' b n x ok
theorem OU_w {st st' : zS} {b : Nat → Nat} {n a : Nat} {x : CS × Nat} {ok : CS → Nat → zS → Prop} (f : fC st st') (h : WR st' b n a) (g : bad b n x a) : OU st st' b n x ok := ⟨f, Or.inl ⟨a, h, g⟩⟩
theorem OU_o {st st' : zS} {b : Nat → Nat} {n p : Nat} {x : CS × Nat} {y : CS} {ok : CS → Nat → zS → Prop} (f : fC st st') (h : MA st' b n p) (g : rch b n x (y, p)) (k : ok y p st') : OU st st' b n x ok := ⟨f, Or.inr ⟨y, p, h, g, k⟩⟩
theorem bad_t {b : Nat → Nat} {n a : Nat} {x y : CS × Nat} (h : stp b n x = some y) (g : bad b n y a) : bad b n x a := bad_s (rch_s h (rch_0 _)) g
theorem m_compW (d : Nat) {st : zS} {b : Nat → Nat} {n a : Nat} (h : WR st b n a) (x1 : Int32) : m_ev none (d + 3) 238 51 [some (.ref 85), some (.int x1)] [] (SH, st) = some (none, (SH, st)) := by
  have e80 : ∀ c : Int32, m_ev none (d + 3) 238 80 [some (.ref 85), some (.int x1)] [.int c, .ref 85] (SH, st) = some (none, (SH, st)) := fun c => by
    rw [eX12_comparison_80, m_wrW (d + 2) h]
    simp only [m_bd, Option.toList, List.cons_append, List.nil_append]
    rw [eX12_comparison_83]
  rw [eX12_comparison_51, m_valW d h]
  simp only [m_bd, Option.toList, List.cons_append, List.nil_append]
  rw [eX12_comparison_55]
  by_cases q : x1 = 60
  · rw [if_pos q, e80]
  rw [if_neg q, eX12_comparison_67]
  by_cases q : x1 = 61
  · rw [if_pos q, e80]
  · rw [if_neg q, eX12_comparison_78, e80]
theorem m_comp (d : Nat) {st : zS} {b : Nat → Nat} {n p : Nat} {M : List Int32} (h : MA st b n p) (hM : MC st M) (hl : M.length ≤ p) {lf sg : Int32} {o : Nat} {W S : List Int32} {R : List (Int32 × Int32 × Int32 × Nat)} {kd dd nm : Int32} (hw : wd (tk b n (fz b n p)) ≠ 14836) (ho : ¬ (((tk b n (fz b n p)).1 = 2 ∧ (tk b n (fz b n p)).2 = 40) ∧ o < 3)) : OUT (m_evc (d + 7) 238 [.ref 85] (SH, st)) st b n ((2, lf, sg, o, W, S, R, kd, dd, nm), p) (fun y p' st' => ∃ lf' sg' A E, y = (5, lf', sg', o, W, S ++ A, R, kd, dd, nm) ∧ MC st' (M ++ E) ∧ E.length + p ≤ p' ∧ den 1 A E) := by
  have hn := h.1.2.1
  have hp := h.2.1
  have g1 := fz_ge b n p
  obtain ⟨v1, v2⟩ := m_val d h hM hl
  have c2 : ct (tk b n (fz b n p)) (2, lf, sg, o, W, S, R, kd, dd, nm) = if opd (tk b n (fz b n p)) < 0 then none else some (3, opd (tk b n (fz b n p)), sg, o, W, S, R, kd, dd, nm) := by
    show (if wd (tk b n (fz b n p)) = 14836 then some (2, lf, sg, o, 3 :: W, S, R, kd, dd, nm) else if ((tk b n (fz b n p)).1 = 2 ∧ (tk b n (fz b n p)).2 = 40) ∧ o < 3 then some (2, lf, sg, o + 1, 0 :: W, S, R, kd, dd, nm) else if opd (tk b n (fz b n p)) < 0 then none else some (3, opd (tk b n (fz b n p)), sg, o, W, S, R, kd, dd, nm)) = _
    rw [if_neg hw, if_neg ho]
  rw [OUT, cal_X12_comparison, eX12_comparison_0]
  by_cases q1 : opd (tk b n (fz b n p)) < 0
  · rw [if_pos q1] at c2
    obtain ⟨s1, e1, f1, w1⟩ := v2 q1
    rw [e1]
    simp only [m_bd, Option.toList, List.cons_append, List.nil_append]
    rw [eX12_comparison_4, w1.2.2.2.2, if_neg i_10, eX12_comparison_23, if_neg (by decide), if_neg (by decide), if_neg (by decide), eX12_comparison_47, eX12_comparison_48, m_needW (d + 5) w1]
    simp only [m_bd, Option.toList, List.cons_append, List.nil_append]
    rw [m_compW (d + 3) w1]
    exact ⟨s1, rfl, OU_w f1 w1 (bad_of c2 (Or.inl (show (2 : Nat) ≠ 0 by decide)))⟩
  rw [if_neg q1] at c2
  have st1 := stp_of c2
  have lt1 := opd_lt q1
  have gt1 := ez_gt (b := b) hn lt1
  obtain ⟨s1, e1, f1, a1, m1⟩ := v1 q1
  rw [e1]
  simp only [m_bd, Option.toList, List.cons_append, List.nil_append]
  generalize ez b n (fz b n p) = p1 at st1 gt1 a1
  have hp1 := a1.2.1
  have g2 := fz_ge b n p1
  have fl2 := fz_le (b := b) hp1
  have k60 : ((if fz b n p1 < n then Int32.ofNat (b (fz b n p1)) else -1) = 60) ↔ ((tk b n (fz b n p1)).1 = 2 ∧ (tk b n (fz b n p1)).2 = 60) := tk_c a1.1 (c := 60) (by omega)
  have k61 : ((if fz b n p1 < n then Int32.ofNat (b (fz b n p1)) else -1) = 61) ↔ ((tk b n (fz b n p1)).1 = 2 ∧ (tk b n (fz b n p1)).2 = 61) := tk_c a1.1 (c := 61) (by omega)
  have k62 : ((if fz b n p1 < n then Int32.ofNat (b (fz b n p1)) else -1) = 62) ↔ ((tk b n (fz b n p1)).1 = 2 ∧ (tk b n (fz b n p1)).2 = 62) := tk_c a1.1 (c := 62) (by omega)
  rw [eX12_comparison_4, a1.2.2.2.2, if_pos rfl, eX12_comparison_15, a1.2.2.1, m_byt (d + 5) a1.1 (by omega)]
  simp only [m_bd, Option.toList, List.cons_append, List.nil_append]
  generalize (if fz b n p1 < n then Int32.ofNat (b (fz b n p1)) else -1) = v at k60 k61 k62
  have c3 : ct (tk b n (fz b n p1)) (3, opd (tk b n (fz b n p)), sg, o, W, S, R, kd, dd, nm) = if csign (tk b n (fz b n p1)) = 0 then none else some (4, opd (tk b n (fz b n p)), csign (tk b n (fz b n p1)), o, W, S, R, kd, dd, nm) := rfl
  have A : m_ev none (d + 6) 238 23 [some (.ref 85), none] [.int v] (SH, s1) = m_ev none (d + 6) 238 48 [some (.ref 85), some (.int v)] [.int (if csign (tk b n (fz b n p1)) = 0 then 0 else 1), .ref 85] (SH, s1) ∧ (csign (tk b n (fz b n p1)) ≠ 0 → (csign (tk b n (fz b n p1)) = 1 ∨ csign (tk b n (fz b n p1)) = 2 ∨ csign (tk b n (fz b n p1)) = 3) ∧ ∀ s : zS, m_ev none (d + 6) 238 55 [some (.ref 85), some (.int v)] [] (SH, s) = m_ev none (d + 6) 238 80 [some (.ref 85), some (.int v)] [.int (cg (csign (tk b n (fz b n p1)))), .ref 85] (SH, s)) := by
    unfold csign
    rw [eX12_comparison_23]
    by_cases z1 : v = 60
    · rw [if_pos z1, if_pos (k60.mp z1), if_neg i_10, eX12_comparison_43]
      refine ⟨rfl, fun _ => ⟨Or.inl rfl, fun s => ?_⟩⟩
      rw [eX12_comparison_55, if_pos z1]; rfl
    rw [if_neg z1, if_neg (fun y => z1 (k60.mpr y))]
    by_cases z2 : v = 61
    · rw [if_pos z2, if_pos (k61.mp z2), if_neg (by decide), eX12_comparison_43]
      refine ⟨rfl, fun _ => ⟨Or.inr (Or.inl rfl), fun s => ?_⟩⟩
      rw [eX12_comparison_55, if_neg z1, eX12_comparison_67, if_pos z2]; rfl
    rw [if_neg z2, if_neg (fun y => z2 (k61.mpr y))]
    by_cases z3 : v = 62
    · rw [if_pos z3, if_pos (k62.mp z3), if_neg (by decide), eX12_comparison_43]
      refine ⟨rfl, fun _ => ⟨Or.inr (Or.inr rfl), fun s => ?_⟩⟩
      rw [eX12_comparison_55, if_neg z1, eX12_comparison_67, if_neg z2, eX12_comparison_78]; rfl
    · rw [if_neg z3, if_neg (fun y => z3 (k62.mpr y)), if_pos rfl, eX12_comparison_47]
      exact ⟨rfl, fun y => absurd rfl y⟩
  rw [A.1, eX12_comparison_48]
  by_cases q2 : csign (tk b n (fz b n p1)) = 0
  · rw [if_pos q2] at c3
    obtain ⟨s2, e2, w2, f2⟩ := m_need0 (d + 5) a1
    rw [if_pos q2, e2]
    simp only [m_bd, Option.toList, List.cons_append, List.nil_append]
    rw [m_compW (d + 3) w2]
    exact ⟨s2, rfl, OU_w (fC_t f1 (fC_T f2)) w2 (bad_t st1 (bad_of c3 (Or.inl (show (3 : Nat) ≠ 0 by decide))))⟩
  rw [if_neg q2] at c3
  have st2 := stp_of c3
  have lt2 : fz b n p1 < n := by
    by_cases z : fz b n p1 < n
    · exact z
    · exact absurd (by rw [tk_end (by omega)]; decide) q2
  have gt2 := ez_gt (b := b) hn lt2
  obtain ⟨s2, e2, a2, f2⟩ := m_need1 (d + 2) a1
  rw [if_neg q2, e2]
  simp only [m_bd, Option.toList, List.cons_append, List.nil_append]
  generalize ez b n (fz b n p1) = p2 at st2 gt2 a2
  have hp2 := a2.2.1
  have g3 := fz_ge b n p2
  have m2 := MC_T m1 f2
  have ml : (M ++ [oc (tk b n (fz b n p))]).length = M.length + 1 := by rw [List.length_append]; rfl
  obtain ⟨v3, v4⟩ := m_val d a2 m2 (by omega)
  have c4 : ct (tk b n (fz b n p2)) (4, opd (tk b n (fz b n p)), csign (tk b n (fz b n p1)), o, W, S, R, kd, dd, nm) = if opd (tk b n (fz b n p2)) < 0 then none else some (5, opd (tk b n (fz b n p)), csign (tk b n (fz b n p1)), o, W, S ++ [cmpr (csign (tk b n (fz b n p1))) (opd (tk b n (fz b n p))) (opd (tk b n (fz b n p2)))], R, kd, dd, nm) := rfl
  rw [eX12_comparison_51]
  by_cases q3 : opd (tk b n (fz b n p2)) < 0
  · rw [if_pos q3] at c4
    obtain ⟨s3, e3, f3, w3⟩ := v4 q3
    rw [e3]
    simp only [m_bd, Option.toList, List.cons_append, List.nil_append]
    rw [(A.2 q2).2, eX12_comparison_80, m_wrW (d + 5) w3]
    simp only [m_bd, Option.toList, List.cons_append, List.nil_append]
    rw [eX12_comparison_83]
    exact ⟨s3, rfl, OU_w (fC_t (fC_t f1 (fC_T f2)) f3) w3 (bad_t st1 (bad_t st2 (bad_of c4 (Or.inl (show (4 : Nat) ≠ 0 by decide)))))⟩
  rw [if_neg q3] at c4
  have st3 := stp_of c4
  have lt3 := opd_lt q3
  have gt3 := ez_gt (b := b) hn lt3
  obtain ⟨s3, e3, f3, a3, m3⟩ := v3 q3
  rw [e3]
  simp only [m_bd, Option.toList, List.cons_append, List.nil_append]
  generalize ez b n (fz b n p2) = p3 at st3 gt3 a3
  have hp3 := a3.2.1
  have ml2 : (M ++ [oc (tk b n (fz b n p))] ++ [oc (tk b n (fz b n p2))]).length = M.length + 2 := by rw [List.length_append, ml]; rfl
  obtain ⟨s4, e4, f4, a4, m4⟩ := m_wr (d + 5) a3 m3 (by omega) (cg (csign (tk b n (fz b n p1))))
  rw [(A.2 q2).2, eX12_comparison_80, e4]
  simp only [m_bd, Option.toList, List.cons_append, List.nil_append]
  rw [eX12_comparison_83]
  refine ⟨s4, rfl, OU_o (fC_t (fC_t (fC_t f1 (fC_T f2)) f3) f4) a4 (rch_s st1 (rch_s st2 (rch_s st3 (rch_0 _)))) ⟨_, _, _, [oc (tk b n (fz b n p)), oc (tk b n (fz b n p2)), cg (csign (tk b n (fz b n p1)))], rfl, ?_, ?_, den_c (A.2 q2).1 q1 q3⟩⟩
  · rw [List.append_assoc, List.append_assoc] at m4; exact m4
  · show 3 + p ≤ p3
    omega
def oneOK (k : Nat) (M : List Int32) (o : Nat) (W S : List Int32) (R : List (Int32 × Int32 × Int32 × Nat)) (kd dd nm : Int32) (c p : Nat) (y : CS) (p' : Nat) (st' : zS) : Prop := ∃ lf' sg' A X E, y = (5, lf', sg', o, X ++ W, S ++ A, R, kd, dd, nm) ∧ (∀ x, x ∈ X → ¬ x < 2) ∧ MC st' (M ++ E) ∧ E.length + p ≤ p' + c ∧ den (2 * k + 1) (A ++ X) E
def pONE (b : Nat → Nat) (n k : Nat) : Prop := ∀ (d : Nat) (st : zS) (p : Nat) (M : List Int32) (lf sg : Int32) (o : Nat) (W S : List Int32) (R : List (Int32 × Int32 × Int32 × Nat)) (kd dd nm : Int32), MA st b n p → MC st M → M.length ≤ p → st 85 21 = Int32.ofNat o → o + k = 3 → OUT (m_evc (d + 4 * k + 10) 239 [.ref 85] (SH, st)) st b n ((2, lf, sg, o, W, S, R, kd, dd, nm), p) (oneOK k M o W S R kd dd nm 0 p)
def hdW (v : Int32) (W : List Int32) : Prop := ∀ x W', W = x :: W' → x < v
def pALL (b : Nat → Nat) (n k : Nat) : Prop := ∀ (d : Nat) (st : zS) (p : Nat) (M : List Int32) (lf sg : Int32) (o : Nat) (W S : List Int32) (R : List (Int32 × Int32 × Int32 × Nat)) (kd dd nm : Int32), MA st b n p → MC st M → M.length ≤ p → st 85 21 = Int32.ofNat o → o + k = 3 → hdW 2 W → OUT (m_evc (d + 4 * k + 11) 240 [.ref 85] (SH, st)) st b n ((2, lf, sg, o, W, S, R, kd, dd, nm), p) (fun y p' st' => ∃ lf' sg' A X E, y = (5, lf', sg', o, X ++ W, S ++ A, R, kd, dd, nm) ∧ (∀ x, x ∈ X → ¬ x < 2) ∧ MC st' (M ++ E) ∧ E.length + p ≤ p' ∧ den (2 * k + 2) (A ++ X) E ∧ wd (tk b n (fz b n p')) ≠ 1476)
def pCOND (b : Nat → Nat) (n k : Nat) : Prop := ∀ (d : Nat) (st : zS) (p : Nat) (M : List Int32) (lf sg : Int32) (o : Nat) (W S : List Int32) (R : List (Int32 × Int32 × Int32 × Nat)) (kd dd nm : Int32), MA st b n p → MC st M → M.length ≤ p → st 85 21 = Int32.ofNat o → o + k = 3 → hdW 1 W → OUT (m_evc (d + 4 * k + 12) 241 [.ref 85] (SH, st)) st b n ((2, lf, sg, o, W, S, R, kd, dd, nm), p) (fun y p' st' => ∃ lf' sg' A X E, y = (5, lf', sg', o, X ++ W, S ++ A, R, kd, dd, nm) ∧ (∀ x, x ∈ X → ¬ x < 1) ∧ MC st' (M ++ E) ∧ E.length + p ≤ p' ∧ den (2 * k + 3) (A ++ X) E ∧ wd (tk b n (fz b n p')) ≠ 1476 ∧ wd (tk b n (fz b n p')) ≠ 498)
theorem awx_X {v : Int32} : ∀ (X W S : List Int32), (∀ x, x ∈ X → ¬ x < v) → hdW v W → awx v (X ++ W) S = (W, S ++ X)
  | [], [], S, _, _ => by
    show ([], S) = ([], S ++ [])
    rw [List.append_nil]
  | [], w :: W, S, _, h => by
    show (if w < v then (w :: W, S) else awx v W (S ++ [w])) = _
    rw [if_pos (h w W rfl), List.append_nil]
  | x :: X, W, S, hX, h => by
    show (if x < v then (x :: (X ++ W), S) else awx v (X ++ W) (S ++ [x])) = _
    rw [if_neg (hX x (by simp)), awx_X X W (S ++ [x]) (fun y hy => hX y (by simp [hy])) h, List.append_assoc]
    rfl
theorem condW (d : Nat) {st : zS} {b : Nat → Nat} {n a : Nat} (h : WR st b n a) : m_evc (d + 1) 241 [.ref 85] (SH, st) = some (none, (SH, st)) := by
  rw [cal_X12_condition, eX12_condition_0, h.2.2.2.2, if_neg i_10]
theorem fC_21 {s1 s2 : zS} {v w : Int32} (h : fC (m_up s1 85 21 v) s2) (hw : s1 85 21 = w) : fC s1 (m_up s2 85 21 w) := by
  obtain ⟨f, g, k⟩ := h
  refine ⟨fr_up (fr_mono (fr_tr (fr_up0 s1 85 21 v) f) (by decide)) rfl, fun j h1 h2 h3 h4 h5 => ?_, fun j hj => ?_⟩
  · by_cases z : j = 21
    · subst z; rw [up_in, hw]
    · rw [up_nj z, g j h1 h2 h3 h4 h5, up_nj z]
  · rw [up_ne (by decide), k j hj, up_ne (by decide)]
theorem fC_a {s1 s2 : zS} (h : fC s1 s2) : s2 85 21 = s1 85 21 := h.2.1 21 (by decide) (by decide) (by decide) (by decide) (by decide)
theorem nots_2 : ∀ j x, x ∈ nots j → ¬ x < 2
  | 0, x, h => by cases h
  | j + 1, x, h => by
    have h : x ∈ 3 :: nots j := h
    rcases List.mem_cons.mp h with rfl | h
    · decide
    · exact nots_2 j x h
