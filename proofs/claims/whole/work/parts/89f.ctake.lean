/-! THE TAPE IN THE CLASS: every token, in every state -/
theorem fdx_1 (c : Nat) (x : Nat) : fdx [c] 0 x = if x = c then 0 else -1 := rfl
theorem NL_k : NL 0 = NK := rfl
theorem x_kind (d : Nat) {st : zS} {b : Nat → Nat} {n a : Nat} (hT : TQ st b n a) {lf sg : Int32} {o : Nat} {W S : List Int32} {R : List (Int32 × Int32 × Int32 × Nat)} {kd dd nm : Int32} (hX : HX st (0, lf, sg, o, W, S, R, kd, dd, nm)) (hL : LI 199 (0, lf, sg, o, W, S, R, kd, dd, nm)) : TKN (m_evc (d + 8) 42 [.ref 35] (SH, st)) st (ct (tk b n a) (0, lf, sg, o, W, S, R, kd, dd, nm)) := by
  obtain ⟨x1, x2, x3, hC, x5, x6⟩ := hX
  obtain ⟨l1, l2, l3, l4⟩ := hL
  have e : m_evc (d + 7) 59 [.ref 35, .ref 1000000] (SH, st) = some (some (.int (fdx NK 0 (wd (tk b n a)))), (SH, st)) := x_place d (J := 0) (by omega) hT
  rw [cal_X6_takesKind, eX6_takesKind_0, e]
  simp only [m_bd, Option.toList, List.cons_append, List.nil_append]
  rw [eX6_takesKind_6, hC.2.2.2.1]
  show TKN _ st (if fdx NK 0 (wd (tk b n a)) < 0 ∨ 8 ≤ R.length then none else some (1, lf, sg, o, W, S, R, fdx NK 0 (wd (tk b n a)), dd, 0))
  generalize fdx NK 0 (wd (tk b n a)) = kd'
  by_cases h1 : kd' < 0
  · rw [if_pos h1, eX6_takesKind_23, if_pos (Or.inl h1)]
    exact ⟨st, rfl, KP_0 st⟩
  rw [if_neg h1]
  by_cases h3 : R.length < 8
  · rw [if_pos (by rw [show (8 : Int32) = Int32.ofNat 8 from rfl, n_lt (by omega) (by omega)]; exact h3), if_neg (by rintro (z | z); exact h1 z; omega), eX6_takesKind_25, hC.2.2.2.1, ix_8 h3, ob_s, ob_s]
    refine ⟨_, rfl, KP_35 (KP_n (KP_n (KP_0 st) rfl _ _) rfl _ _) (by decide) _, up_in _ _ _ _, ?_, ?_, ?_, fun _ => ⟨?_, ?_⟩, fun z => absurd z (by decide)⟩
    · rw [up_nj (by decide), up_ne (by decide), up_ne (by decide)]; exact x2
    · rw [up_nj (by decide), up_ne (by decide), up_ne (by decide)]; exact x3
    · refine HC_35 (HC_e hC (by rw [up_ne (by decide), up_ne (by decide)]) (by rw [up_ne (by decide), up_ne (by decide)]) (by rw [up_ne (by decide), up_ne (by decide)]) (by rw [up_ne (by decide), up_ne (by decide)]) (by rw [up_ne (by decide), up_ne (by decide)]) fun r hr => ⟨by rw [up_ne (by decide), up_nj (by omega)], by rw [up_ne (by decide), up_ne (by decide)], by rw [up_nj (by omega), up_ne (by decide)], by rw [up_ne (by decide), up_ne (by decide)]⟩) (by decide) _
    · rw [up_ne (by decide), up_ne (by decide), up_in]
    · rw [up_ne (by decide), up_in]
  · rw [if_neg (by rw [show (8 : Int32) = Int32.ofNat 8 from rfl, n_lt (by omega) (by omega)]; exact h3), eX6_takesKind_23, if_pos (Or.inr (by omega))]
    exact ⟨st, rfl, KP_0 st⟩
theorem x_if (d : Nat) {st : zS} {b : Nat → Nat} {n a : Nat} (hT : TQ st b n a) : m_evc (d + 8) 43 [.ref 35] (SH, st) = some (some (.int (if wd (tk b n a) = 294 then 1 else 0)), (SH, if wd (tk b n a) = 294 then m_up st 35 7 2 else st)) := by
  have e : m_evc (d + 7) 59 [.ref 35, .ref 1000001] (SH, st) = some (some (.int (if wd (tk b n a) = 294 then 0 else -1)), (SH, st)) := x_place d (J := 1) (by omega) hT
  rw [cal_X6_takesIf, eX6_takesIf_0, e]
  simp only [m_bd, Option.toList, List.cons_append, List.nil_append]
  rw [eX6_takesIf_8]
  by_cases h : wd (tk b n a) = 294
  · rw [if_pos (by rw [if_pos h]), eX6_takesIf_16]
    have g := x_goes (d + 6) st 2 (wd (tk b n a) = 294)
    rw [if_pos h, if_pos h] at g
    rw [g]
    simp only [m_bd, Option.toList, List.cons_append, List.nil_append]
    rw [eX6_takesIf_19, if_pos (Or.inr rfl), if_pos h, if_pos h]
  · rw [if_neg (by rw [if_neg h]; decide), eX6_takesIf_15, eX6_takesIf_16]
    have g := x_goes (d + 6) st 2 (wd (tk b n a) = 294)
    rw [if_neg h, if_neg h] at g
    rw [g]
    simp only [m_bd, Option.toList, List.cons_append, List.nil_append]
    rw [eX6_takesIf_19, if_pos (Or.inl rfl), if_neg h, if_neg h]
theorem ec41 (x : Nat) (hx : x ≤ 7) : m_case (Int32.ofNat x) [[0, 48], [1, 53], [2, 73], [3, 100], [4, 105], [5, 110], [6, 137]] 142 = if x = 0 then 48 else if x = 1 then 53 else if x = 2 then 73 else if x = 3 then 100 else if x = 4 then 105 else if x = 5 then 110 else if x = 6 then 137 else 142 := by
  have : x = 0 ∨ x = 1 ∨ x = 2 ∨ x = 3 ∨ x = 4 ∨ x = 5 ∨ x = 6 ∨ x = 7 := by omega
  rcases this with rfl | rfl | rfl | rfl | rfl | rfl | rfl | rfl <;> rfl
theorem TKN_then {m : Option mF} {st : zS} {c : Option CS} {f : Option Value → mH → Option mF} (h : TKN m st c) (h0 : ∀ s, f (some (.int 0)) (SH, s) = some (some (.int 0), (SH, s))) (h1 : ∀ s, f (some (.int 1)) (SH, s) = some (some (.int 1), (SH, s))) : TKN (m_bd m f) st c := by
  cases c with
  | none =>
    obtain ⟨s, e, k⟩ := h
    rw [e]
    exact ⟨s, h0 s, k⟩
  | some y =>
    obtain ⟨s, e, k⟩ := h
    rw [e]
    exact ⟨s, h1 s, k⟩
theorem x_left (d : Nat) {st : zS} {b : Nat → Nat} {n a : Nat} (hT : TQ st b n a) {lf sg : Int32} {o : Nat} {W S : List Int32} {R : List (Int32 × Int32 × Int32 × Nat)} {kd dd nm : Int32} (hX : HX st (2, lf, sg, o, W, S, R, kd, dd, nm)) : TKN (m_evc (d + 9) 47 [.ref 35] (SH, st)) st (if opd (tk b n a) < 0 then none else some (3, opd (tk b n a), sg, o, W, S, R, kd, dd, nm)) := by
  obtain ⟨x1, x2, x3, hC, x5, x6⟩ := hX
  rw [cal_X6_takesLeft, eX6_takesLeft_0, x_operand d hT]
  simp only [m_bd, Option.toList, List.cons_append, List.nil_append]
  rw [eX6_takesLeft_5]
  generalize opd (tk b n a) = v
  have g := x_goes (d + 7) (m_up st 35 8 v) 3 (0 ≤ v)
  by_cases h : v < 0
  · rw [if_neg (by rw [i_le]; rw [i_lt] at h; omega), if_neg (by rw [i_le]; rw [i_lt] at h; omega)] at g
    rw [if_pos h, if_pos h, eX6_takesLeft_21, eX6_takesLeft_22, g]
    simp only [m_bd, Option.toList, List.cons_append, List.nil_append]
    rw [eX6_takesLeft_25, if_pos (Or.inl rfl)]
    exact ⟨_, rfl, KP_35 (KP_0 st) (by decide) _⟩
  · rw [if_pos (by rw [i_le]; rw [i_lt] at h; omega), if_pos (by rw [i_le]; rw [i_lt] at h; omega)] at g
    rw [if_neg h, if_neg h, eX6_takesLeft_22, g]
    simp only [m_bd, Option.toList, List.cons_append, List.nil_append]
    rw [eX6_takesLeft_25, if_pos (Or.inr rfl)]
    refine ⟨_, rfl, KP_35 (KP_35 (KP_0 st) (by decide) _) (by decide) _, up_in _ _ _ _, ?_, ?_, HC_35 (HC_35 hC (by decide) _) (by decide) _, fun _ => ?_, fun z => absurd z (by decide)⟩
    · rw [up_nj (by decide), up_in]
    · rw [up_nj (by decide), up_nj (by decide)]; exact x3
    · rw [up_ne (by decide), up_ne (by decide), up_ne (by decide), up_ne (by decide)]; exact x5 (by decide)
theorem x_not (d : Nat) {st : zS} {b : Nat → Nat} {n a : Nat} (hT : TQ st b n a) {lf sg : Int32} {o : Nat} {W S : List Int32} {R : List (Int32 × Int32 × Int32 × Nat)} {kd dd nm : Int32} (hX : HX st (2, lf, sg, o, W, S, R, kd, dd, nm)) (hL : LI 199 (2, lf, sg, o, W, S, R, kd, dd, nm)) : (wd (tk b n a) = 14836 → TKN (m_evc (d + 8) 45 [.ref 35] (SH, st)) st (some (2, lf, sg, o, 3 :: W, S, R, kd, dd, nm))) ∧ (wd (tk b n a) ≠ 14836 → m_evc (d + 8) 45 [.ref 35] (SH, st) = some (some (.int 0), (SH, st))) := by
  obtain ⟨x1, x2, x3, hC, x5, x6⟩ := hX
  obtain ⟨l1, l2, l3, l4⟩ := hL
  have e : m_evc (d + 7) 59 [.ref 35, .ref 1000003] (SH, st) = some (some (.int (if wd (tk b n a) = 14836 then 0 else -1)), (SH, st)) := x_place d (J := 3) (by omega) hT
  rw [cal_X6_takesNot, eX6_takesNot_0, e]
  simp only [m_bd, Option.toList, List.cons_append, List.nil_append]
  rw [eX6_takesNot_6]
  constructor
  · intro h
    obtain ⟨s, e1, c1, f1, g1⟩ := x_await (d + 6) hC (by omega) 3
    rw [if_pos (by rw [if_pos h]), eX6_takesNot_11, e1]
    simp only [m_bd, Option.toList, List.cons_append, List.nil_append]
    rw [eX6_takesNot_16]
    refine ⟨s, rfl, KP_f (fr_mono f1 (by decide)) g1, (g1 7 (by decide)).trans x1, (g1 8 (by decide)).trans x2, (g1 9 (by decide)).trans x3, c1, fun z => ?_, fun z => absurd z (by decide)⟩
    rw [f1 38 rfl, f1 40 rfl]; exact x5 z
  · intro h
    rw [if_neg (by rw [if_neg h]; decide)]
theorem x_open (d : Nat) {st : zS} {b : Nat → Nat} {n a : Nat} (hT : TQ st b n a) {lf sg : Int32} {o : Nat} {W S : List Int32} {R : List (Int32 × Int32 × Int32 × Nat)} {kd dd nm : Int32} (hX : HX st (2, lf, sg, o, W, S, R, kd, dd, nm)) (hL : LI 199 (2, lf, sg, o, W, S, R, kd, dd, nm)) : (((tk b n a).1 = 2 ∧ (tk b n a).2 = 40) ∧ o < 3 → TKN (m_evc (d + 3) 46 [.ref 35] (SH, st)) st (some (2, lf, sg, o + 1, 0 :: W, S, R, kd, dd, nm))) ∧ (¬ (((tk b n a).1 = 2 ∧ (tk b n a).2 = 40) ∧ o < 3) → m_evc (d + 3) 46 [.ref 35] (SH, st) = some (some (.int 0), (SH, st))) := by
  obtain ⟨x1, x2, x3, hC, x5, x6⟩ := hX
  obtain ⟨l1, l2, l3, l4⟩ := hL
  have e : m_evc (d + 2) 55 [.ref 35, .int 40] (SH, st) = some (some (.int (bZ ((tk b n a).1 = 2 ∧ (tk b n a).2 = 40))), (SH, st)) := x_single (d + 1) (c := 40) hT (by omega)
  rw [cal_X6_takesOpening, eX6_takesOpening_0, e]
  simp only [m_bd, Option.toList, List.cons_append, List.nil_append]
  rw [eX6_takesOpening_6, bZ_if, hC.1]
  constructor
  · rintro ⟨h, h2⟩
    obtain ⟨s, e1, c1, f1, g1⟩ := x_await (d + 1) (HC_o hC (o + 1)) (by omega) 0
    rw [if_pos h, if_pos (by rw [show (3 : Int32) = Int32.ofNat 3 from rfl, n_lt (by omega) (by omega)]; exact h2), eX6_takesOpening_19, hC.1, n_succ, e1]
    simp only [m_bd, Option.toList, List.cons_append, List.nil_append]
    rw [eX6_takesOpening_34]
    refine ⟨s, rfl, KP_t (KP_35 (KP_0 st) (by decide) _) (KP_f (fr_mono f1 (by decide)) g1), ?_, ?_, ?_, c1, fun z => ?_, fun z => absurd z (by decide)⟩
    · rw [g1 7 (by decide), up_nj (by decide)]; exact x1
    · rw [g1 8 (by decide), up_nj (by decide)]; exact x2
    · rw [g1 9 (by decide), up_nj (by decide)]; exact x3
    · rw [f1 38 rfl, f1 40 rfl, up_ne (by decide), up_ne (by decide)]; exact x5 z
  · intro h
    by_cases h1 : (tk b n a).1 = 2 ∧ (tk b n a).2 = 40
    · rw [if_pos h1, if_neg (by rw [show (3 : Int32) = Int32.ofNat 3 from rfl, n_lt (by omega) (by omega)]; exact fun z => h ⟨h1, z⟩), eX6_takesOpening_17]
    · rw [if_neg h1, eX6_takesOpening_17]
theorem x_sign (d : Nat) {st : zS} {b : Nat → Nat} {n a : Nat} (hT : TQ st b n a) {lf sg : Int32} {o : Nat} {W S : List Int32} {R : List (Int32 × Int32 × Int32 × Nat)} {kd dd nm : Int32} (hX : HX st (3, lf, sg, o, W, S, R, kd, dd, nm)) : TKN (m_evc (d + 3) 48 [.ref 35] (SH, st)) st (ct (tk b n a) (3, lf, sg, o, W, S, R, kd, dd, nm)) := by
  obtain ⟨x1, x2, x3, hC, x5, x6⟩ := hX
  have e1 : m_evc (d + 2) 55 [.ref 35, .int 60] (SH, st) = some (some (.int (bZ ((tk b n a).1 = 2 ∧ (tk b n a).2 = 60))), (SH, st)) := x_single (d + 1) (c := 60) hT (by omega)
  have e2 : m_evc (d + 2) 55 [.ref 35, .int 61] (SH, st) = some (some (.int (bZ ((tk b n a).1 = 2 ∧ (tk b n a).2 = 61))), (SH, st)) := x_single (d + 1) (c := 61) hT (by omega)
  have e3 : m_evc (d + 2) 55 [.ref 35, .int 62] (SH, st) = some (some (.int (bZ ((tk b n a).1 = 2 ∧ (tk b n a).2 = 62))), (SH, st)) := x_single (d + 1) (c := 62) hT (by omega)
  have A : m_evc (d + 3) 48 [.ref 35] (SH, st) = m_ev none (d + 2) 48 41 [some (.ref 35)] [.int (csign (tk b n a)), .ref 35] (SH, st) := by
    rw [cal_X6_takesSign, eX6_takesSign_0, e1]
    simp only [m_bd, Option.toList, List.cons_append, List.nil_append]
    rw [eX6_takesSign_7, bZ_if]
    unfold csign
    by_cases h1 : (tk b n a).1 = 2 ∧ (tk b n a).2 = 60
    · rw [if_pos h1, if_pos h1]
    rw [if_neg h1, if_neg h1, eX6_takesSign_14, e2]
    simp only [m_bd, Option.toList, List.cons_append, List.nil_append]
    rw [eX6_takesSign_20, bZ_if]
    by_cases h2 : (tk b n a).1 = 2 ∧ (tk b n a).2 = 61
    · rw [if_pos h2, if_pos h2]
    rw [if_neg h2, if_neg h2, eX6_takesSign_27, e3]
    simp only [m_bd, Option.toList, List.cons_append, List.nil_append]
    rw [eX6_takesSign_33, bZ_if]
    by_cases h3 : (tk b n a).1 = 2 ∧ (tk b n a).2 = 62
    · rw [if_pos h3, if_pos h3]
    · rw [if_neg h3, if_neg h3, eX6_takesSign_40]
  rw [A, eX6_takesSign_41]
  show TKN _ st (if csign (tk b n a) = 0 then none else some (4, lf, csign (tk b n a), o, W, S, R, kd, dd, nm))
  generalize csign (tk b n a) = v
  have g := x_goes (d + 1) (m_up st 35 9 v) 4 (¬ v = 0)
  by_cases h : v = 0
  · rw [if_neg (fun z => z h), if_neg (fun z => z h)] at g
    rw [if_pos h, if_pos h, eX6_takesSign_57, eX6_takesSign_58, g]
    simp only [m_bd, Option.toList, List.cons_append, List.nil_append]
    rw [eX6_takesSign_61, if_pos (Or.inl rfl)]
    exact ⟨_, rfl, KP_35 (KP_0 st) (by decide) _⟩
  · rw [if_pos h, if_pos h] at g
    rw [if_neg h, if_neg h, eX6_takesSign_58, g]
    simp only [m_bd, Option.toList, List.cons_append, List.nil_append]
    rw [eX6_takesSign_61, if_pos (Or.inr rfl)]
    refine ⟨_, rfl, KP_35 (KP_35 (KP_0 st) (by decide) _) (by decide) _, up_in _ _ _ _, ?_, ?_, HC_35 (HC_35 hC (by decide) _) (by decide) _, fun _ => ?_, fun z => absurd z (by decide)⟩
    · rw [up_nj (by decide), up_nj (by decide)]; exact x2
    · rw [up_nj (by decide), up_in]
    · rw [up_ne (by decide), up_ne (by decide), up_ne (by decide), up_ne (by decide)]; exact x5 (by decide)
theorem x_right (d : Nat) {st : zS} {b : Nat → Nat} {n a : Nat} (hT : TQ st b n a) {lf sg : Int32} {o : Nat} {W S : List Int32} {R : List (Int32 × Int32 × Int32 × Nat)} {kd dd nm : Int32} (hX : HX st (4, lf, sg, o, W, S, R, kd, dd, nm)) (hL : LI 199 (4, lf, sg, o, W, S, R, kd, dd, nm)) : TKN (m_evc (d + 9) 49 [.ref 35] (SH, st)) st (ct (tk b n a) (4, lf, sg, o, W, S, R, kd, dd, nm)) := by
  obtain ⟨x1, x2, x3, hC, x5, x6⟩ := hX
  obtain ⟨l1, l2, l3, l4⟩ := hL
  rw [cal_X6_takesRight, eX6_takesRight_0, x_operand d hT]
  simp only [m_bd, Option.toList, List.cons_append, List.nil_append]
  rw [eX6_takesRight_4]
  show TKN _ st (if opd (tk b n a) < 0 then none else some (5, lf, sg, o, W, S ++ [cmpr sg lf (opd (tk b n a))], R, kd, dd, nm))
  generalize opd (tk b n a) = v
  by_cases h : v < 0
  · rw [if_pos h, if_pos h]
    exact ⟨_, rfl, KP_0 st⟩
  · have ec : m_evc (d + 8) 28 [.int sg, .int lf, .int v] (SH, st) = some (some (.int (cmpr sg lf v)), (SH, st)) := by rw [cal_X5_comparing, eX5_comparing_0]; rfl
    obtain ⟨s, e1, c1, f1⟩ := x_addS (d + 7) hC (by omega) (cmpr sg lf v)
    rw [if_neg h, if_neg h, eX6_takesRight_11, x2, x3, ec]
    simp only [m_bd, Option.toList, List.cons_append, List.nil_append]
    rw [eX6_takesRight_27, e1]
    simp only [m_bd, Option.toList, List.cons_append, List.nil_append]
    rw [eX6_takesRight_30]
    have f35 : s 35 = st 35 := f1 35 rfl
    refine ⟨_, rfl, KP_35 (KP_f (fr_mono f1 (by decide)) fun j _ => by rw [f35]) (by decide) _, up_in _ _ _ _, ?_, ?_, HC_35 c1 (by decide) _, fun _ => ?_, fun z => absurd z (by decide)⟩
    · rw [up_nj (by decide), f35]; exact x2
    · rw [up_nj (by decide), f35]; exact x3
    · rw [up_ne (by decide), up_ne (by decide), f1 38 rfl, f1 40 rfl]; exact x5 (by decide)
theorem x_joint (d : Nat) {st : zS} {b : Nat → Nat} {n a : Nat} (hT : TQ st b n a) {lf sg : Int32} {o : Nat} {W S : List Int32} {R : List (Int32 × Int32 × Int32 × Nat)} {kd dd nm : Int32} (hX : HX st (5, lf, sg, o, W, S, R, kd, dd, nm)) (hL : LI 199 (5, lf, sg, o, W, S, R, kd, dd, nm)) : (wd (tk b n a) = 498 → TKN (m_evc (d + 8) 50 [.ref 35] (SH, st)) st (some (2, lf, sg, o, 1 :: (awx 1 W S).1, (awx 1 W S).2, R, kd, dd, nm))) ∧ (wd (tk b n a) = 1476 → TKN (m_evc (d + 8) 50 [.ref 35] (SH, st)) st (some (2, lf, sg, o, 2 :: (awx 2 W S).1, (awx 2 W S).2, R, kd, dd, nm))) ∧ (wd (tk b n a) ≠ 498 → wd (tk b n a) ≠ 1476 → m_evc (d + 8) 50 [.ref 35] (SH, st) = some (some (.int 0), (SH, st))) := by
  obtain ⟨x1, x2, x3, hC, x5, x6⟩ := hX
  obtain ⟨l1, l2, l3, l4⟩ := hL
  have e : m_evc (d + 7) 59 [.ref 35, .ref 1000005] (SH, st) = some (some (.int (if wd (tk b n a) = 498 then 0 else if wd (tk b n a) = 1476 then 1 else -1)), (SH, st)) := x_place d (J := 5) (by omega) hT
  have go : ∀ v : Int32, TKN (m_ev none (d + 7) 50 21 [some (.ref 35), some (.int v)] [] (SH, st)) st (some (2, lf, sg, o, v :: (awx v W S).1, (awx v W S).2, R, kd, dd, nm)) := by
    intro v
    have al := awx_len v W S
    obtain ⟨s1, e1, c1, f1, g1⟩ := x_addC (d + 5) v hC (by omega)
    obtain ⟨s2, e2, c2, f2, g2⟩ := x_await (d + 6) c1 (by omega) v
    rw [eX6_takesJoint_21, e1]
    simp only [m_bd, Option.toList, List.cons_append, List.nil_append]
    rw [eX6_takesJoint_26, e2]
    simp only [m_bd, Option.toList, List.cons_append, List.nil_append]
    rw [eX6_takesJoint_31]
    refine ⟨_, rfl, KP_35 (KP_t (KP_f (fr_mono f1 (by decide)) g1) (KP_f (fr_mono f2 (by decide)) g2)) (by decide) _, up_in _ _ _ _, ?_, ?_, HC_35 c2 (by decide) _, fun _ => ?_, fun z => absurd z (by decide)⟩
    · rw [up_nj (by decide), g2 8 (by decide), g1 8 (by decide)]; exact x2
    · rw [up_nj (by decide), g2 9 (by decide), g1 9 (by decide)]; exact x3
    · rw [up_ne (by decide), up_ne (by decide), f2 38 rfl, f2 40 rfl, f1 38 rfl, f1 40 rfl]; exact x5 (by decide)
  rw [cal_X6_takesJoint, eX6_takesJoint_0, e]
  simp only [m_bd, Option.toList, List.cons_append, List.nil_append]
  rw [eX6_takesJoint_6]
  refine ⟨fun h => ?_, fun h => ?_, fun h h2 => ?_⟩
  · rw [if_pos h, if_pos (by decide)]
    exact go 1
  · rw [if_neg (show ¬ wd (tk b n a) = 498 by omega), if_pos h, if_neg (by decide), if_pos (by decide)]
    exact go 2
  · rw [if_neg h, if_neg h2, if_neg (by decide), if_neg (by decide)]
theorem x_clos (d : Nat) {st : zS} {b : Nat → Nat} {n a : Nat} (hT : TQ st b n a) {lf sg : Int32} {o : Nat} {W S : List Int32} {R : List (Int32 × Int32 × Int32 × Nat)} {kd dd nm : Int32} (hX : HX st (5, lf, sg, o, W, S, R, kd, dd, nm)) (hL : LI 199 (5, lf, sg, o, W, S, R, kd, dd, nm)) : (((tk b n a).1 = 2 ∧ (tk b n a).2 = 41) ∧ 0 < o → TKN (m_evc (d + 4) 51 [.ref 35] (SH, st)) st (some (5, lf, sg, o - 1, (awx 1 W S).1.tail, (awx 1 W S).2, R, kd, dd, nm))) ∧ (¬ (((tk b n a).1 = 2 ∧ (tk b n a).2 = 41) ∧ 0 < o) → m_evc (d + 4) 51 [.ref 35] (SH, st) = some (some (.int 0), (SH, st))) := by
  obtain ⟨x1, x2, x3, hC, x5, x6⟩ := hX
  obtain ⟨l1, l2, l3, l4⟩ := hL
  have e : m_evc (d + 3) 55 [.ref 35, .int 41] (SH, st) = some (some (.int (bZ ((tk b n a).1 = 2 ∧ (tk b n a).2 = 41))), (SH, st)) := x_single (d + 2) (c := 41) hT (by omega)
  rw [cal_X6_takesClosing, eX6_takesClosing_0, e]
  simp only [m_bd, Option.toList, List.cons_append, List.nil_append]
  rw [eX6_takesClosing_6, bZ_if, hC.1]
  constructor
  · rintro ⟨h, h2⟩
    obtain ⟨q, rfl⟩ : ∃ q, o = q + 1 := ⟨o - 1, by omega⟩
    have al := awx_len 1 W S
    obtain ⟨s1, e1, c1, f1, g1⟩ := x_addC (d + 1) 1 (HC_o hC q) (by omega)
    rw [if_pos h, if_neg (by rw [show (0 : Int32) = Int32.ofNat 0 from rfl, n_eq (by omega) (by omega)]; omega), eX6_takesClosing_18, hC.1, n_pred, e1]
    simp only [m_bd, Option.toList, List.cons_append, List.nil_append]
    rw [eX6_takesClosing_33, c1.2.1, show q + 1 - 1 = q by omega]
    have K1 : KP st s1 := KP_t (KP_35 (KP_0 st) (by decide) _) (KP_f (fr_mono f1 (by decide)) g1)
    have r7 : s1 35 7 = Int32.ofNat 5 := by rw [g1 7 (by decide), up_nj (by decide)]; exact x1
    have r8 : s1 35 8 = lf := by rw [g1 8 (by decide), up_nj (by decide)]; exact x2
    have r9 : s1 35 9 = sg := by rw [g1 9 (by decide), up_nj (by decide)]; exact x3
    have r38 : s1 38 R.length = kd ∧ s1 40 R.length = nm := by rw [f1 38 rfl, f1 40 rfl, up_ne (by decide), up_ne (by decide)]; exact x5 (by decide)
    generalize (awx 1 W S).2 = S1 at c1 al ⊢
    generalize (awx 1 W S).1 = W1 at c1 al ⊢
    cases W1 with
    | nil =>
      rw [if_neg (by decide), eX6_takesClosing_50]
      exact ⟨s1, rfl, K1, r7, r8, r9, c1, fun _ => r38, fun z => absurd z (by decide)⟩
    | cons x W1 =>
      simp only [List.length_cons] at al ⊢
      rw [if_pos (by rw [show (0 : Int32) = Int32.ofNat 0 from rfl, n_lt (by omega) (by omega)]; omega), n_pred, eX6_takesClosing_50]
      refine ⟨_, rfl, KP_35 K1 (by decide) _, ?_, ?_, ?_, HC_pop c1, fun _ => ?_, fun z => absurd z (by decide)⟩
      · rw [up_nj (by decide)]; exact r7
      · rw [up_nj (by decide)]; exact r8
      · rw [up_nj (by decide)]; exact r9
      · rw [up_ne (by decide), up_ne (by decide)]; exact r38
  · intro h
    by_cases h1 : (tk b n a).1 = 2 ∧ (tk b n a).2 = 41
    · rw [if_pos h1, if_pos (by rw [show (0 : Int32) = Int32.ofNat 0 from rfl, n_eq (by omega) (by omega)]; by_cases z : o = 0; exact z; exact absurd ⟨h1, by omega⟩ h), eX6_takesClosing_16]
    · rw [if_neg h1, eX6_takesClosing_16]
theorem x_num (d : Nat) {st : zS} {b : Nat → Nat} {n a : Nat} (hT : TQ st b n a) {lf sg : Int32} {o : Nat} {W S : List Int32} {R : List (Int32 × Int32 × Int32 × Nat)} {kd dd nm : Int32} (hX : HX st (6, lf, sg, o, W, S, R, kd, dd, nm)) (hL : LI 199 (6, lf, sg, o, W, S, R, kd, dd, nm)) : TKN (m_evc (d + 1) 52 [.ref 35] (SH, st)) st (ct (tk b n a) (6, lf, sg, o, W, S, R, kd, dd, nm)) := by
  obtain ⟨x1, x2, x3, hC, x5, x6⟩ := hX
  obtain ⟨l1, l2, l3, l4⟩ := hL
  have t4 := tk_s (b := b) (n := n) (a := a)
  show TKN _ st (if (tk b n a).1 = 1 ∧ R.length < 8 ∧ ¬ (if dd = 2 then 9 else 99) < (tk b n a).2 then some (7, lf, sg, o, W, S, R, kd, dd, Int32.ofNat (tk b n a).2) else none)
  rw [cal_X6_takesN, eX6_takesN_0, hT.2.2.2.2.1, hC.2.2.2.1]
  by_cases h1 : (tk b n a).1 = 1
  · have v9 := tk_9999 h1
    rw [if_pos (by rw [h1]; rfl)]
    by_cases h2 : R.length < 8
    · rw [if_pos (by rw [show (8 : Int32) = Int32.ofNat 8 from rfl, n_lt (by omega) (by omega)]; exact h2), eX6_takesN_22, hC.2.2.2.1, ix_8 h2, ob_s, x6 (by omega), hT.2.2.2.2.2.1 h1]
      have A : (if dd = 2 then m_ev none d 52 52 [some (.ref 35)] [.int 9, .int (Int32.ofNat (tk b n a).2)] (SH, st) else m_ev none d 52 50 [some (.ref 35)] [.int (Int32.ofNat (tk b n a).2)] (SH, st)) = m_ev none d 52 52 [some (.ref 35)] [.int (Int32.ofNat (if dd = 2 then 9 else 99)), .int (Int32.ofNat (tk b n a).2)] (SH, st) := by
        by_cases z : dd = 2
        · rw [if_pos z, if_pos z]; rfl
        · rw [if_neg z, if_neg z, eX6_takesN_50]; rfl
      rw [A, eX6_takesN_52]
      have h99 : (if dd = 2 then 9 else 99 : Nat) ≤ 99 := by split <;> omega
      generalize (if dd = 2 then 9 else 99 : Nat) = hi at h99 ⊢
      by_cases h3 : hi < (tk b n a).2
      · rw [if_pos (by rw [n_lt (by omega) (by omega)]; exact h3), if_neg (fun z => z.2.2 h3)]
        exact ⟨st, rfl, KP_0 st⟩
      · rw [if_neg (by rw [n_lt (by omega) (by omega)]; exact h3), if_pos ⟨h1, h2, h3⟩, eX6_takesN_57, hC.2.2.2.1, ix_8 h2, ob_s, hT.2.2.2.2.2.1 h1]
        refine ⟨_, rfl, KP_35 (KP_n (KP_0 st) rfl _ _) (by decide) _, up_in _ _ _ _, ?_, ?_, HC_35 (HC_e hC (by rw [up_ne (by decide)]) (by rw [up_ne (by decide)]) (up_ne (by decide)) (up_ne (by decide)) (up_ne (by decide)) fun r hr => ⟨by rw [up_ne (by decide)], by rw [up_ne (by decide)], by rw [up_nj (by omega)], by rw [up_ne (by decide)]⟩) (by decide) _, fun _ => ⟨?_, ?_⟩, fun _ => ?_⟩
        · rw [up_nj (by decide), up_ne (by decide)]; exact x2
        · rw [up_nj (by decide), up_ne (by decide)]; exact x3
        · rw [up_ne (by decide), up_ne (by decide)]; exact (x5 (by decide)).1
        · rw [up_ne (by decide), up_in]
        · rw [up_ne (by decide), up_ne (by decide)]; exact x6 (by omega)
    · rw [if_neg (by rw [show (8 : Int32) = Int32.ofNat 8 from rfl, n_lt (by omega) (by omega)]; exact h2), eX6_takesN_20, if_neg (fun z => h2 z.2.1)]
      exact ⟨st, rfl, KP_0 st⟩
  · rw [if_neg (by rw [show (1 : Int32) = Int32.ofNat 1 from rfl, n_eq (by omega) (by omega)]; exact h1), eX6_takesN_20, if_neg (fun z => h1 z.1)]
    exact ⟨st, rfl, KP_0 st⟩
theorem x_semi (d : Nat) {st : zS} {b : Nat → Nat} {n a : Nat} (hT : TQ st b n a) {lf sg : Int32} {o : Nat} {W S : List Int32} {R : List (Int32 × Int32 × Int32 × Nat)} {kd dd nm : Int32} (hX : HX st (7, lf, sg, o, W, S, R, kd, dd, nm)) (hL : LI 199 (7, lf, sg, o, W, S, R, kd, dd, nm)) : TKN (m_evc (d + 2) 53 [.ref 35] (SH, st)) st (ct (tk b n a) (7, lf, sg, o, W, S, R, kd, dd, nm)) := by
  obtain ⟨x1, x2, x3, hC, x5, x6⟩ := hX
  obtain ⟨l1, l2, l3, l4⟩ := hL
  have e : m_evc (d + 1) 55 [.ref 35, .int 59] (SH, st) = some (some (.int (bZ ((tk b n a).1 = 2 ∧ (tk b n a).2 = 59))), (SH, st)) := x_single d (c := 59) hT (by omega)
  show TKN _ st (if ((tk b n a).1 = 2 ∧ (tk b n a).2 = 59) ∧ R.length < 8 then some (0, lf, sg, o, W, S, R ++ [(kd, dd, nm, S.length)], kd, dd, nm) else none)
  rw [cal_X6_takesSemicolon, eX6_takesSemicolon_0, e]
  simp only [m_bd, Option.toList, List.cons_append, List.nil_append]
  rw [eX6_takesSemicolon_6, bZ_if, hC.2.2.2.1]
  by_cases h1 : (tk b n a).1 = 2 ∧ (tk b n a).2 = 59
  · rw [if_pos h1]
    by_cases h2 : R.length < 8
    · rw [if_pos (by rw [show (8 : Int32) = Int32.ofNat 8 from rfl, n_lt (by omega) (by omega)]; exact h2), if_pos ⟨h1, h2⟩, eX6_takesSemicolon_23, hC.2.2.2.1, ix_8 h2, ob_s, hC.2.2.2.2.1, n_succ]
      obtain ⟨a1, a2, a3, a4, a5, a6, a7⟩ := hC
      refine ⟨_, rfl, KP_35 (KP_n (KP_n (KP_0 st) rfl _ _) rfl _ _) (by decide) _, up_in _ _ _ _, ?_, ?_, ⟨?_, ?_, ?_, ?_, ?_, ?_, fun r k d' m e q => ?_⟩, fun z => absurd rfl z, fun z => absurd z (by decide)⟩
      · rw [up_nj (by decide), up_ne (by decide), up_ne (by decide)]; exact x2
      · rw [up_nj (by decide), up_ne (by decide), up_ne (by decide)]; exact x3
      · rw [up_nj (by decide), up_ne (by decide), up_ne (by decide)]; exact a1
      · rw [up_nj (by decide), up_ne (by decide), up_ne (by decide)]; exact a2
      · rw [up_ne (by decide), up_ne (by decide), up_ne (by decide)]; exact a3
      · rw [up_ne (by decide), up_in, List.length_append]; rfl
      · rw [up_ne (by decide), up_nj (by decide), up_ne (by decide)]; exact a5
      · rw [up_ne (by decide), up_ne (by decide), up_ne (by decide)]; exact a6
      · rw [up_ne (show 38 ≠ 35 by decide), up_ne (show 38 ≠ 37 by decide), up_ne (show 38 ≠ 41 by decide), up_ne (show 39 ≠ 35 by decide), up_ne (show 39 ≠ 37 by decide), up_ne (show 39 ≠ 41 by decide), up_ne (show 40 ≠ 35 by decide), up_ne (show 40 ≠ 37 by decide), up_ne (show 40 ≠ 41 by decide), up_ne (show 41 ≠ 35 by decide), up_ne (show 41 ≠ 37 by decide)]
        by_cases z : r = R.length
        · subst z
          rw [List.getElem?_concat_length] at q
          cases q
          rw [up_in]
          exact ⟨(x5 (by decide)).1, x6 (by omega), (x5 (by decide)).2, rfl⟩
        · obtain ⟨z2, _⟩ := List.getElem?_eq_some_iff.mp q
          rw [List.length_append] at z2
          have z3 : r < R.length := by simp only [List.length_cons, List.length_nil] at z2; omega
          rw [List.getElem?_append_left z3] at q
          rw [up_nj z]
          exact a7 r k d' m e q
    · rw [if_neg (by rw [show (8 : Int32) = Int32.ofNat 8 from rfl, n_lt (by omega) (by omega)]; exact h2), eX6_takesSemicolon_21, if_neg (fun z => h2 z.2)]
      exact ⟨st, rfl, KP_0 st⟩
  · rw [if_neg h1, eX6_takesSemicolon_21, if_neg (fun z => h1 z.1)]
    exact ⟨st, rfl, KP_0 st⟩
theorem TKN_1 {m : Option mF} {st : zS} {y : CS} {f : Option Value → mH → Option mF} (h : TKN m st (some y)) (h1 : ∀ s, f (some (.int 1)) (SH, s) = some (some (.int 1), (SH, s))) : TKN (m_bd m f) st (some y) := by
  obtain ⟨s, e, k⟩ := h
  rw [e]
  exact ⟨s, h1 s, k⟩
theorem x_takes (d : Nat) {st : zS} {b : Nat → Nat} {n a : Nat} (hT : TQ st b n a) (x : CS) (hX : HX st x) (hL : LI 199 x) : TKN (m_evc (d + 11) 41 [.ref 35] (SH, st)) st (ct (tk b n a) x) := by
  obtain ⟨q, lf, sg, o, W, S, R, kd, dd, nm⟩ := x
  have x1 : st 35 7 = Int32.ofNat q := hX.1
  have l4 : q ≤ 7 := hL.2.2.2
  rw [cal_X6_takesToken, eX6_takesToken_0, x1, ec41 q l4]
  have hq : q = 0 ∨ q = 1 ∨ q = 2 ∨ q = 3 ∨ q = 4 ∨ q = 5 ∨ q = 6 ∨ q = 7 := by omega
  rcases hq with rfl | rfl | rfl | rfl | rfl | rfl | rfl | rfl
  · show TKN (m_ev none (d + 10) 41 48 _ _ _) st _
    rw [eX6_takesToken_48]
    exact TKN_then (x_kind (d + 2) hT hX hL) (fun s => by simp only [Option.toList, List.cons_append, List.nil_append]; rw [eX6_takesToken_52, if_pos (Or.inl rfl)]) (fun s => by simp only [Option.toList, List.cons_append, List.nil_append]; rw [eX6_takesToken_52, if_pos (Or.inr rfl)])
  · show TKN (m_ev none (d + 10) 41 53 _ _ _) st (if wd (tk b n a) = 294 then some (2, lf, sg, o, W, S, R, kd, dd, nm) else cdeed (tk b n a) lf sg o W S R kd nm)
    rw [eX6_takesToken_53, x_if (d + 2) hT]
    by_cases h : wd (tk b n a) = 294
    · rw [if_pos h, if_pos h, if_pos h]
      simp only [m_bd, Option.toList, List.cons_append, List.nil_append]
      rw [eX6_takesToken_57, if_neg i_10, eX6_takesToken_67, eX6_takesToken_72, if_pos (Or.inr rfl)]
      obtain ⟨_, x2, x3, hC, x5, x6⟩ := hX
      refine ⟨_, rfl, KP_35 (KP_0 st) (by decide) _, up_in _ _ _ _, ?_, ?_, HC_35 hC (by decide) _, fun _ => ?_, fun z => absurd z (by decide)⟩
      · rw [up_nj (by decide)]; exact x2
      · rw [up_nj (by decide)]; exact x3
      · rw [up_ne (by decide), up_ne (by decide)]; exact x5 (by decide)
    · rw [if_neg h, if_neg h, if_neg h]
      simp only [m_bd, Option.toList, List.cons_append, List.nil_append]
      rw [eX6_takesToken_57, if_pos rfl]
      exact TKN_then (x_deed (d + 2) hT hX (by decide) hL) (fun s => by simp only [Option.toList, List.cons_append, List.nil_append]; rw [eX6_takesToken_64, if_pos rfl, eX6_takesToken_71, eX6_takesToken_72, if_pos (Or.inl rfl)]) (fun s => by simp only [Option.toList, List.cons_append, List.nil_append]; rw [eX6_takesToken_64, if_neg i_10, eX6_takesToken_67, eX6_takesToken_72, if_pos (Or.inr rfl)])
  · show TKN (m_ev none (d + 10) 41 73 _ _ _) st (if wd (tk b n a) = 14836 then some (2, lf, sg, o, 3 :: W, S, R, kd, dd, nm) else if ((tk b n a).1 = 2 ∧ (tk b n a).2 = 40) ∧ o < 3 then some (2, lf, sg, o + 1, 0 :: W, S, R, kd, dd, nm) else if opd (tk b n a) < 0 then none else some (3, opd (tk b n a), sg, o, W, S, R, kd, dd, nm))
    rw [eX6_takesToken_73]
    obtain ⟨n1, n2⟩ := x_not (d + 2) hT hX hL
    by_cases h : wd (tk b n a) = 14836
    · rw [if_pos h]
      exact TKN_1 (n1 h) (fun s => by simp only [Option.toList, List.cons_append, List.nil_append]; rw [eX6_takesToken_77, if_neg i_10, eX6_takesToken_94, eX6_takesToken_99, if_pos (Or.inr rfl)])
    rw [if_neg h, n2 h]
    simp only [m_bd, Option.toList, List.cons_append, List.nil_append]
    rw [eX6_takesToken_77, if_pos rfl]
    obtain ⟨o1, o2⟩ := x_open (d + 7) hT hX hL
    by_cases h2 : ((tk b n a).1 = 2 ∧ (tk b n a).2 = 40) ∧ o < 3
    · rw [if_pos h2]
      exact TKN_1 (o1 h2) (fun s => by simp only [Option.toList, List.cons_append, List.nil_append]; rw [eX6_takesToken_84, if_neg i_10, eX6_takesToken_94, eX6_takesToken_99, if_pos (Or.inr rfl)])
    rw [if_neg h2, o2 h2]
    simp only [m_bd, Option.toList, List.cons_append, List.nil_append]
    rw [eX6_takesToken_84, if_pos rfl]
    exact TKN_then (x_left (d + 1) hT hX) (fun s => by simp only [Option.toList, List.cons_append, List.nil_append]; rw [eX6_takesToken_91, if_pos rfl, eX6_takesToken_98, eX6_takesToken_99, if_pos (Or.inl rfl)]) (fun s => by simp only [Option.toList, List.cons_append, List.nil_append]; rw [eX6_takesToken_91, if_neg i_10, eX6_takesToken_94, eX6_takesToken_99, if_pos (Or.inr rfl)])
  · show TKN (m_ev none (d + 10) 41 100 _ _ _) st _
    rw [eX6_takesToken_100]
    exact TKN_then (x_sign (d + 7) hT hX) (fun s => by simp only [Option.toList, List.cons_append, List.nil_append]; rw [eX6_takesToken_104, if_pos (Or.inl rfl)]) (fun s => by simp only [Option.toList, List.cons_append, List.nil_append]; rw [eX6_takesToken_104, if_pos (Or.inr rfl)])
  · show TKN (m_ev none (d + 10) 41 105 _ _ _) st _
    rw [eX6_takesToken_105]
    exact TKN_then (x_right (d + 1) hT hX hL) (fun s => by simp only [Option.toList, List.cons_append, List.nil_append]; rw [eX6_takesToken_109, if_pos (Or.inl rfl)]) (fun s => by simp only [Option.toList, List.cons_append, List.nil_append]; rw [eX6_takesToken_109, if_pos (Or.inr rfl)])
  · show TKN (m_ev none (d + 10) 41 110 _ _ _) st (if wd (tk b n a) = 498 then some (2, lf, sg, o, 1 :: (awx 1 W S).1, (awx 1 W S).2, R, kd, dd, nm) else if wd (tk b n a) = 1476 then some (2, lf, sg, o, 2 :: (awx 2 W S).1, (awx 2 W S).2, R, kd, dd, nm) else if ((tk b n a).1 = 2 ∧ (tk b n a).2 = 41) ∧ 0 < o then some (5, lf, sg, o - 1, (awx 1 W S).1.tail, (awx 1 W S).2, R, kd, dd, nm) else cdeed (tk b n a) lf sg o W S R kd nm)
    rw [eX6_takesToken_110]
    obtain ⟨j1, j2, j3⟩ := x_joint (d + 2) hT hX hL
    by_cases h : wd (tk b n a) = 498
    · rw [if_pos h]
      exact TKN_1 (j1 h) (fun s => by simp only [Option.toList, List.cons_append, List.nil_append]; rw [eX6_takesToken_114, if_neg i_10, eX6_takesToken_131, eX6_takesToken_136, if_pos (Or.inr rfl)])
    rw [if_neg h]
    by_cases h2 : wd (tk b n a) = 1476
    · rw [if_pos h2]
      exact TKN_1 (j2 h2) (fun s => by simp only [Option.toList, List.cons_append, List.nil_append]; rw [eX6_takesToken_114, if_neg i_10, eX6_takesToken_131, eX6_takesToken_136, if_pos (Or.inr rfl)])
    rw [if_neg h2, j3 h h2]
    simp only [m_bd, Option.toList, List.cons_append, List.nil_append]
    rw [eX6_takesToken_114, if_pos rfl]
    obtain ⟨c1, c2⟩ := x_clos (d + 6) hT hX hL
    by_cases h3 : ((tk b n a).1 = 2 ∧ (tk b n a).2 = 41) ∧ 0 < o
    · rw [if_pos h3]
      exact TKN_1 (c1 h3) (fun s => by simp only [Option.toList, List.cons_append, List.nil_append]; rw [eX6_takesToken_121, if_neg i_10, eX6_takesToken_131, eX6_takesToken_136, if_pos (Or.inr rfl)])
    rw [if_neg h3, c2 h3]
    simp only [m_bd, Option.toList, List.cons_append, List.nil_append]
    rw [eX6_takesToken_121, if_pos rfl]
    exact TKN_then (x_deed (d + 2) hT hX (by decide) hL) (fun s => by simp only [Option.toList, List.cons_append, List.nil_append]; rw [eX6_takesToken_128, if_pos rfl, eX6_takesToken_135, eX6_takesToken_136, if_pos (Or.inl rfl)]) (fun s => by simp only [Option.toList, List.cons_append, List.nil_append]; rw [eX6_takesToken_128, if_neg i_10, eX6_takesToken_131, eX6_takesToken_136, if_pos (Or.inr rfl)])
  · show TKN (m_ev none (d + 10) 41 137 _ _ _) st _
    rw [eX6_takesToken_137]
    exact TKN_then (x_num (d + 9) hT hX hL) (fun s => by simp only [Option.toList, List.cons_append, List.nil_append]; rw [eX6_takesToken_141, if_pos (Or.inl rfl)]) (fun s => by simp only [Option.toList, List.cons_append, List.nil_append]; rw [eX6_takesToken_141, if_pos (Or.inr rfl)])
  · show TKN (m_ev none (d + 10) 41 142 _ _ _) st _
    rw [eX6_takesToken_142]
    exact TKN_then (x_semi (d + 8) hT hX hL) (fun s => by simp only [Option.toList, List.cons_append, List.nil_append]; rw [eX6_takesToken_146, if_pos (Or.inl rfl)]) (fun s => by simp only [Option.toList, List.cons_append, List.nil_append]; rw [eX6_takesToken_146, if_pos (Or.inr rfl)])
