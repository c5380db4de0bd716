/-! CALLS: judge, the class -/
theorem x_rowOf (d : Nat) (st : zS) {i k : Nat} (hi : i < 9) (hk : k < 9) : m_evc (d + 1) 136 [.ref 0, .int (Int32.ofNat i), .int (Int32.ofNat k)] (SH, st) = some (some (.int (bZ (st (57 + i) 0 = Int32.ofNat k ∧ st (57 + i) 1 = st 47 k ∧ st (57 + i) 2 = st 48 k))), (SH, st)) := by
  rw [cal_X11_isRowOfAsked, eX11_isRowOfAsked_0, ix_9 hi, ob_s, gisRowOfAsked_6 _ _ _ _ hi]
  by_cases h1 : st (57 + i) 0 = Int32.ofNat k
  · rw [if_pos h1, ix_9 hi, ob_s, gisRowOfAsked_18 _ _ _ _ hi, ix_9 hk, ob_s]
    by_cases h2 : st (57 + i) 1 = st 47 k
    · rw [if_pos h2, ix_9 hi, ob_s, gisRowOfAsked_38 _ _ _ _ hi, ix_9 hk, ob_s]
      by_cases h3 : st (57 + i) 2 = st 48 k
      · rw [if_pos h3, eX11_isRowOfAsked_57, if_pos (Or.inr rfl), bZ_t ⟨h1, h2, h3⟩]
      · rw [if_neg h3, eX11_isRowOfAsked_56, eX11_isRowOfAsked_57, if_pos (Or.inl rfl), bZ_f (fun z => h3 z.2.2)]
    · rw [if_neg h2, eX11_isRowOfAsked_56, eX11_isRowOfAsked_57, if_pos (Or.inl rfl), bZ_f (fun z => h2 z.2.1)]
  · rw [if_neg h1, eX11_isRowOfAsked_56, eX11_isRowOfAsked_57, if_pos (Or.inl rfl), bZ_f (fun z => h1 z.1)]
/-- row i is what a one-way cry gives after so many -/
def okr (st : zS) (t w : Int32) (fm i : Nat) : Prop := i < tcap (st 86) w fm ∧ ∃ ch : Int32 × Int32, onw (st 86) fm t w (tw w fm i) = some ch ∧ st (57 + i) 0 = Int32.ofNat (tw w fm i) ∧ st (57 + i) 1 = ch.1 ∧ st (57 + i) 2 = ch.2
theorem twI_far {s : Nat → Int32} {fm : Nat} (hf : fm < tn s) (h9 : tn s ≤ 9) {w : Int32} {j : Nat} (hj : tcap s w fm ≤ j) (hj9 : j < 9) : ¬ gT s (if w = 0 then Int32.ofNat fm - Int32.ofNat j else Int32.ofNat fm + Int32.ofNat j) := by
  unfold tcap at hj
  by_cases hw : w = 0
  · rw [if_pos hw] at hj ⊢
    intro z
    have := z.1
    have e : (Int32.ofNat fm - Int32.ofNat j).toInt = (fm : Int) - j := by
      rw [Int32.toInt_sub, n_int (by omega), n_int (by omega)]
      apply Int.bmod_eq_of_le <;> omega
    omega
  · rw [if_neg hw] at hj ⊢
    intro z
    have := z.2
    rw [n_add, n_int (by omega)] at this
    omega
theorem x_judge (d : Nat) {st : zS} (hR : Rel st) {fm : Nat} (hf : fm < tn (st 86)) {t w : Int32} (ht : TG t) (e57 : st 57 0 = Int32.ofNat fm ∧ st 57 1 = t ∧ st 57 2 = t) {N : Nat} (eN : st 0 8 = Int32.ofNat N) (hN9 : N ≤ 9) {J : Nat} (hJ : 1 ≤ J ∧ J ≤ N) (hJ1 : ∀ i, 1 ≤ i → i < J → okr st t w fm i) (hJ2 : J = N ∨ ¬ okr st t w fm J) : RT (m_evc (d + 8) 134 [.ref 0, .int w] (SH, st)) (some (.int (if J = N then 0 else Int32.ofNat (J + 1)))) (scr st) := by
  obtain ⟨hN, hV, h7, e0⟩ := Rel_x hR
  have h9 := hV.1.2
  obtain ⟨a, ea, fa, Da, ra⟩ := s_cryO d st hN hV h7 ht hf w
  have ra : rp (-9) (a 47) (a 48) (onw (st 86) fm t w) (tn (st 86)) := ra
  have hb := fb_onw hV hf ht w
  refine ⟨a, ?_, scr_fr fa (by decide)⟩
  have a08 : a 0 8 = Int32.ofNat N := by rw [fa 0 rfl, eN]
  have a1 : a 1 0 = st 86 0 := by rw [fa 1 rfl, e0]
  have ar : ∀ i, i < 9 → a (57 + i) = st (57 + i) := fun i hi => fa (57 + i) (by simp; omega)
  rw [cal_X11_judge (d + 7), eX11_judge_0, eN, if_neg (by rw [show (0 : Int32) = Int32.ofNat 0 from rfl, n_eq (by omega) (by omega)]; omega), eX11_judge_9, eX11_judge_15, eX11_judge_24, e57.1, e57.2.1, s_isCry (d + 5) st e0 hV.1, bZ_t ⟨gT_at hf h9, ht⟩]
  simp only [m_bd, Option.toList, List.cons_append, List.nil_append]
  rw [eX11_judge_33, if_neg i_10, eX11_judge_42, e57.2.2, if_pos rfl, eX11_judge_50, ea]
  simp only [m_bd, Option.toList, List.cons_append, List.nil_append]
  rw [eX11_judge_57]
  have test : ∀ i (x5 : Option Value), 1 ≤ i → i < N → (okr st t w fm i → ∃ y5 : Option Value, m_ev none (d + 7) 134 60 [some (.ref 0), some (.int w), some (.int (Int32.ofNat fm)), some (.int t), some (.int (Int32.ofNat i)), x5] [] (SH, a) = m_ev none (d + 7) 134 60 [some (.ref 0), some (.int w), some (.int (Int32.ofNat fm)), some (.int t), some (.int (Int32.ofNat (i + 1))), y5] [] (SH, a)) ∧ (¬ okr st t w fm i → m_ev none (d + 7) 134 60 [some (.ref 0), some (.int w), some (.int (Int32.ofNat fm)), some (.int t), some (.int (Int32.ofNat i)), x5] [] (SH, a) = some (some (.int (Int32.ofNat (i + 1))), (SH, a))) := by
    intro i x5 h1 hi
    have hd : m_ev none (d + 7) 134 60 [some (.ref 0), some (.int w), some (.int (Int32.ofNat fm)), some (.int t), some (.int (Int32.ofNat i)), x5] [] (SH, a) = m_ev none (d + 7) 134 84 [some (.ref 0), some (.int w), some (.int (Int32.ofNat fm)), some (.int t), some (.int (Int32.ofNat i)), x5] [.int (if w = 0 then Int32.ofNat fm - Int32.ofNat i else Int32.ofNat fm + Int32.ofNat i)] (SH, a) := by
      rw [eX11_judge_60, a08, if_pos (by rw [n_lt (by omega) (by omega)]; exact hi)]
      by_cases hw : w = 0
      · rw [if_pos hw, if_pos hw, eX11_judge_80]
      · rw [if_neg hw, if_neg hw]
    rw [hd, eX11_judge_84, s_isTowX (d + 6) a a1 hV.1]
    simp only [m_bd, Option.toList, List.cons_append, List.nil_append]
    rw [eX11_judge_95, bZ_if]
    by_cases hc : i < tcap (st 86) w fm
    · have hl := tw_lt hf hc
      have etw : (if w = 0 then Int32.ofNat fm - Int32.ofNat i else Int32.ofNat fm + Int32.ofNat i) = Int32.ofNat (tw w fm i) := by
        unfold tcap at hc
        unfold tw
        by_cases hw : w = 0
        · rw [if_pos hw] at hc
          rw [if_pos hw, if_pos hw, n_sub (by omega)]
        · rw [if_neg hw, if_neg hw, n_add]
      rw [etw, if_pos (gT_at hl h9), ya_rch (d + 6) a ra hb hl h9]
      simp only [m_bd, Option.toList, List.cons_append, List.nil_append]
      rw [eX11_judge_107, bZ_if]
      cases ho : onw (st 86) fm t w (tw w fm i) with
      | none =>
        rw [if_neg (by simp), eX11_judge_121, n_succ]
        refine ⟨fun z => ?_, fun _ => rfl⟩
        obtain ⟨_, ch, z1, _⟩ := z
        rw [ho] at z1; cases z1
      | some ch =>
        obtain ⟨w1, w2⟩ := rp_at ra hl (c := ch.1) (g := ch.2) ho
        rw [if_pos (by simp), x_rowOf (d + 6) a (show i < 9 by omega) (show tw w fm i < 9 by omega), ar i (by omega), w1, w2]
        simp only [m_bd, Option.toList, List.cons_append, List.nil_append]
        rw [eX11_judge_118, bZ_if]
        by_cases q : st (57 + i) 0 = Int32.ofNat (tw w fm i) ∧ st (57 + i) 1 = ch.1 ∧ st (57 + i) 2 = ch.2
        · rw [if_pos q, eX11_judge_126, n_succ]
          exact ⟨fun _ => ⟨_, rfl⟩, fun z => absurd ⟨hc, ch, ho, q⟩ z⟩
        · rw [if_neg q, eX11_judge_121, n_succ]
          refine ⟨fun z => ?_, fun _ => rfl⟩
          obtain ⟨_, ch2, z1, z2⟩ := z
          rw [ho] at z1
          cases z1
          exact absurd z2 q
    · rw [if_neg (twI_far hf h9 (by omega) (by omega)), eX11_judge_121, n_succ]
      exact ⟨fun z => absurd z.1 hc, fun _ => rfl⟩
  have run : ∀ m i (x5 : Option Value), i + m = J → 1 ≤ i → ∃ y5 : Option Value, m_ev none (d + 7) 134 60 [some (.ref 0), some (.int w), some (.int (Int32.ofNat fm)), some (.int t), some (.int (Int32.ofNat i)), x5] [] (SH, a) = m_ev none (d + 7) 134 60 [some (.ref 0), some (.int w), some (.int (Int32.ofNat fm)), some (.int t), some (.int (Int32.ofNat J)), y5] [] (SH, a) := by
    intro m
    induction m with
    | zero => intro i x5 e _; exact ⟨x5, by rw [show i = J by omega]⟩
    | succ m ih =>
      intro i x5 e h1
      obtain ⟨y, ey⟩ := (test i x5 h1 (by omega)).1 (hJ1 i h1 (by omega))
      obtain ⟨y2, ey2⟩ := ih (i + 1) y (by omega) (by omega)
      exact ⟨y2, ey.trans ey2⟩
  obtain ⟨y5, e5⟩ := run (J - 1) 1 none (by omega) (Nat.le_refl _)
  refine Eq.trans e5 ?_
  by_cases q : J = N
  · rw [if_pos q, eX11_judge_60, a08, if_neg (by rw [n_lt (by omega) (by omega)]; omega), eX11_judge_132]
  · rw [if_neg q]
    exact (test J y5 (by omega) (by omega)).2 (hJ2.resolve_left q)
