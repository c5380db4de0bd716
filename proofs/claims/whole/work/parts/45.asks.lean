/-! RULES IN THE MODEL: isSo, asks by what they answer -/
theorem isSo_step (d : Nat) (st : zS) {k a b i : Nat} (hk : k < 9) (hd : DG (st 86)) (hib : i < b) (hb : b ≤ 200) {K K' : List Int32} (hK : sk (st 89) K) (hl : K.length ≤ i) (hm : mstep (fcs (st 86) k) (st 86 (110 + i)) K = some K') (x6 : Option Value) :
    ∃ st' x6', m_ev none (d + 3) 170 6 [some (.ref 85), some (.int (Int32.ofNat a)), some (.int (Int32.ofNat b)), some (.int (Int32.ofNat k)), some (.int (Int32.ofNat K.length)), some (.int (Int32.ofNat i)), x6] [] (SH, st) = m_ev none (d + 3) 170 6 [some (.ref 85), some (.int (Int32.ofNat a)), some (.int (Int32.ofNat b)), some (.int (Int32.ofNat k)), some (.int (Int32.ofNat K'.length)), some (.int (Int32.ofNat (i + 1))), x6'] [] (SH, st') ∧ fr [89] st st' ∧ sk (st' 89) K' ∧ K'.length ≤ i + 1 := by
  have hlt : (Int32.ofNat i < Int32.ofNat b) = True := by rw [n_lt (by omega) (by omega)]; exact eq_true hib
  have hix : m_ix (110 + Int32.ofNat i) 310 = some (110 + i) := ix_C (by omega)
  rw [eX12_isSo_6, if_pos (of_eq_true hlt), hix]
  simp only [m_ob]
  unfold mstep at hm
  by_cases h1 : (-10 : Int32) < st 86 (110 + i)
  · rw [if_pos h1] at hm
    cases hm
    rw [if_pos h1, s_fact d st hk hd]
    simp only [m_bd, Option.toList, List.cons_append, List.nil_append, eX12_isSo_44, ix_200 (show K.length < 200 by omega), m_ob, eX12_isSo_122, n_succ]
    refine ⟨_, _, rfl, fr_up0 _ _ _ _, ?_, by first | omega | (simp only [List.length_cons]; omega)⟩
    rw [up_row]; exact sk_top hK
  · rw [if_neg h1] at hm ⊢
    rw [eX12_isSo_51]
    by_cases h2 : st 86 (110 + i) = -20
    · rw [if_pos h2] at hm ⊢
      cases K with
      | nil => cases hm
      | cons x K =>
        cases hm
        simp only [List.length_cons] at hl ⊢
        rw [n_pred, ix_200 (show K.length < 200 by omega)]
        simp only [m_ob, eX12_isSo_122, n_succ]
        refine ⟨_, _, rfl, fr_up0 _ _ _ _, ?_, by first | omega | (simp only [List.length_cons]; omega)⟩
        rw [up_row, hK.1]
        exact sk_top hK.2
    · rw [if_neg h2] at hm ⊢
      match K, hm, hK, hl with
      | [], hm, _, _ => cases hm
      | [_], hm, _, _ => cases hm
      | y :: x :: K, hm, hK, hl =>
        cases hm
        simp only [List.length_cons] at hl ⊢
        rw [eX12_isSo_81, n_predm, n_pred, ix_200 (show K.length < 200 by omega)]
        simp only [m_ob]
        rw [ix_200 (show K.length + 1 < 200 by omega)]
        have hy : st 89 (K.length + 1) = y := hK.1
        have hx : st 89 K.length = x := hK.2.1
        simp only [m_ob, hy, hx, s_isHolding, m_bd, Option.toList, List.cons_append, List.nil_append]
        rw [eX12_isSo_113]
        refine ⟨m_up st 89 K.length (hdP (st 86 (110 + i)) x y), some (.int (st 86 (110 + i))), ?_, fr_up0 _ _ _ _, ?_, by omega⟩
        · rcases hdP_01 (st 86 (110 + i)) x y with e | e
          · rw [e, if_pos rfl, eX12_isSo_120, eX12_isSo_121, ix_200 (show K.length < 200 by omega)]
            simp only [m_ob, eX12_isSo_122, n_succ]
          · rw [e, if_neg i_10, eX12_isSo_121, ix_200 (show K.length < 200 by omega)]
            simp only [m_ob, eX12_isSo_122, n_succ]
        · rw [up_row]; exact sk_top hK.2.2
theorem isSo_run (d : Nat) {k a b : Nat} (hk : k < 9) (hb : b ≤ 200) : ∀ (m i : Nat) (st : zS) (K K' : List Int32) (x6 : Option Value), i + m = b → DG (st 86) → sk (st 89) K → K.length ≤ i → mev (fcs (st 86) k) (cl (st 86) i m) K = some K' →
    ∃ st' x6', m_ev none (d + 3) 170 6 [some (.ref 85), some (.int (Int32.ofNat a)), some (.int (Int32.ofNat b)), some (.int (Int32.ofNat k)), some (.int (Int32.ofNat K.length)), some (.int (Int32.ofNat i)), x6] [] (SH, st) = m_ev none (d + 3) 170 128 [some (.ref 85), some (.int (Int32.ofNat a)), some (.int (Int32.ofNat b)), some (.int (Int32.ofNat k)), some (.int (Int32.ofNat K'.length)), some (.int (Int32.ofNat b)), x6'] [] (SH, st') ∧ fr [89] st st' ∧ sk (st' 89) K'
  | 0, i, st, K, K', x6, hi, hd, hK, hl, hm => by
    have : i = b := by omega
    subst this
    cases hm
    refine ⟨st, x6, ?_, fr_refl _ _, hK⟩
    rw [eX12_isSo_6, if_neg]
    rw [n_lt (by omega) (by omega)]; omega
  | m + 1, i, st, K, K', x6, hi, hd, hK, hl, hm => by
    unfold cl mev at hm
    split at hm
    · rename_i K1 h1
      obtain ⟨st1, y6, e1, f1, g1, l1⟩ := isSo_step d st (a := a) (b := b) hk hd (by omega) hb hK hl h1 x6
      have e86 : st1 86 = st 86 := f1 86 rfl
      obtain ⟨st2, z6, e2, f2, g2⟩ := isSo_run d hk hb m (i + 1) st1 K1 K' y6 (by omega) (by rw [e86]; exact hd) g1 l1 (by rw [e86]; exact hm)
      refine ⟨st2, z6, e1.trans e2, ?_, g2⟩
      exact fr_mono (fr_tr f1 f2) (by decide)
    · cases hm
theorem s_isSo (d : Nat) (st : zS) {k a b : Nat} (hk : k < 9) (hd : DG (st 86)) (hab : a ≤ b) (hb : b ≤ 200) {K : List Int32} (hl : K.length ≤ 1) (hm : mev (fcs (st 86) k) (cl (st 86) a (b - a)) [] = some K) :
    RT (m_evc (d + 4) 170 [.ref 85, .int (Int32.ofNat a), .int (Int32.ofNat b), .int (Int32.ofNat k)] (SH, st)) (some (.int (bZ (mt K = true)))) (fr [89] st) := by
  obtain ⟨st', x6, e, f, g⟩ := isSo_run d (a := a) hk hb (b - a) a st [] K none (by omega) hd trivial (by simp) hm
  refine ⟨st', ?_, f⟩
  rw [cal_X12_isSo, eX12_isSo_0]
  refine Eq.trans e ?_
  rw [eX12_isSo_128]
  match K, hl, g with
  | [], _, _ =>
    have : (Int32.ofNat ([] : List Int32).length) = 0 := rfl
    simp only [this, if_true, eX12_isSo_143, eX12_isSo_148, or_true, mt, bZ]
  | [x], _, g =>
    have h1 : ¬ (Int32.ofNat [x].length) = 0 := by show ¬ (Int32.ofNat 1 = 0); decide
    have hx : st' 89 0 = x := g.1
    rw [if_neg h1, hx]
    by_cases h2 : x = 1
    · simp [h2, eX12_isSo_143, eX12_isSo_148, mt, bZ]
    · simp [h2, eX12_isSo_147, eX12_isSo_148, mt, bZ]
theorem s_isUnderM (d : Nat) (st : zS) (x y : Int32) : m_evc (d + 1) 167 [.int x, .int y] (SH, st) = some (some (.int (bZ (uk x y = true))), (SH, st)) := by
  rw [cal_X12_isUnder, eX12_isUnder_0]
  simp only [eX12_isUnder_19, eX12_isUnder_29, eX12_isUnder_33, eX12_isUnder_34, true_or, or_true, if_true]
  unfold uk bZ
  by_cases h1 : y = 0
  · simp [h1]
  by_cases h2 : x = y
  · simp [h1, h2]
  by_cases h3 : y = 2
  · subst h3
    by_cases h4 : x = 3
    · simp [h4]
    · simp [h2, h4]
  · by_cases h5 : y = 4
    · subst h5
      by_cases h6 : x = 5
      · simp [h6]
      · simp [h2, h6]
    · simp [h1, h2, h3, h5]
theorem n_neg1 : (-1 : Int32) < 0 := by decide
/-- the loop over the rules -/
theorem asks_run (d : Nat) {k : Nat} (hk : k < 9) (kd : Int32) : ∀ (m r : Nat) (st : zS) (x6 : Option Value), RG (st 86) → DG (st 86) → r + m = (st 86 4).toNatClampNeg →
    ∃ st' y4 y5 y6, m_ev none (d + 4) 171 15 [some (.ref 85), some (.int (Int32.ofNat k)), some (.int kd), some (.int (-1)), some (.int (Int32.ofNat (bg (st 86) r))), some (.int (Int32.ofNat r)), x6, none] [] (SH, st) = m_ev none (d + 4) 171 98 [some (.ref 85), some (.int (Int32.ofNat k)), some (.int kd), some (.int (match ruf (st 86) kd (fcs (st 86) k) m r with | none => -1 | some q => Int32.ofNat (78 + 4 * q))), some (.int y4), some (.int y5), y6, none] [] (SH, st') ∧ fr [89] st st' ∧ ∀ q, ruf (st 86) kd (fcs (st 86) k) m r = some q → q < 8
  | 0, r, st, x6, hR, hd, hr => by
    refine ⟨st, Int32.ofNat (bg (st 86) r), Int32.ofNat r, x6, ?_, fr_refl _ _, fun q h => by cases h⟩
    have hR8 := hR.2.1
    rw [eX12_asks_15, if_neg]
    · rfl
    · rw [hR.1, n_lt (by omega) (by omega)]; omega
  | m + 1, r, st, x6, hR, hd, hr => by
    have hR8 := hR.2.1
    have hr8 : r < 8 := by omega
    obtain ⟨g1, g2, g3, g4⟩ := hR.2.2 r (by omega)
    obtain ⟨K, k1, k2⟩ := g4 (fcs (st 86) k)
    obtain ⟨st1, e1, f1⟩ := s_isSo d st hk hd g2 g3 k1 k2
    have c1 : cnd (st 86) r (fcs (st 86) k) = mt K := by unfold cnd; rw [k2]
    have e86 : st1 86 = st 86 := f1 86 rfl
    have hlt : Int32.ofNat r < st 86 4 := by rw [hR.1, n_lt (by omega) (by omega)]; omega
    have ew : 78 + 4 * Int32.ofNat r + 3 = Int32.ofNat (81 + 4 * r) := by
      rw [show (3 : Int32) = Int32.ofNat 3 from rfl, n_R]; congr 1; omega
    have e0 : 78 + 4 * Int32.ofNat r = Int32.ofNat (78 + 4 * r) := by
      rw [show (78 : Int32) = Int32.ofNat 78 from rfl, show (4 : Int32) = Int32.ofNat 4 from rfl, n_mul, n_add]
    have i3 : m_ix (Int32.ofNat (81 + 4 * r)) 310 = some (81 + 4 * r) := ix_310 (by omega)
    rw [eX12_asks_15, if_pos hlt, if_pos n_neg1, ix_R0 hr8]
    simp only [m_ob, s_isUnderM, m_bd, Option.toList, List.cons_append, List.nil_append]
    rw [eX12_asks_52, bZ_if]
    by_cases hu : uk kd (st 86 (78 + 4 * r)) = true
    · rw [if_pos hu, ew, i3]
      simp only [m_ob, g1]
      rw [e1]
      simp only [m_bd, Option.toList, List.cons_append, List.nil_append]
      rw [eX12_asks_71, bZ_if]
      by_cases hc : mt K = true
      · rw [if_pos hc, eX12_asks_80, ew, i3]
        simp only [m_ob, e86, g1, n_succ]
        have hq : ruf (st 86) kd (fcs (st 86) k) (m + 1) r = some r := by
          show (if _ then _ else _) = _
          rw [c1, hu, hc]; rfl
        rw [hq]
        refine ⟨st1, Int32.ofNat (bg (st 86) (r + 1)), Int32.ofNat (r + 1), some (.int (78 + 4 * Int32.ofNat r)), ?_, f1, fun q h => by cases h; exact hr8⟩
        rw [eX12_asks_15]
        have hn : ¬ (Int32.ofNat (78 + 4 * r) < 0) := by rw [n_pos _ (by omega)]; exact id
        simp only [e0, if_neg hn]
        split <;> rfl
      · rw [if_neg hc, eX12_asks_79, eX12_asks_80, ew, i3]
        simp only [m_ob, e86, g1, n_succ]
        have hq : ruf (st 86) kd (fcs (st 86) k) (m + 1) r = ruf (st 86) kd (fcs (st 86) k) m (r + 1) := by
          show (if _ then _ else _) = _
          rw [c1, hu]
          simp [hc]
        rw [hq]
        obtain ⟨st2, y4, y5, y6, e2, f2, q2⟩ := asks_run d hk kd m (r + 1) st1 (some (.int (78 + 4 * Int32.ofNat r))) (by rw [e86]; exact hR) (by rw [e86]; exact hd) (by rw [e86]; omega)
        rw [e86] at e2 q2
        exact ⟨st2, y4, y5, y6, e2, fr_mono (fr_tr f1 f2) (by decide), q2⟩
    · rw [if_neg hu, eX12_asks_79, eX12_asks_80, ew, i3]
      simp only [m_ob, g1, n_succ]
      have hq : ruf (st 86) kd (fcs (st 86) k) (m + 1) r = ruf (st 86) kd (fcs (st 86) k) m (r + 1) := by
        show (if _ then _ else _) = _
        simp [hu]
      rw [hq]
      exact asks_run d hk kd m (r + 1) st (some (.int (78 + 4 * Int32.ofNat r))) hR hd (by omega)
theorem bE (b : Bool) : bZ (b = true) = 0 ∨ bZ (b = true) = 1 := by rw [bZ_ok]; trivial
/-- what asks leaves: what a tower adds, whether he is silent -/
theorem s_asks (d : Nat) (st : zS) {k : Nat} (hk : k < 9) (hR : RG (st 86)) (hd : DG (st 86)) : RT (m_evc (d + 5) 171 [.ref 85, .int (Int32.ofNat k)] (SH, st)) none (fun st' => fr [85, 89] st st' ∧ st' 85 5 = ads (st 86) k ∧ st' 85 6 = bZ (sil (st 86) k = true) ∧ ∀ j, j ≠ 5 → j ≠ 6 → st' 85 j = st 85 j) := by
  obtain ⟨st1, y4, y5, y6, e1, f1, hq⟩ := asks_run d hk (st 86 (12 + 6 * k)) (st 86 4).toNatClampNeg 0 st none hR hd (by omega)
  have e86 : st1 86 = st 86 := f1 86 rfl
  have e85 : st1 85 = st 85 := f1 85 rfl
  rw [cal_X12_asks, eX12_asks_0, s_its0 _ _ hk]
  simp only [m_bd, Option.toList, List.cons_append, List.nil_append]
  rw [eX12_asks_6]
  have e0 : bg (st 86) 0 = 0 := rfl
  rw [e0] at e1
  rw [show (0 : Int32) = Int32.ofNat 0 from rfl, e1]
  have hr : ruf (st 86) (st 86 (12 + 6 * k)) (fcs (st 86) k) (st 86 4).toNatClampNeg 0 = rof (st 86) k := rfl
  rw [hr] at hq ⊢
  have fin : ∀ (z3 z4 z5 z6 a : Int32), m_ev none (d + 4) 171 186 [some (.ref 85), some (.int (Int32.ofNat k)), some (.int (st 86 (12 + 6 * k))), some (.int z3), some (.int z4), some (.int z5), some (.int z6), none] [.int a] (SH, st1) = some (none, (SH, m_up (m_up st1 85 5 (aw (st 86) k a)) 85 6 (bZ (z5 = 3)))) := by
    intro z3 z4 z5 z6 a
    have T : ∀ (z7 b : Int32), m_ev none (d + 4) 171 250 [some (.ref 85), some (.int (Int32.ofNat k)), some (.int (st 86 (12 + 6 * k))), some (.int z3), some (.int z4), some (.int z5), some (.int z6), some (.int z7)] [.int b, .ref 85] (SH, st1) = some (none, (SH, m_up (m_up st1 85 5 b) 85 6 (bZ (z5 = 3)))) := by
      intro z7 b
      rw [eX12_asks_250]
      by_cases h : z5 = 3
      · rw [if_pos h, eX12_asks_265, bZ_t h, if_pos (Or.inr rfl)]
      · rw [if_neg h, eX12_asks_264, eX12_asks_265, bZ_f h, if_pos (Or.inl rfl)]
    rw [eX12_asks_186]
    unfold aw
    by_cases h2 : st 86 (12 + 6 * k) = 2
    · rw [if_pos h2, if_pos h2, T]
    rw [if_neg h2, if_neg h2, eX12_asks_201]
    by_cases h3 : st 86 (12 + 6 * k) = 3
    · rw [if_pos h3, if_pos h3, e86]
      by_cases h6 : st 86 2 = 6
      · rw [if_pos h6, if_pos h6, eX12_asks_227, T]
      · rw [if_neg h6, if_neg h6, eX12_asks_226, eX12_asks_227, T]
    rw [if_neg h3, if_neg h3, eX12_asks_231]
    by_cases h4 : 3 < st 86 (12 + 6 * k)
    · rw [if_pos h4, if_pos h4, s_its2 _ _ hk, e86]
      simp only [m_bd, Option.toList, List.cons_append, List.nil_append]
      rw [eX12_asks_244, T]
    · rw [if_neg h4, if_neg h4, eX12_asks_248, T]
  have goal : m_ev none (d + 4) 171 98 [some (.ref 85), some (.int (Int32.ofNat k)), some (.int (st 86 (12 + 6 * k))), some (.int (match rof (st 86) k with | none => -1 | some q => Int32.ofNat (78 + 4 * q))), some (.int y4), some (.int y5), y6, none] [] (SH, st1) = some (none, (SH, m_up (m_up st1 85 5 (ads (st 86) k)) 85 6 (bZ (sil (st 86) k = true)))) := by
    unfold ads sil
    cases ho : rof (st 86) k with
    | none =>
      show m_ev none (d + 4) 171 98 [some (.ref 85), some (.int (Int32.ofNat k)), some (.int (st 86 (12 + 6 * k))), some (.int (-1)), some (.int y4), some (.int y5), y6, none] [] (SH, st1) = _
      rw [eX12_asks_98, if_pos n_neg1, eX12_asks_114, if_pos n_neg1, eX12_asks_132, if_neg (by decide), eX12_asks_144, if_neg (by decide), eX12_asks_162, if_neg (by decide), eX12_asks_180, s_its1 _ _ hk]
      simp only [m_bd, Option.toList, List.cons_append, List.nil_append]
      rw [fin, e86]
      rfl
    | some q =>
      have hq8 : q < 8 := hq q ho
      show m_ev none (d + 4) 171 98 [some (.ref 85), some (.int (Int32.ofNat k)), some (.int (st 86 (12 + 6 * k))), some (.int (Int32.ofNat (78 + 4 * q))), some (.int y4), some (.int y5), y6, none] [] (SH, st1) = _
      have hn : ¬ (Int32.ofNat (78 + 4 * q) < 0) := by rw [n_pos _ (by omega)]; exact id
      have i1 : m_ix (Int32.ofNat (78 + 4 * q) + 1) 310 = some (79 + 4 * q) := by
        rw [n_succ, ix_310 (by omega)]; congr 1; omega
      have i2 : m_ix (Int32.ofNat (78 + 4 * q) + 2) 310 = some (80 + 4 * q) := by
        rw [show (2 : Int32) = Int32.ofNat 2 from rfl, n_add, ix_310 (by omega)]; congr 1; omega
      rw [eX12_asks_98, if_neg hn, eX12_asks_106, i1]
      simp only [m_ob]
      rw [eX12_asks_114, if_neg hn, eX12_asks_124, i2]
      simp only [m_ob]
      rw [eX12_asks_132, e86]
      have e3 : bZ (slw (st 86) (some q) = true) = bZ (st 86 (79 + 4 * q) = 3) := bZ_c (by simp [slw])
      rw [e3]
      unfold ab
      by_cases h0 : st 86 (79 + 4 * q) = 0
      · simp only [if_pos h0]
        rw [fin]
      simp only [if_neg h0]
      rw [eX12_asks_144]
      by_cases h1 : st 86 (79 + 4 * q) = 1
      · simp only [if_pos h1]
        rw [s_its1 _ _ hk]
        simp only [m_bd, Option.toList, List.cons_append, List.nil_append]
        rw [eX12_asks_156, fin, e86]
      simp only [if_neg h1]
      rw [eX12_asks_162]
      by_cases h2 : st 86 (79 + 4 * q) = 2
      · simp only [if_pos h2]
        rw [s_its3 _ _ hk]
        simp only [m_bd, Option.toList, List.cons_append, List.nil_append]
        rw [eX12_asks_176, fin, e86]
      simp only [if_neg h2]
      rw [eX12_asks_180, s_its1 _ _ hk]
      simp only [m_bd, Option.toList, List.cons_append, List.nil_append]
      rw [fin, e86]
  refine ⟨_, goal, fr_up (fr_up (fr_mono f1 (by decide)) (by decide)) (by decide), ?_, ?_, ?_⟩
  · rw [up_nj (by decide), up_in]
  · rw [up_in]
  · intro j h5 h6
    rw [up_nj h6, up_nj h5, e85]
