/-! CALLS of the host: act, the class's things -/
def TX (st : zS) (l : List Int32) (p : Bool) : Prop := st 76 0 = Int32.ofNat l.length ∧ st 76 2 = (if p = true then 1 else 0) ∧ ∀ i, i < l.length → st 77 i = l.getD i 0
theorem getD_app {l : List Int32} {b : Int32} {i : Nat} (h : i < (l ++ [b]).length) : (l ++ [b]).getD i 0 = if i = l.length then b else l.getD i 0 := by
  simp only [List.length_append, List.length_cons, List.length_nil] at h
  by_cases q : i = l.length
  · subst q; simp [List.getD]
  · rw [if_neg q]
    simp only [List.getD]
    rw [List.getElem?_append_left (by omega)]
theorem x_begin (d : Nat) {st : zS} {l : List Int32} (h : TX st l false) (hl : l.length < 30) (b : Int32) : RT (m_evc (d + 1) 66 [.ref 76, .int b] (SH, st)) none (fun st' => fr [76, 77] st st' ∧ TX st' (l ++ [b]) false) := by
  obtain ⟨h1, h2, h3⟩ := h
  refine ⟨m_up (m_up st 76 0 (st 76 0 + 1)) 77 l.length b, ?_, fr_up (fr_up (fr_refl _ _) rfl) rfl, ?_, ?_, fun i hi => ?_⟩
  · rw [cal_X8_begin, eX8_begin_0, if_pos (show st 76 2 = 0 from h2), if_pos (by rw [h1, show (30 : Int32) = Int32.ofNat 30 from rfl, n_lt (by omega) (by omega)]; exact hl), h1, ix_30 hl, ob_s, eX8_begin_36]
  · rw [up_ne (by decide), up_in, h1, n_succ]; simp
  · rw [up_ne (by decide), up_nj (by decide)]; exact h2
  · rw [getD_app hi]
    by_cases q : i = l.length
    · rw [if_pos q, q, up_in]
    · rw [if_neg q, up_nj q, up_ne (by decide)]
      simp only [List.length_append, List.length_cons, List.length_nil] at hi
      exact h3 i (by omega)
theorem x_beginP (d : Nat) {st : zS} {l : List Int32} (h : TX st l true) (b : Int32) : m_evc (d + 1) 66 [.ref 76, .int b] (SH, st) = some (none, (SH, st)) := by
  rw [cal_X8_begin, eX8_begin_0, if_neg (by rw [h.2.1]; decide), eX8_begin_36]
theorem xB1 (d : Nat) {st : zS} {l : List Int32} (h : TX st l false) (hl : l.length < 28) (x : Int32) : RT (m_evc (d + 2) 75 [.ref 80, .int x] (SH, st)) (some (.int (x + st 80 1))) (fun st' => fr [76, 77] st st' ∧ TX st' (l ++ [10]) false) := by
  obtain ⟨a, ea, fa, ta⟩ := x_begin d h (by omega) 10
  refine ⟨a, ?_, fa, ta⟩
  rw [cal_bX10_cries (d + 1), ebX10_cries_0, ea]
  simp only [m_bd, Option.toList, List.cons_append, List.nil_append]
  rw [ebX10_cries_9, fa 80 rfl]
theorem xC1 (d : Nat) {st : zS} {l : List Int32} (h : TX st l false) (hl : l.length < 26) (x : Int32) : RT (m_evc (d + 3) 22 [.ref 80, .int x] (SH, st)) (some (.int ((x + st 80 1) * 3))) (fun st' => fr [76, 77] st st' ∧ TX st' (l ++ [20, 10]) false) := by
  obtain ⟨a, ea, fa, ta⟩ := x_begin (d + 1) h (by omega) 20
  obtain ⟨c, ec, fc, tc⟩ := xB1 d ta (by simp; omega) x
  refine ⟨c, ?_, fr_mono (fr_tr fa fc) (by decide), by rw [List.append_assoc] at tc; exact tc⟩
  rw [cal_X3_cries (d + 2), eX3_cries_0, ea]
  simp only [m_bd, Option.toList, List.cons_append, List.nil_append]
  rw [eX3_cries_9, ec]
  simp only [m_bd, Option.toList, List.cons_append, List.nil_append]
  rw [eX3_cries_14, fa 80 rfl]
theorem xG1 (d : Nat) {st : zS} {l : List Int32} (h : TX st l false) (hl : l.length < 24) (x : Int32) : RT (m_evc (d + 4) 76 [.ref 80, .int x] (SH, st)) (some (.int (((x + st 80 1) * 3) * 2))) (fun st' => fr [76, 77] st st' ∧ TX st' (l ++ [11, 20, 10]) false) := by
  obtain ⟨a, ea, fa, ta⟩ := x_begin (d + 2) h (by omega) 11
  obtain ⟨c, ec, fc, tc⟩ := xC1 d ta (by simp; omega) x
  refine ⟨c, ?_, fr_mono (fr_tr fa fc) (by decide), by rw [List.append_assoc] at tc; exact tc⟩
  rw [cal_bX10_hears (d + 3), ebX10_hears_0, ea]
  simp only [m_bd, Option.toList, List.cons_append, List.nil_append]
  rw [ebX10_hears_9, ec]
  simp only [m_bd, Option.toList, List.cons_append, List.nil_append]
  rw [ebX10_hears_14, fa 80 rfl]
theorem xH1 (d : Nat) {st : zS} {l : List Int32} (h : TX st l false) (hl : l.length < 22) (x : Int32) : RT (m_evc (d + 5) 76 [.ref 80, .int x] (SH, st)) (some (.int (((x + st 80 1) * 3) * 2))) (fun st' => fr [76, 77] st st' ∧ TX st' (l ++ [11, 20, 10]) false) := by
  exact xG1 (d + 1) h (by omega) x
theorem xP1 (d : Nat) {st : zS} {l : List Int32} (h : TX st l false) (hl : l.length < 28) (x : Int32) : RT (m_evc (d + 2) 77 [.ref 80, .int x] (SH, st)) (some (.int (if st 80 2 - st 80 1 = 0 then 0 else x / (st 80 2 - st 80 1)))) (fun st' => fr [76, 77] st st' ∧ TX st' (l ++ [12]) (decide (st 80 2 - st 80 1 = 0))) := by
  obtain ⟨a, ea, fa, ta⟩ := x_begin d h (by omega) 12
  have er : a 80 = st 80 := fa 80 rfl
  by_cases q : st 80 2 - st 80 1 = 0
  · refine ⟨m_up a 76 2 1, ?_, fr_up fa rfl, ?_⟩
    · rw [cal_bX10_shares (d + 1), ebX10_shares_0, ea]
      simp only [m_bd, Option.toList, List.cons_append, List.nil_append]
      rw [ebX10_shares_9, er, if_pos q, if_pos q]
    · rw [decide_eq_true q]
      obtain ⟨t1, t2, t3⟩ := ta
      exact ⟨by rw [up_nj (by decide)]; exact t1, by rw [up_in]; rfl, fun i hi => by rw [up_ne (by decide)]; exact t3 i hi⟩
  · refine ⟨a, ?_, fa, by rw [decide_eq_false q]; exact ta⟩
    rw [cal_bX10_shares (d + 1), ebX10_shares_0, ea]
    simp only [m_bd, Option.toList, List.cons_append, List.nil_append]
    rw [ebX10_shares_9, er, if_neg q, ebX10_shares_33, if_neg q, if_neg q]
theorem xU1 (d : Nat) {st : zS} {l : List Int32} (h : TX st l false) (hl : l.length < 20) (x : Int32) : RT (m_evc (d + 6) 78 [.ref 80, .int x] (SH, st)) (some (.int ((((x + st 80 1) * 3) * 2) ^^^ st 80 2))) (fun st' => fr [76, 77] st st' ∧ TX st' (l ++ [13, 11, 20, 10]) false) := by
  obtain ⟨a, ea, fa, ta⟩ := x_begin (d + 4) h (by omega) 13
  obtain ⟨c, ec, fc, tc⟩ := xH1 d ta (by simp; omega) x
  refine ⟨c, ?_, fr_mono (fr_tr fa fc) (by decide), by rw [List.append_assoc] at tc; exact tc⟩
  rw [cal_bX10_tells (d + 5), ebX10_tells_0, ea]
  simp only [m_bd, Option.toList, List.cons_append, List.nil_append]
  rw [ebX10_tells_9, ec]
  simp only [m_bd, Option.toList, List.cons_append, List.nil_append]
  rw [ebX10_tells_14, fc 80 rfl, fa 80 rfl]
theorem xB2 (d : Nat) {st : zS} {l : List Int32} (h : TX st l false) (hl : l.length < 28) (x : Int32) : RT (m_evc (d + 2) 75 [.ref 81, .int x] (SH, st)) (some (.int (x + st 81 1))) (fun st' => fr [76, 77] st st' ∧ TX st' (l ++ [10]) false) := by
  obtain ⟨a, ea, fa, ta⟩ := x_begin d h (by omega) 10
  refine ⟨a, ?_, fa, ta⟩
  rw [cal_cX10_cries (d + 1), ecX10_cries_0, ea]
  simp only [m_bd, Option.toList, List.cons_append, List.nil_append]
  rw [ecX10_cries_9, fa 81 rfl]
theorem xC2 (d : Nat) {st : zS} {l : List Int32} (h : TX st l false) (hl : l.length < 26) (x : Int32) : RT (m_evc (d + 3) 75 [.ref 81, .int x] (SH, st)) (some (.int (x + st 81 1))) (fun st' => fr [76, 77] st st' ∧ TX st' (l ++ [10]) false) := by
  exact xB2 (d + 1) h (by omega) x
theorem xG2 (d : Nat) {st : zS} {l : List Int32} (h : TX st l false) (hl : l.length < 24) (x : Int32) : RT (m_evc (d + 4) 76 [.ref 81, .int x] (SH, st)) (some (.int ((x + st 81 1) * 2))) (fun st' => fr [76, 77] st st' ∧ TX st' (l ++ [11, 10]) false) := by
  obtain ⟨a, ea, fa, ta⟩ := x_begin (d + 2) h (by omega) 11
  obtain ⟨c, ec, fc, tc⟩ := xC2 d ta (by simp; omega) x
  refine ⟨c, ?_, fr_mono (fr_tr fa fc) (by decide), by rw [List.append_assoc] at tc; exact tc⟩
  rw [cal_cX10_hears (d + 3), ecX10_hears_0, ea]
  simp only [m_bd, Option.toList, List.cons_append, List.nil_append]
  rw [ecX10_hears_9, ec]
  simp only [m_bd, Option.toList, List.cons_append, List.nil_append]
  rw [ecX10_hears_14, fa 81 rfl]
theorem xH2 (d : Nat) {st : zS} {l : List Int32} (h : TX st l false) (hl : l.length < 22) (x : Int32) : RT (m_evc (d + 5) 24 [.ref 81, .int x] (SH, st)) (some (.int ((x + st 81 1) * 2 - st 81 2))) (fun st' => fr [76, 77] st st' ∧ TX st' (l ++ [30, 11, 10]) false) := by
  obtain ⟨a, ea, fa, ta⟩ := x_begin (d + 3) h (by omega) 30
  obtain ⟨c, ec, fc, tc⟩ := xG2 d ta (by simp; omega) x
  refine ⟨c, ?_, fr_mono (fr_tr fa fc) (by decide), by rw [List.append_assoc] at tc; exact tc⟩
  rw [cal_aX4_hears (d + 4), eaX4_hears_0, ea]
  simp only [m_bd, Option.toList, List.cons_append, List.nil_append]
  rw [eaX4_hears_9, ec]
  simp only [m_bd, Option.toList, List.cons_append, List.nil_append]
  rw [eaX4_hears_14, fc 81 rfl, fa 81 rfl]
theorem xP2 (d : Nat) {st : zS} {l : List Int32} (h : TX st l false) (hl : l.length < 28) (x : Int32) : RT (m_evc (d + 2) 77 [.ref 81, .int x] (SH, st)) (some (.int (if st 81 2 - st 81 1 = 0 then 0 else x / (st 81 2 - st 81 1)))) (fun st' => fr [76, 77] st st' ∧ TX st' (l ++ [12]) (decide (st 81 2 - st 81 1 = 0))) := by
  obtain ⟨a, ea, fa, ta⟩ := x_begin d h (by omega) 12
  have er : a 81 = st 81 := fa 81 rfl
  by_cases q : st 81 2 - st 81 1 = 0
  · refine ⟨m_up a 76 2 1, ?_, fr_up fa rfl, ?_⟩
    · rw [cal_cX10_shares (d + 1), ecX10_shares_0, ea]
      simp only [m_bd, Option.toList, List.cons_append, List.nil_append]
      rw [ecX10_shares_9, er, if_pos q, if_pos q]
    · rw [decide_eq_true q]
      obtain ⟨t1, t2, t3⟩ := ta
      exact ⟨by rw [up_nj (by decide)]; exact t1, by rw [up_in]; rfl, fun i hi => by rw [up_ne (by decide)]; exact t3 i hi⟩
  · refine ⟨a, ?_, fa, by rw [decide_eq_false q]; exact ta⟩
    rw [cal_cX10_shares (d + 1), ecX10_shares_0, ea]
    simp only [m_bd, Option.toList, List.cons_append, List.nil_append]
    rw [ecX10_shares_9, er, if_neg q, ecX10_shares_33, if_neg q, if_neg q]
theorem xU2 (d : Nat) {st : zS} {l : List Int32} (h : TX st l false) (hl : l.length < 20) (x : Int32) : RT (m_evc (d + 6) 78 [.ref 81, .int x] (SH, st)) (some (.int (((x + st 81 1) * 2 - st 81 2) ^^^ st 81 2))) (fun st' => fr [76, 77] st st' ∧ TX st' (l ++ [13, 30, 11, 10]) false) := by
  obtain ⟨a, ea, fa, ta⟩ := x_begin (d + 4) h (by omega) 13
  obtain ⟨c, ec, fc, tc⟩ := xH2 d ta (by simp; omega) x
  refine ⟨c, ?_, fr_mono (fr_tr fa fc) (by decide), by rw [List.append_assoc] at tc; exact tc⟩
  rw [cal_cX10_tells (d + 5), ecX10_tells_0, ea]
  simp only [m_bd, Option.toList, List.cons_append, List.nil_append]
  rw [ecX10_tells_9, ec]
  simp only [m_bd, Option.toList, List.cons_append, List.nil_append]
  rw [ecX10_tells_14, fc 81 rfl, fa 81 rfl]
theorem xB3 (d : Nat) {st : zS} {l : List Int32} (h : TX st l false) (hl : l.length < 28) (x : Int32) : RT (m_evc (d + 2) 75 [.ref 82, .int x] (SH, st)) (some (.int (x + st 82 1))) (fun st' => fr [76, 77] st st' ∧ TX st' (l ++ [10]) false) := by
  obtain ⟨a, ea, fa, ta⟩ := x_begin d h (by omega) 10
  refine ⟨a, ?_, fa, ta⟩
  rw [cal_dX10_cries (d + 1), edX10_cries_0, ea]
  simp only [m_bd, Option.toList, List.cons_append, List.nil_append]
  rw [edX10_cries_9, fa 82 rfl]
theorem xC3 (d : Nat) {st : zS} {l : List Int32} (h : TX st l false) (hl : l.length < 26) (x : Int32) : RT (m_evc (d + 3) 17 [.ref 82, .int x] (SH, st)) (some (.int ((x + st 82 1) ^^^ st 82 1))) (fun st' => fr [76, 77] st st' ∧ TX st' (l ++ [50, 10]) false) := by
  obtain ⟨a, ea, fa, ta⟩ := x_begin (d + 1) h (by omega) 50
  obtain ⟨c, ec, fc, tc⟩ := xB3 d ta (by simp; omega) x
  refine ⟨c, ?_, fr_mono (fr_tr fa fc) (by decide), by rw [List.append_assoc] at tc; exact tc⟩
  rw [cal_X1_cries (d + 2), eX1_cries_0, ea]
  simp only [m_bd, Option.toList, List.cons_append, List.nil_append]
  rw [eX1_cries_9, ec]
  simp only [m_bd, Option.toList, List.cons_append, List.nil_append]
  rw [eX1_cries_14, fc 82 rfl, fa 82 rfl]
theorem xG3 (d : Nat) {st : zS} {l : List Int32} (h : TX st l false) (hl : l.length < 24) (x : Int32) : RT (m_evc (d + 4) 76 [.ref 82, .int x] (SH, st)) (some (.int (((x + st 82 1) ^^^ st 82 1) * 2))) (fun st' => fr [76, 77] st st' ∧ TX st' (l ++ [11, 50, 10]) false) := by
  obtain ⟨a, ea, fa, ta⟩ := x_begin (d + 2) h (by omega) 11
  obtain ⟨c, ec, fc, tc⟩ := xC3 d ta (by simp; omega) x
  refine ⟨c, ?_, fr_mono (fr_tr fa fc) (by decide), by rw [List.append_assoc] at tc; exact tc⟩
  rw [cal_dX10_hears (d + 3), edX10_hears_0, ea]
  simp only [m_bd, Option.toList, List.cons_append, List.nil_append]
  rw [edX10_hears_9, ec]
  simp only [m_bd, Option.toList, List.cons_append, List.nil_append]
  rw [edX10_hears_14, fa 82 rfl]
theorem xH3 (d : Nat) {st : zS} {l : List Int32} (h : TX st l false) (hl : l.length < 22) (x : Int32) : RT (m_evc (d + 5) 24 [.ref 82, .int x] (SH, st)) (some (.int (((x + st 82 1) ^^^ st 82 1) * 2 - st 82 2))) (fun st' => fr [76, 77] st st' ∧ TX st' (l ++ [30, 11, 50, 10]) false) := by
  obtain ⟨a, ea, fa, ta⟩ := x_begin (d + 3) h (by omega) 30
  obtain ⟨c, ec, fc, tc⟩ := xG3 d ta (by simp; omega) x
  refine ⟨c, ?_, fr_mono (fr_tr fa fc) (by decide), by rw [List.append_assoc] at tc; exact tc⟩
  rw [cal_bX4_hears (d + 4), ebX4_hears_0, ea]
  simp only [m_bd, Option.toList, List.cons_append, List.nil_append]
  rw [ebX4_hears_9, ec]
  simp only [m_bd, Option.toList, List.cons_append, List.nil_append]
  rw [ebX4_hears_14, fc 82 rfl, fa 82 rfl]
theorem xP3 (d : Nat) {st : zS} {l : List Int32} (h : TX st l false) (hl : l.length < 28) (x : Int32) : RT (m_evc (d + 2) 77 [.ref 82, .int x] (SH, st)) (some (.int (if st 82 2 - st 82 1 = 0 then 0 else x / (st 82 2 - st 82 1)))) (fun st' => fr [76, 77] st st' ∧ TX st' (l ++ [12]) (decide (st 82 2 - st 82 1 = 0))) := by
  obtain ⟨a, ea, fa, ta⟩ := x_begin d h (by omega) 12
  have er : a 82 = st 82 := fa 82 rfl
  by_cases q : st 82 2 - st 82 1 = 0
  · refine ⟨m_up a 76 2 1, ?_, fr_up fa rfl, ?_⟩
    · rw [cal_dX10_shares (d + 1), edX10_shares_0, ea]
      simp only [m_bd, Option.toList, List.cons_append, List.nil_append]
      rw [edX10_shares_9, er, if_pos q, if_pos q]
    · rw [decide_eq_true q]
      obtain ⟨t1, t2, t3⟩ := ta
      exact ⟨by rw [up_nj (by decide)]; exact t1, by rw [up_in]; rfl, fun i hi => by rw [up_ne (by decide)]; exact t3 i hi⟩
  · refine ⟨a, ?_, fa, by rw [decide_eq_false q]; exact ta⟩
    rw [cal_dX10_shares (d + 1), edX10_shares_0, ea]
    simp only [m_bd, Option.toList, List.cons_append, List.nil_append]
    rw [edX10_shares_9, er, if_neg q, edX10_shares_33, if_neg q, if_neg q]
theorem xU3 (d : Nat) {st : zS} {l : List Int32} (h : TX st l false) (hl : l.length < 20) (x : Int32) : RT (m_evc (d + 6) 78 [.ref 82, .int x] (SH, st)) (some (.int ((((x + st 82 1) ^^^ st 82 1) * 2 - st 82 2) ^^^ st 82 2))) (fun st' => fr [76, 77] st st' ∧ TX st' (l ++ [13, 30, 11, 50, 10]) false) := by
  obtain ⟨a, ea, fa, ta⟩ := x_begin (d + 4) h (by omega) 13
  obtain ⟨c, ec, fc, tc⟩ := xH3 d ta (by simp; omega) x
  refine ⟨c, ?_, fr_mono (fr_tr fa fc) (by decide), by rw [List.append_assoc] at tc; exact tc⟩
  rw [cal_dX10_tells (d + 5), edX10_tells_0, ea]
  simp only [m_bd, Option.toList, List.cons_append, List.nil_append]
  rw [edX10_tells_9, ec]
  simp only [m_bd, Option.toList, List.cons_append, List.nil_append]
  rw [edX10_tells_14, fc 82 rfl, fa 82 rfl]
theorem xB4 (d : Nat) {st : zS} {l : List Int32} (h : TX st l false) (hl : l.length < 28) (x : Int32) : RT (m_evc (d + 2) 75 [.ref 83, .int x] (SH, st)) (some (.int (x + st 83 1))) (fun st' => fr [76, 77] st st' ∧ TX st' (l ++ [10]) false) := by
  obtain ⟨a, ea, fa, ta⟩ := x_begin d h (by omega) 10
  refine ⟨a, ?_, fa, ta⟩
  rw [cal_eX10_cries (d + 1), eeX10_cries_0, ea]
  simp only [m_bd, Option.toList, List.cons_append, List.nil_append]
  rw [eeX10_cries_9, fa 83 rfl]
theorem xC4 (d : Nat) {st : zS} {l : List Int32} (h : TX st l false) (hl : l.length < 26) (x : Int32) : RT (m_evc (d + 3) 75 [.ref 83, .int x] (SH, st)) (some (.int (x + st 83 1))) (fun st' => fr [76, 77] st st' ∧ TX st' (l ++ [10]) false) := by
  exact xB4 (d + 1) h (by omega) x
theorem xG4 (d : Nat) {st : zS} {l : List Int32} (h : TX st l false) (hl : l.length < 24) (x : Int32) : RT (m_evc (d + 4) 76 [.ref 83, .int x] (SH, st)) (some (.int ((x + st 83 1) * 2))) (fun st' => fr [76, 77] st st' ∧ TX st' (l ++ [11, 10]) false) := by
  obtain ⟨a, ea, fa, ta⟩ := x_begin (d + 2) h (by omega) 11
  obtain ⟨c, ec, fc, tc⟩ := xC4 d ta (by simp; omega) x
  refine ⟨c, ?_, fr_mono (fr_tr fa fc) (by decide), by rw [List.append_assoc] at tc; exact tc⟩
  rw [cal_eX10_hears (d + 3), eeX10_hears_0, ea]
  simp only [m_bd, Option.toList, List.cons_append, List.nil_append]
  rw [eeX10_hears_9, ec]
  simp only [m_bd, Option.toList, List.cons_append, List.nil_append]
  rw [eeX10_hears_14, fa 83 rfl]
theorem xH4 (d : Nat) {st : zS} {l : List Int32} (h : TX st l false) (hl : l.length < 22) (x : Int32) : RT (m_evc (d + 5) 76 [.ref 83, .int x] (SH, st)) (some (.int ((x + st 83 1) * 2))) (fun st' => fr [76, 77] st st' ∧ TX st' (l ++ [11, 10]) false) := by
  exact xG4 (d + 1) h (by omega) x
theorem xP4 (d : Nat) {st : zS} {l : List Int32} (h : TX st l false) (hl : l.length < 28) (x : Int32) : RT (m_evc (d + 2) 77 [.ref 83, .int x] (SH, st)) (some (.int (if st 83 2 - st 83 1 = 0 then 0 else x / (st 83 2 - st 83 1)))) (fun st' => fr [76, 77] st st' ∧ TX st' (l ++ [12]) (decide (st 83 2 - st 83 1 = 0))) := by
  obtain ⟨a, ea, fa, ta⟩ := x_begin d h (by omega) 12
  have er : a 83 = st 83 := fa 83 rfl
  by_cases q : st 83 2 - st 83 1 = 0
  · refine ⟨m_up a 76 2 1, ?_, fr_up fa rfl, ?_⟩
    · rw [cal_eX10_shares (d + 1), eeX10_shares_0, ea]
      simp only [m_bd, Option.toList, List.cons_append, List.nil_append]
      rw [eeX10_shares_9, er, if_pos q, if_pos q]
    · rw [decide_eq_true q]
      obtain ⟨t1, t2, t3⟩ := ta
      exact ⟨by rw [up_nj (by decide)]; exact t1, by rw [up_in]; rfl, fun i hi => by rw [up_ne (by decide)]; exact t3 i hi⟩
  · refine ⟨a, ?_, fa, by rw [decide_eq_false q]; exact ta⟩
    rw [cal_eX10_shares (d + 1), eeX10_shares_0, ea]
    simp only [m_bd, Option.toList, List.cons_append, List.nil_append]
    rw [eeX10_shares_9, er, if_neg q, eeX10_shares_33, if_neg q, if_neg q]
theorem xQ4 (d : Nat) {st : zS} {l : List Int32} (h : TX st l false) (hl : l.length < 26) (x : Int32) : RT (m_evc (d + 3) 20 [.ref 83, .int x] (SH, st)) (some (.int (if st 83 2 - st 83 1 = 0 then 0 else (x + 1) / (st 83 2 - st 83 1)))) (fun st' => fr [76, 77] st st' ∧ TX st' (l ++ [40, 12]) (decide (st 83 2 - st 83 1 = 0))) := by
  obtain ⟨a, ea, fa, ta⟩ := x_begin (d + 1) h (by omega) 40
  obtain ⟨c, ec, fc, tc⟩ := xP4 d ta (by simp; omega) (x + 1)
  rw [fa 83 rfl] at ec tc
  refine ⟨c, ?_, fr_mono (fr_tr fa fc) (by decide), by rw [List.append_assoc] at tc; exact tc⟩
  rw [cal_aX2_shares (d + 2), eaX2_shares_0, ea]
  simp only [m_bd, Option.toList, List.cons_append, List.nil_append]
  rw [eaX2_shares_9, ec]
  simp only [m_bd, Option.toList, List.cons_append, List.nil_append]
  rw [eaX2_shares_16]
theorem xU4 (d : Nat) {st : zS} {l : List Int32} (h : TX st l false) (hl : l.length < 20) (x : Int32) : RT (m_evc (d + 6) 78 [.ref 83, .int x] (SH, st)) (some (.int (((x + st 83 1) * 2) ^^^ st 83 2))) (fun st' => fr [76, 77] st st' ∧ TX st' (l ++ [13, 11, 10]) false) := by
  obtain ⟨a, ea, fa, ta⟩ := x_begin (d + 4) h (by omega) 13
  obtain ⟨c, ec, fc, tc⟩ := xH4 d ta (by simp; omega) x
  refine ⟨c, ?_, fr_mono (fr_tr fa fc) (by decide), by rw [List.append_assoc] at tc; exact tc⟩
  rw [cal_eX10_tells (d + 5), eeX10_tells_0, ea]
  simp only [m_bd, Option.toList, List.cons_append, List.nil_append]
  rw [eeX10_tells_9, ec]
  simp only [m_bd, Option.toList, List.cons_append, List.nil_append]
  rw [eeX10_tells_14, fc 83 rfl, fa 83 rfl]
theorem xB5 (d : Nat) {st : zS} {l : List Int32} (h : TX st l false) (hl : l.length < 28) (x : Int32) : RT (m_evc (d + 2) 75 [.ref 84, .int x] (SH, st)) (some (.int (x + st 84 1))) (fun st' => fr [76, 77] st st' ∧ TX st' (l ++ [10]) false) := by
  obtain ⟨a, ea, fa, ta⟩ := x_begin d h (by omega) 10
  refine ⟨a, ?_, fa, ta⟩
  rw [cal_fX10_cries (d + 1), efX10_cries_0, ea]
  simp only [m_bd, Option.toList, List.cons_append, List.nil_append]
  rw [efX10_cries_9, fa 84 rfl]
theorem xC5 (d : Nat) {st : zS} {l : List Int32} (h : TX st l false) (hl : l.length < 26) (x : Int32) : RT (m_evc (d + 3) 75 [.ref 84, .int x] (SH, st)) (some (.int (x + st 84 1))) (fun st' => fr [76, 77] st st' ∧ TX st' (l ++ [10]) false) := by
  exact xB5 (d + 1) h (by omega) x
theorem xG5 (d : Nat) {st : zS} {l : List Int32} (h : TX st l false) (hl : l.length < 24) (x : Int32) : RT (m_evc (d + 4) 76 [.ref 84, .int x] (SH, st)) (some (.int ((x + st 84 1) * 2))) (fun st' => fr [76, 77] st st' ∧ TX st' (l ++ [11, 10]) false) := by
  obtain ⟨a, ea, fa, ta⟩ := x_begin (d + 2) h (by omega) 11
  obtain ⟨c, ec, fc, tc⟩ := xC5 d ta (by simp; omega) x
  refine ⟨c, ?_, fr_mono (fr_tr fa fc) (by decide), by rw [List.append_assoc] at tc; exact tc⟩
  rw [cal_fX10_hears (d + 3), efX10_hears_0, ea]
  simp only [m_bd, Option.toList, List.cons_append, List.nil_append]
  rw [efX10_hears_9, ec]
  simp only [m_bd, Option.toList, List.cons_append, List.nil_append]
  rw [efX10_hears_14, fa 84 rfl]
theorem xH5 (d : Nat) {st : zS} {l : List Int32} (h : TX st l false) (hl : l.length < 22) (x : Int32) : RT (m_evc (d + 5) 62 [.ref 84, .int x] (SH, st)) (some (.int (0 - (x + st 84 1) * 2))) (fun st' => fr [76, 77] st st' ∧ TX st' (l ++ [60, 11, 10]) false) := by
  obtain ⟨a, ea, fa, ta⟩ := x_begin (d + 3) h (by omega) 60
  obtain ⟨c, ec, fc, tc⟩ := xG5 d ta (by simp; omega) x
  refine ⟨c, ?_, fr_mono (fr_tr fa fc) (by decide), by rw [List.append_assoc] at tc; exact tc⟩
  rw [cal_X7_hears (d + 4), eX7_hears_0, ea]
  simp only [m_bd, Option.toList, List.cons_append, List.nil_append]
  rw [eX7_hears_9, ec]
  simp only [m_bd, Option.toList, List.cons_append, List.nil_append]
  rw [eX7_hears_15, fa 84 rfl]
theorem xP5 (d : Nat) {st : zS} {l : List Int32} (h : TX st l false) (hl : l.length < 28) (x : Int32) : RT (m_evc (d + 2) 77 [.ref 84, .int x] (SH, st)) (some (.int (if st 84 2 - st 84 1 = 0 then 0 else x / (st 84 2 - st 84 1)))) (fun st' => fr [76, 77] st st' ∧ TX st' (l ++ [12]) (decide (st 84 2 - st 84 1 = 0))) := by
  obtain ⟨a, ea, fa, ta⟩ := x_begin d h (by omega) 12
  have er : a 84 = st 84 := fa 84 rfl
  by_cases q : st 84 2 - st 84 1 = 0
  · refine ⟨m_up a 76 2 1, ?_, fr_up fa rfl, ?_⟩
    · rw [cal_fX10_shares (d + 1), efX10_shares_0, ea]
      simp only [m_bd, Option.toList, List.cons_append, List.nil_append]
      rw [efX10_shares_9, er, if_pos q, if_pos q]
    · rw [decide_eq_true q]
      obtain ⟨t1, t2, t3⟩ := ta
      exact ⟨by rw [up_nj (by decide)]; exact t1, by rw [up_in]; rfl, fun i hi => by rw [up_ne (by decide)]; exact t3 i hi⟩
  · refine ⟨a, ?_, fa, by rw [decide_eq_false q]; exact ta⟩
    rw [cal_fX10_shares (d + 1), efX10_shares_0, ea]
    simp only [m_bd, Option.toList, List.cons_append, List.nil_append]
    rw [efX10_shares_9, er, if_neg q, efX10_shares_33, if_neg q, if_neg q]
theorem xQ5 (d : Nat) {st : zS} {l : List Int32} (h : TX st l false) (hl : l.length < 26) (x : Int32) : RT (m_evc (d + 3) 20 [.ref 84, .int x] (SH, st)) (some (.int (if st 84 2 - st 84 1 = 0 then 0 else (x + 1) / (st 84 2 - st 84 1)))) (fun st' => fr [76, 77] st st' ∧ TX st' (l ++ [40, 12]) (decide (st 84 2 - st 84 1 = 0))) := by
  obtain ⟨a, ea, fa, ta⟩ := x_begin (d + 1) h (by omega) 40
  obtain ⟨c, ec, fc, tc⟩ := xP5 d ta (by simp; omega) (x + 1)
  rw [fa 84 rfl] at ec tc
  refine ⟨c, ?_, fr_mono (fr_tr fa fc) (by decide), by rw [List.append_assoc] at tc; exact tc⟩
  rw [cal_bX2_shares (d + 2), ebX2_shares_0, ea]
  simp only [m_bd, Option.toList, List.cons_append, List.nil_append]
  rw [ebX2_shares_9, ec]
  simp only [m_bd, Option.toList, List.cons_append, List.nil_append]
  rw [ebX2_shares_16]
theorem xU5 (d : Nat) {st : zS} {l : List Int32} (h : TX st l false) (hl : l.length < 20) (x : Int32) : RT (m_evc (d + 6) 78 [.ref 84, .int x] (SH, st)) (some (.int ((0 - (x + st 84 1) * 2) ^^^ st 84 2))) (fun st' => fr [76, 77] st st' ∧ TX st' (l ++ [13, 60, 11, 10]) false) := by
  obtain ⟨a, ea, fa, ta⟩ := x_begin (d + 4) h (by omega) 13
  obtain ⟨c, ec, fc, tc⟩ := xH5 d ta (by simp; omega) x
  refine ⟨c, ?_, fr_mono (fr_tr fa fc) (by decide), by rw [List.append_assoc] at tc; exact tc⟩
  rw [cal_fX10_tells (d + 5), efX10_tells_0, ea]
  simp only [m_bd, Option.toList, List.cons_append, List.nil_append]
  rw [efX10_tells_9, ec]
  simp only [m_bd, Option.toList, List.cons_append, List.nil_append]
  rw [efX10_tells_14, fc 84 rfl, fa 84 rfl]
theorem xS5 (d : Nat) {st : zS} {l : List Int32} (h : TX st l false) (hl : l.length < 20) (x : Int32) : ∃ v, (¬ st 84 2 - st 84 1 = 0 → v = (x + 1) / (st 84 2 - st 84 1) + (st 84 2 + st 84 1)) ∧ RT (m_evc (d + 4) 63 [.ref 84, .int x] (SH, st)) (some (.int v)) (fun st' => fr [76, 77] st st' ∧ TX st' (l ++ (if st 84 2 - st 84 1 = 0 then [61, 40, 12] else [61, 40, 12, 10])) (decide (st 84 2 - st 84 1 = 0))) := by
  obtain ⟨a, ea, fa, ta⟩ := x_begin (d + 2) h (by omega) 61
  obtain ⟨c, ec, fc, tc⟩ := xQ5 d ta (by simp; omega) x
  rw [fa 84 rfl] at ec tc
  have fac : fr [76, 77] st c := fr_mono (fr_tr fa fc) (by decide)
  have c84 : c 84 = st 84 := fac 84 rfl
  by_cases q : st 84 2 - st 84 1 = 0
  · rw [decide_eq_true q] at tc
    refine ⟨0 + (st 84 2 + st 84 1), fun w => absurd q w, c, ?_, fac, ?_⟩
    · rw [cal_X7_shares (d + 3), eX7_shares_0, ea]
      simp only [m_bd, Option.toList, List.cons_append, List.nil_append]
      rw [eX7_shares_9, ec, if_pos q]
      simp only [m_bd, Option.toList, List.cons_append, List.nil_append]
      rw [eX7_shares_14, cal_fX10_cries (d + 2), efX10_cries_0, x_beginP (d + 1) tc]
      simp only [m_bd, Option.toList, List.cons_append, List.nil_append]
      rw [efX10_cries_9, c84]
      simp only [m_bd, Option.toList, List.cons_append, List.nil_append]
      rw [eX7_shares_22]
    · rw [if_pos q, decide_eq_true q]
      rw [List.append_assoc] at tc
      exact tc
  · rw [decide_eq_false q] at tc
    obtain ⟨e, ee, fe, te⟩ := xB5 (d + 1) tc (by simp; omega) (c 84 2)
    refine ⟨_, fun _ => rfl, e, ?_, fr_mono (fr_tr fac fe) (by decide), ?_⟩
    · rw [cal_X7_shares (d + 3), eX7_shares_0, ea]
      simp only [m_bd, Option.toList, List.cons_append, List.nil_append]
      rw [eX7_shares_9, ec, if_neg q]
      simp only [m_bd, Option.toList, List.cons_append, List.nil_append]
      rw [eX7_shares_14, ee]
      simp only [m_bd, Option.toList, List.cons_append, List.nil_append]
      rw [eX7_shares_22, c84]
    · rw [if_neg q, decide_eq_false q]
      rw [List.append_assoc, List.append_assoc] at te
      exact te
theorem xT3 (d : Nat) {st : zS} {l : List Int32} (h : TX st l false) (hl : l.length < 18) (x : Int32) : RT (m_evc (d + 7) 18 [.ref 82, .int x] (SH, st)) (some (.int ((((((x + st 82 1) ^^^ st 82 1) * 2 - st 82 2) ^^^ st 82 2) + (if st 82 2 - st 82 1 = 0 then 0 else st 82 1 / (st 82 2 - st 82 1)))))) (fun st' => fr [76, 77] st st' ∧ TX st' (l ++ [51, 13, 30, 11, 50, 10, 12]) (decide (st 82 2 - st 82 1 = 0))) := by
  obtain ⟨a, ea, fa, ta⟩ := x_begin (d + 5) h (by omega) 51
  obtain ⟨c, ec, fc, tc⟩ := xU3 d ta (by simp; omega) x
  have fac : fr [76, 77] st c := fr_mono (fr_tr fa fc) (by decide)
  rw [fa 82 rfl] at ec
  have c82 : c 82 = st 82 := fac 82 rfl
  obtain ⟨e, ee, fe, te⟩ := xP3 (d + 4) tc (by simp; omega) (c 82 1)
  rw [c82] at ee te
  refine ⟨e, ?_, fr_mono (fr_tr fac fe) (by decide), by rw [List.append_assoc, List.append_assoc] at te; exact te⟩
  rw [cal_X1_tells (d + 6), eX1_tells_0, ea]
  simp only [m_bd, Option.toList, List.cons_append, List.nil_append]
  rw [eX1_tells_9, ec]
  simp only [m_bd, Option.toList, List.cons_append, List.nil_append]
  rw [eX1_tells_14, c82, ee]
  simp only [m_bd, Option.toList, List.cons_append, List.nil_append]
  rw [eX1_tells_22]
