/-! CALLS of the host: act, the model's bodies -/
def TM (st : zS) (l : List Int32) (p : Bool) : Prop := st 85 31 = Int32.ofNat l.length ∧ st 85 35 = (if p = true then 1 else 0) ∧ ∀ i, i < l.length → st 101 i = l.getD i 0
def fT (st st' : zS) : Prop := fr [85, 101] st st' ∧ ∀ j, j ≠ 31 → j ≠ 35 → st' 85 j = st 85 j
theorem fT_tr {a b c : zS} (h : fT a b) (g : fT b c) : fT a c := ⟨fr_mono (fr_tr h.1 g.1) (by decide), fun j h1 h2 => (g.2 j h1 h2).trans (h.2 j h1 h2)⟩
theorem m_run1 (d : Nat) {st : zS} {l : List Int32} (h : TM st l false) (hl : l.length < 30) (b : Int32) : RT (m_evc (d + 1) 254 [.ref 85, .int b] (SH, st)) none (fun st' => fT st st' ∧ TM st' (l ++ [b]) false) := by
  obtain ⟨h1, h2, h3⟩ := h
  refine ⟨m_up (m_up st 101 l.length b) 85 31 (st 85 31 + 1), ?_, ⟨fr_up (fr_up (fr_refl _ _) rfl) rfl, fun j j1 _ => by rw [up_nj j1, up_ne (by decide)]⟩, ?_, ?_, fun i hi => ?_⟩
  · rw [cal_X12_runs, eX12_runs_0, if_pos (show st 85 35 = 0 from h2), if_pos (by rw [h1, show (30 : Int32) = Int32.ofNat 30 from rfl, n_lt (by omega) (by omega)]; exact hl), h1, ix_30 hl, ob_s, eX12_runs_26, eX12_runs_36, up_ne (show 85 ≠ 101 by decide), h1]
  · rw [up_in, h1, n_succ]; simp
  · rw [up_nj (by decide), up_ne (by decide)]; exact h2
  · rw [getD_app hi, up_ne (by decide)]
    by_cases q : i = l.length
    · rw [if_pos q, q, up_in]
    · rw [if_neg q, up_nj q]
      simp only [List.length_append, List.length_cons, List.length_nil] at hi
      exact h3 i (by omega)
theorem m_part (d : Nat) {st : zS} {l : List Int32} (h : TM st l false) (hl : l.length < 28) (x : Int32) : RT (m_evc (d + 2) 257 [.ref 85, .int x] (SH, st)) (some (.int (if st 85 33 - st 85 32 = 0 then 0 else x / (st 85 33 - st 85 32)))) (fun st' => fT st st' ∧ TM st' (l ++ [12]) (decide (st 85 33 - st 85 32 = 0))) := by
  obtain ⟨a, ea, fa, ta⟩ := m_run1 d h (by omega) 12
  have e1 : a 85 32 = st 85 32 := fa.2 32 (by decide) (by decide)
  have e2 : a 85 33 = st 85 33 := fa.2 33 (by decide) (by decide)
  have iff0 : st 85 33 = st 85 32 ↔ st 85 33 - st 85 32 = 0 := ⟨fun w => by rw [w, Int32.sub_self], fun w => by have := Int32.sub_add_cancel (st 85 33) (st 85 32); rw [w, Int32.zero_add] at this; exact this.symm⟩
  by_cases q : st 85 33 - st 85 32 = 0
  · refine ⟨m_up a 85 35 1, ?_, ⟨fr_up fa.1 rfl, fun j j1 j2 => by rw [up_nj j2]; exact fa.2 j j1 j2⟩, ?_⟩
    · rw [cal_X12_parts (d + 1), eX12_parts_0, ea]
      simp only [m_bd, Option.toList, List.cons_append, List.nil_append]
      rw [eX12_parts_6, e1, e2, if_pos (iff0.mpr q), if_pos q]
    · rw [decide_eq_true q]
      obtain ⟨t1, t2, t3⟩ := ta
      exact ⟨by rw [up_nj (by decide)]; exact t1, by rw [up_in]; rfl, fun i hi => by rw [up_ne (by decide)]; exact t3 i hi⟩
  · refine ⟨a, ?_, fa, by rw [decide_eq_false q]; exact ta⟩
    rw [cal_X12_parts (d + 1), eX12_parts_0, ea]
    simp only [m_bd, Option.toList, List.cons_append, List.nil_append]
    rw [eX12_parts_6, e1, e2, if_neg (fun w => q (iff0.mp w)), eX12_parts_24, e1, e2, if_neg q, if_neg q]
theorem mC1 (d : Nat) {st : zS} {l : List Int32} (h : TM st l false) (hl : l.length < 26) (hk : st 85 34 = 1) (x : Int32) : RT (m_evc (d + 2) 255 [.ref 85, .int x] (SH, st)) (some (.int ((x + st 85 32) * 3))) (fun st' => fT st st' ∧ TM st' (l ++ [20, 10]) false) := by
  obtain ⟨a, ea, fa, ta⟩ := m_run1 d h (by omega) 20
  obtain ⟨c, ec, fc, tc⟩ := m_run1 d ta (by simp; omega) 10
  refine ⟨c, ?_, fT_tr fa fc, by rw [List.append_assoc] at tc; exact tc⟩
  rw [cal_X12_cries (d + 1), eX12_cries_0]
  rw [if_pos hk]
  rw [ea]
  simp only [m_bd, Option.toList, List.cons_append, List.nil_append]
  rw [eX12_cries_14, ec]
  simp only [m_bd, Option.toList, List.cons_append, List.nil_append]
  rw [eX12_cries_20, (fT_tr fa fc).2 32 (by decide) (by decide)]
theorem mH1 (d : Nat) {st : zS} {l : List Int32} (h : TM st l false) (hl : l.length < 24) (hk : st 85 34 = 1) (x : Int32) : RT (m_evc (d + 3) 256 [.ref 85, .int x] (SH, st)) (some (.int (((x + st 85 32) * 3) * 2))) (fun st' => fT st st' ∧ TM st' (l ++ [11, 20, 10]) false) := by
  obtain ⟨a, ea, fa, ta⟩ := m_run1 (d + 1) h (by omega) 11
  have ka : a 85 34 = 1 := (fa.2 34 (by decide) (by decide)).trans hk
  obtain ⟨c, ec, fc, tc⟩ := mC1 d ta (by simp; omega) ka x
  have f : fT st c := fT_tr fa fc
  rw [fa.2 32 (by decide) (by decide)] at ec
  refine ⟨c, ?_, f, by rw [List.append_assoc] at tc; exact tc⟩
  rw [cal_X12_hears (d + 2), eX12_hears_0, if_neg (by rw [hk]; decide), if_neg (by rw [hk]; decide), eX12_hears_20, eX12_hears_21, if_pos rfl, eX12_hears_32, if_neg (by rw [hk]; decide), eX12_hears_46, ea]
  simp only [m_bd, Option.toList, List.cons_append, List.nil_append]
  rw [eX12_hears_52, ec]
  simp only [m_bd, Option.toList, List.cons_append, List.nil_append]
  rw [eX12_hears_57, if_pos rfl, eX12_hears_73, f.2 34 (by decide) (by decide), if_neg (by rw [hk]; decide), eX12_hears_87, eX12_hears_88]
theorem mS1 (d : Nat) {st : zS} {l : List Int32} (h : TM st l false) (hl : l.length < 24) (hk : st 85 34 = 1) (x : Int32) : RT (m_evc (d + 3) 258 [.ref 85, .int x] (SH, st)) (some (.int (if st 85 33 - st 85 32 = 0 then 0 else x / (st 85 33 - st 85 32)))) (fun st' => fT st st' ∧ TM st' (l ++ [12]) (decide (st 85 33 - st 85 32 = 0))) := by
  obtain ⟨c, ec, fc, tc⟩ := m_part d h (by omega) x
  refine ⟨c, ?_, fc, tc⟩
  rw [cal_X12_shares (d + 2), eX12_shares_0, if_neg (by rw [hk]; decide), eX12_shares_22, if_neg (by rw [hk]; decide), eX12_shares_72, ec]
  simp only [m_bd, Option.toList, List.cons_append, List.nil_append]
  rw [eX12_shares_77]
theorem mT1 (d : Nat) {st : zS} {l : List Int32} (h : TM st l false) (hl : l.length < 20) (hk : st 85 34 = 1) (x : Int32) : RT (m_evc (d + 4) 259 [.ref 85, .int x] (SH, st)) (some (.int ((((x + st 85 32) * 3) * 2) ^^^ st 85 33))) (fun st' => fT st st' ∧ TM st' (l ++ [13, 11, 20, 10]) false) := by
  obtain ⟨a, ea, fa, ta⟩ := m_run1 (d + 2) h (by omega) 13
  have ka : a 85 34 = 1 := (fa.2 34 (by decide) (by decide)).trans hk
  obtain ⟨c, ec, fc, tc⟩ := mH1 d ta (by simp; omega) ka x
  have f := fT_tr fa fc
  rw [fa.2 32 (by decide) (by decide)] at ec
  refine ⟨c, ?_, f, by rw [List.append_assoc] at tc; exact tc⟩
  rw [cal_X12_tells (d + 3), eX12_tells_0, if_neg (by rw [hk]; decide), eX12_tells_14, ea]
  simp only [m_bd, Option.toList, List.cons_append, List.nil_append]
  rw [eX12_tells_20, ec]
  simp only [m_bd, Option.toList, List.cons_append, List.nil_append]
  rw [eX12_tells_25, f.2 34 (by decide) (by decide), if_neg (by rw [hk]; decide), eX12_tells_52, eX12_tells_53, f.2 33 (by decide) (by decide)]
theorem mC2 (d : Nat) {st : zS} {l : List Int32} (h : TM st l false) (hl : l.length < 26) (hk : st 85 34 = 2) (x : Int32) : RT (m_evc (d + 2) 255 [.ref 85, .int x] (SH, st)) (some (.int (x + st 85 32))) (fun st' => fT st st' ∧ TM st' (l ++ [10]) false) := by
  obtain ⟨a, ea, fa, ta⟩ := m_run1 d h (by omega) 10
  refine ⟨a, ?_, fa, ta⟩
  rw [cal_X12_cries (d + 1), eX12_cries_0, if_neg (by rw [hk]; decide), eX12_cries_29, if_neg (by rw [hk]; decide), eX12_cries_61, ea]
  simp only [m_bd, Option.toList, List.cons_append, List.nil_append]
  rw [eX12_cries_67, fa.2 32 (by decide) (by decide)]
theorem mH2 (d : Nat) {st : zS} {l : List Int32} (h : TM st l false) (hl : l.length < 24) (hk : st 85 34 = 2) (x : Int32) : RT (m_evc (d + 3) 256 [.ref 85, .int x] (SH, st)) (some (.int ((x + st 85 32) * 2 - st 85 33))) (fun st' => fT st st' ∧ TM st' (l ++ [30, 11, 10]) false) := by
  obtain ⟨z, ez, fz, tz⟩ := m_run1 (d + 1) h (by omega) 30
  have kz : z 85 34 = 2 := (fz.2 34 (by decide) (by decide)).trans hk
  obtain ⟨a, ea, fa, ta⟩ := m_run1 (d + 1) tz (by simp; omega) 11
  have ka : a 85 34 = 2 := (fa.2 34 (by decide) (by decide)).trans kz
  obtain ⟨c, ec, fc, tc⟩ := mC2 d ta (by simp; omega) ka x
  have f : fT st c := fT_tr (fT_tr fz fa) fc
  rw [(fT_tr fz fa).2 32 (by decide) (by decide)] at ec
  refine ⟨c, ?_, f, by rw [List.append_assoc, List.append_assoc] at tc; exact tc⟩
  rw [cal_X12_hears (d + 2), eX12_hears_0]
  rw [if_pos hk, eX12_hears_16, eX12_hears_21, if_neg i_10, ez]
  simp only [m_bd, Option.toList, List.cons_append, List.nil_append]
  rw [eX12_hears_32, if_neg (by rw [kz]; decide)]
  rw [eX12_hears_46, ea]
  simp only [m_bd, Option.toList, List.cons_append, List.nil_append]
  rw [eX12_hears_52, ec]
  simp only [m_bd, Option.toList, List.cons_append, List.nil_append]
  rw [eX12_hears_57, if_neg i_10, eX12_hears_88, f.2 33 (by decide) (by decide)]
theorem mS2 (d : Nat) {st : zS} {l : List Int32} (h : TM st l false) (hl : l.length < 24) (hk : st 85 34 = 2) (x : Int32) : RT (m_evc (d + 3) 258 [.ref 85, .int x] (SH, st)) (some (.int (if st 85 33 - st 85 32 = 0 then 0 else x / (st 85 33 - st 85 32)))) (fun st' => fT st st' ∧ TM st' (l ++ [12]) (decide (st 85 33 - st 85 32 = 0))) := by
  obtain ⟨c, ec, fc, tc⟩ := m_part d h (by omega) x
  refine ⟨c, ?_, fc, tc⟩
  rw [cal_X12_shares (d + 2), eX12_shares_0, if_neg (by rw [hk]; decide), eX12_shares_22, if_neg (by rw [hk]; decide), eX12_shares_72, ec]
  simp only [m_bd, Option.toList, List.cons_append, List.nil_append]
  rw [eX12_shares_77]
theorem mT2 (d : Nat) {st : zS} {l : List Int32} (h : TM st l false) (hl : l.length < 20) (hk : st 85 34 = 2) (x : Int32) : RT (m_evc (d + 4) 259 [.ref 85, .int x] (SH, st)) (some (.int (((x + st 85 32) * 2 - st 85 33) ^^^ st 85 33))) (fun st' => fT st st' ∧ TM st' (l ++ [13, 30, 11, 10]) false) := by
  obtain ⟨a, ea, fa, ta⟩ := m_run1 (d + 2) h (by omega) 13
  have ka : a 85 34 = 2 := (fa.2 34 (by decide) (by decide)).trans hk
  obtain ⟨c, ec, fc, tc⟩ := mH2 d ta (by simp; omega) ka x
  have f := fT_tr fa fc
  rw [fa.2 32 (by decide) (by decide), fa.2 33 (by decide) (by decide)] at ec
  refine ⟨c, ?_, f, by rw [List.append_assoc] at tc; exact tc⟩
  rw [cal_X12_tells (d + 3), eX12_tells_0, if_neg (by rw [hk]; decide), eX12_tells_14, ea]
  simp only [m_bd, Option.toList, List.cons_append, List.nil_append]
  rw [eX12_tells_20, ec]
  simp only [m_bd, Option.toList, List.cons_append, List.nil_append]
  rw [eX12_tells_25, f.2 34 (by decide) (by decide), if_neg (by rw [hk]; decide), eX12_tells_52, eX12_tells_53, f.2 33 (by decide) (by decide)]
theorem mC3 (d : Nat) {st : zS} {l : List Int32} (h : TM st l false) (hl : l.length < 26) (hk : st 85 34 = 3) (x : Int32) : RT (m_evc (d + 2) 255 [.ref 85, .int x] (SH, st)) (some (.int ((x + st 85 32) ^^^ st 85 32))) (fun st' => fT st st' ∧ TM st' (l ++ [50, 10]) false) := by
  obtain ⟨a, ea, fa, ta⟩ := m_run1 d h (by omega) 50
  obtain ⟨c, ec, fc, tc⟩ := m_run1 d ta (by simp; omega) 10
  refine ⟨c, ?_, fT_tr fa fc, by rw [List.append_assoc] at tc; exact tc⟩
  rw [cal_X12_cries (d + 1), eX12_cries_0]
  rw [if_neg (by rw [hk]; decide), eX12_cries_29, if_pos hk]
  rw [ea]
  simp only [m_bd, Option.toList, List.cons_append, List.nil_append]
  rw [eX12_cries_43, ec]
  simp only [m_bd, Option.toList, List.cons_append, List.nil_append]
  rw [eX12_cries_49, (fT_tr fa fc).2 32 (by decide) (by decide)]
theorem mH3 (d : Nat) {st : zS} {l : List Int32} (h : TM st l false) (hl : l.length < 24) (hk : st 85 34 = 3) (x : Int32) : RT (m_evc (d + 3) 256 [.ref 85, .int x] (SH, st)) (some (.int (((x + st 85 32) ^^^ st 85 32) * 2 - st 85 33))) (fun st' => fT st st' ∧ TM st' (l ++ [30, 11, 50, 10]) false) := by
  obtain ⟨z, ez, fz, tz⟩ := m_run1 (d + 1) h (by omega) 30
  have kz : z 85 34 = 3 := (fz.2 34 (by decide) (by decide)).trans hk
  obtain ⟨a, ea, fa, ta⟩ := m_run1 (d + 1) tz (by simp; omega) 11
  have ka : a 85 34 = 3 := (fa.2 34 (by decide) (by decide)).trans kz
  obtain ⟨c, ec, fc, tc⟩ := mC3 d ta (by simp; omega) ka x
  have f : fT st c := fT_tr (fT_tr fz fa) fc
  rw [(fT_tr fz fa).2 32 (by decide) (by decide)] at ec
  refine ⟨c, ?_, f, by rw [List.append_assoc, List.append_assoc] at tc; exact tc⟩
  rw [cal_X12_hears (d + 2), eX12_hears_0]
  rw [if_neg (by rw [hk]; decide), if_pos hk, eX12_hears_16, eX12_hears_21, if_neg i_10, ez]
  simp only [m_bd, Option.toList, List.cons_append, List.nil_append]
  rw [eX12_hears_32, if_neg (by rw [kz]; decide)]
  rw [eX12_hears_46, ea]
  simp only [m_bd, Option.toList, List.cons_append, List.nil_append]
  rw [eX12_hears_52, ec]
  simp only [m_bd, Option.toList, List.cons_append, List.nil_append]
  rw [eX12_hears_57, if_neg i_10, eX12_hears_88, f.2 33 (by decide) (by decide)]
theorem mS3 (d : Nat) {st : zS} {l : List Int32} (h : TM st l false) (hl : l.length < 24) (hk : st 85 34 = 3) (x : Int32) : RT (m_evc (d + 3) 258 [.ref 85, .int x] (SH, st)) (some (.int (if st 85 33 - st 85 32 = 0 then 0 else x / (st 85 33 - st 85 32)))) (fun st' => fT st st' ∧ TM st' (l ++ [12]) (decide (st 85 33 - st 85 32 = 0))) := by
  obtain ⟨c, ec, fc, tc⟩ := m_part d h (by omega) x
  refine ⟨c, ?_, fc, tc⟩
  rw [cal_X12_shares (d + 2), eX12_shares_0, if_neg (by rw [hk]; decide), eX12_shares_22, if_neg (by rw [hk]; decide), eX12_shares_72, ec]
  simp only [m_bd, Option.toList, List.cons_append, List.nil_append]
  rw [eX12_shares_77]
theorem mT3 (d : Nat) {st : zS} {l : List Int32} (h : TM st l false) (hl : l.length < 18) (hk : st 85 34 = 3) (x : Int32) : RT (m_evc (d + 4) 259 [.ref 85, .int x] (SH, st)) (some (.int (((((x + st 85 32) ^^^ st 85 32) * 2 - st 85 33) ^^^ st 85 33) + (if st 85 33 - st 85 32 = 0 then 0 else st 85 32 / (st 85 33 - st 85 32))))) (fun st' => fT st st' ∧ TM st' (l ++ [51, 13, 30, 11, 50, 10, 12]) (decide (st 85 33 - st 85 32 = 0))) := by
  obtain ⟨z, ez, fz, tz⟩ := m_run1 (d + 2) h (by omega) 51
  obtain ⟨a, ea, fa, ta⟩ := m_run1 (d + 2) tz (by simp; omega) 13
  have fza := fT_tr fz fa
  have ka : a 85 34 = 3 := (fza.2 34 (by decide) (by decide)).trans hk
  obtain ⟨c, ec, fc, tc⟩ := mH3 d ta (by simp; omega) ka x
  have f := fT_tr fza fc
  have kc : c 85 34 = 3 := (f.2 34 (by decide) (by decide)).trans hk
  rw [fza.2 32 (by decide) (by decide), fza.2 33 (by decide) (by decide)] at ec
  obtain ⟨e, ee, fe, te⟩ := mS3 d tc (by simp; omega) kc (c 85 32)
  rw [f.2 32 (by decide) (by decide), f.2 33 (by decide) (by decide)] at ee te
  refine ⟨e, ?_, fT_tr f fe, by rw [List.append_assoc, List.append_assoc, List.append_assoc] at te; exact te⟩
  rw [cal_X12_tells (d + 3), eX12_tells_0, if_pos hk, ez]
  simp only [m_bd, Option.toList, List.cons_append, List.nil_append]
  rw [eX12_tells_14, ea]
  simp only [m_bd, Option.toList, List.cons_append, List.nil_append]
  rw [eX12_tells_20, ec]
  simp only [m_bd, Option.toList, List.cons_append, List.nil_append]
  rw [eX12_tells_25, if_pos kc, f.2 33 (by decide) (by decide), f.2 32 (by decide) (by decide), ee]
  simp only [m_bd, Option.toList, List.cons_append, List.nil_append]
  rw [eX12_tells_48, eX12_tells_53]
theorem mC4 (d : Nat) {st : zS} {l : List Int32} (h : TM st l false) (hl : l.length < 26) (hk : st 85 34 = 4) (x : Int32) : RT (m_evc (d + 2) 255 [.ref 85, .int x] (SH, st)) (some (.int (x + st 85 32))) (fun st' => fT st st' ∧ TM st' (l ++ [10]) false) := by
  obtain ⟨a, ea, fa, ta⟩ := m_run1 d h (by omega) 10
  refine ⟨a, ?_, fa, ta⟩
  rw [cal_X12_cries (d + 1), eX12_cries_0, if_neg (by rw [hk]; decide), eX12_cries_29, if_neg (by rw [hk]; decide), eX12_cries_61, ea]
  simp only [m_bd, Option.toList, List.cons_append, List.nil_append]
  rw [eX12_cries_67, fa.2 32 (by decide) (by decide)]
theorem mH4 (d : Nat) {st : zS} {l : List Int32} (h : TM st l false) (hl : l.length < 24) (hk : st 85 34 = 4) (x : Int32) : RT (m_evc (d + 3) 256 [.ref 85, .int x] (SH, st)) (some (.int ((x + st 85 32) * 2))) (fun st' => fT st st' ∧ TM st' (l ++ [11, 10]) false) := by
  obtain ⟨a, ea, fa, ta⟩ := m_run1 (d + 1) h (by omega) 11
  have ka : a 85 34 = 4 := (fa.2 34 (by decide) (by decide)).trans hk
  obtain ⟨c, ec, fc, tc⟩ := mC4 d ta (by simp; omega) ka x
  have f : fT st c := fT_tr fa fc
  rw [fa.2 32 (by decide) (by decide)] at ec
  refine ⟨c, ?_, f, by rw [List.append_assoc] at tc; exact tc⟩
  rw [cal_X12_hears (d + 2), eX12_hears_0, if_neg (by rw [hk]; decide), if_neg (by rw [hk]; decide), eX12_hears_20, eX12_hears_21, if_pos rfl, eX12_hears_32, if_neg (by rw [hk]; decide), eX12_hears_46, ea]
  simp only [m_bd, Option.toList, List.cons_append, List.nil_append]
  rw [eX12_hears_52, ec]
  simp only [m_bd, Option.toList, List.cons_append, List.nil_append]
  rw [eX12_hears_57, if_pos rfl, eX12_hears_73, f.2 34 (by decide) (by decide), if_neg (by rw [hk]; decide), eX12_hears_87, eX12_hears_88]
theorem mS4 (d : Nat) {st : zS} {l : List Int32} (h : TM st l false) (hl : l.length < 24) (hk : st 85 34 = 4) (x : Int32) : RT (m_evc (d + 3) 258 [.ref 85, .int x] (SH, st)) (some (.int (if st 85 33 - st 85 32 = 0 then 0 else (x + 1) / (st 85 33 - st 85 32)))) (fun st' => fT st st' ∧ TM st' (l ++ [40, 12]) (decide (st 85 33 - st 85 32 = 0))) := by
  obtain ⟨a, ea, fa, ta⟩ := m_run1 (d + 1) h (by omega) 40
  obtain ⟨c, ec, fc, tc⟩ := m_part d ta (by simp; omega) (x + 1)
  rw [fa.2 32 (by decide) (by decide), fa.2 33 (by decide) (by decide)] at ec tc
  refine ⟨c, ?_, fT_tr fa fc, by rw [List.append_assoc] at tc; exact tc⟩
  rw [cal_X12_shares (d + 2), eX12_shares_0, if_pos hk, ea]
  simp only [m_bd, Option.toList, List.cons_append, List.nil_append]
  rw [eX12_shares_14, ec]
  simp only [m_bd, Option.toList, List.cons_append, List.nil_append]
  rw [eX12_shares_21]
theorem mT4 (d : Nat) {st : zS} {l : List Int32} (h : TM st l false) (hl : l.length < 20) (hk : st 85 34 = 4) (x : Int32) : RT (m_evc (d + 4) 259 [.ref 85, .int x] (SH, st)) (some (.int (((x + st 85 32) * 2) ^^^ st 85 33))) (fun st' => fT st st' ∧ TM st' (l ++ [13, 11, 10]) false) := by
  obtain ⟨a, ea, fa, ta⟩ := m_run1 (d + 2) h (by omega) 13
  have ka : a 85 34 = 4 := (fa.2 34 (by decide) (by decide)).trans hk
  obtain ⟨c, ec, fc, tc⟩ := mH4 d ta (by simp; omega) ka x
  have f := fT_tr fa fc
  rw [fa.2 32 (by decide) (by decide)] at ec
  refine ⟨c, ?_, f, by rw [List.append_assoc] at tc; exact tc⟩
  rw [cal_X12_tells (d + 3), eX12_tells_0, if_neg (by rw [hk]; decide), eX12_tells_14, ea]
  simp only [m_bd, Option.toList, List.cons_append, List.nil_append]
  rw [eX12_tells_20, ec]
  simp only [m_bd, Option.toList, List.cons_append, List.nil_append]
  rw [eX12_tells_25, f.2 34 (by decide) (by decide), if_neg (by rw [hk]; decide), eX12_tells_52, eX12_tells_53, f.2 33 (by decide) (by decide)]
theorem mC5 (d : Nat) {st : zS} {l : List Int32} (h : TM st l false) (hl : l.length < 26) (hk : st 85 34 = 5) (x : Int32) : RT (m_evc (d + 2) 255 [.ref 85, .int x] (SH, st)) (some (.int (x + st 85 32))) (fun st' => fT st st' ∧ TM st' (l ++ [10]) false) := by
  obtain ⟨a, ea, fa, ta⟩ := m_run1 d h (by omega) 10
  refine ⟨a, ?_, fa, ta⟩
  rw [cal_X12_cries (d + 1), eX12_cries_0, if_neg (by rw [hk]; decide), eX12_cries_29, if_neg (by rw [hk]; decide), eX12_cries_61, ea]
  simp only [m_bd, Option.toList, List.cons_append, List.nil_append]
  rw [eX12_cries_67, fa.2 32 (by decide) (by decide)]
theorem mH5 (d : Nat) {st : zS} {l : List Int32} (h : TM st l false) (hl : l.length < 24) (hk : st 85 34 = 5) (x : Int32) : RT (m_evc (d + 3) 256 [.ref 85, .int x] (SH, st)) (some (.int (0 - (x + st 85 32) * 2))) (fun st' => fT st st' ∧ TM st' (l ++ [60, 11, 10]) false) := by
  obtain ⟨z, ez, fz, tz⟩ := m_run1 (d + 1) h (by omega) 60
  have kz : z 85 34 = 5 := (fz.2 34 (by decide) (by decide)).trans hk
  obtain ⟨a, ea, fa, ta⟩ := m_run1 (d + 1) tz (by simp; omega) 11
  have ka : a 85 34 = 5 := (fa.2 34 (by decide) (by decide)).trans kz
  obtain ⟨c, ec, fc, tc⟩ := mC5 d ta (by simp; omega) ka x
  have f : fT st c := fT_tr (fT_tr fz fa) fc
  rw [(fT_tr fz fa).2 32 (by decide) (by decide)] at ec
  refine ⟨c, ?_, f, by rw [List.append_assoc, List.append_assoc] at tc; exact tc⟩
  rw [cal_X12_hears (d + 2), eX12_hears_0]
  rw [if_neg (by rw [hk]; decide), if_neg (by rw [hk]; decide), eX12_hears_20, eX12_hears_21, if_pos rfl, eX12_hears_32, if_pos hk, ez]
  simp only [m_bd, Option.toList, List.cons_append, List.nil_append]
  rw [eX12_hears_46, ea]
  simp only [m_bd, Option.toList, List.cons_append, List.nil_append]
  rw [eX12_hears_52, ec]
  simp only [m_bd, Option.toList, List.cons_append, List.nil_append]
  rw [eX12_hears_57, if_pos rfl, eX12_hears_73, f.2 34 (by decide) (by decide), if_pos hk, eX12_hears_88]
theorem mS5 (d : Nat) {st : zS} {l : List Int32} (h : TM st l false) (hl : l.length < 20) (hk : st 85 34 = 5) (x : Int32) : ∃ v, (¬ st 85 33 - st 85 32 = 0 → v = (x + 1) / (st 85 33 - st 85 32) + (st 85 33 + st 85 32)) ∧ RT (m_evc (d + 3) 258 [.ref 85, .int x] (SH, st)) (some (.int v)) (fun st' => fT st st' ∧ TM st' (l ++ (if st 85 33 - st 85 32 = 0 then [61, 40, 12] else [61, 40, 12, 10])) (decide (st 85 33 - st 85 32 = 0))) := by
  obtain ⟨z, ez, fz, tz⟩ := m_run1 (d + 1) h (by omega) 61
  obtain ⟨a, ea, fa, ta⟩ := m_run1 (d + 1) tz (by simp; omega) 40
  have fza := fT_tr fz fa
  obtain ⟨c, ec, fc, tc⟩ := m_part d ta (by simp; omega) (x + 1)
  rw [fza.2 32 (by decide) (by decide), fza.2 33 (by decide) (by decide)] at ec tc
  have f := fT_tr fza fc
  have kc : c 85 34 = 5 := (f.2 34 (by decide) (by decide)).trans hk
  by_cases q : st 85 33 - st 85 32 = 0
  · rw [decide_eq_true q] at tc
    refine ⟨0, fun w => absurd q w, c, ?_, f, ?_⟩
    · rw [cal_X12_shares (d + 2), eX12_shares_0, if_neg (by rw [hk]; decide), eX12_shares_22, if_pos hk, ez]
      simp only [m_bd, Option.toList, List.cons_append, List.nil_append]
      rw [eX12_shares_36, ea]
      simp only [m_bd, Option.toList, List.cons_append, List.nil_append]
      rw [eX12_shares_42, ec]
      simp only [m_bd, Option.toList, List.cons_append, List.nil_append]
      rw [eX12_shares_49, if_neg (by rw [tc.2.1]; decide), eX12_shares_71]
    · rw [if_pos q, decide_eq_true q]
      rw [List.append_assoc, List.append_assoc] at tc
      exact tc
  · rw [decide_eq_false q] at tc
    obtain ⟨e, ee, fe, te⟩ := mC5 d tc (by simp; omega) kc (c 85 33)
    refine ⟨_, fun _ => rfl, e, ?_, fT_tr f fe, ?_⟩
    · rw [cal_X12_shares (d + 2), eX12_shares_0, if_neg (by rw [hk]; decide), eX12_shares_22, if_pos hk, ez]
      simp only [m_bd, Option.toList, List.cons_append, List.nil_append]
      rw [eX12_shares_36, ea]
      simp only [m_bd, Option.toList, List.cons_append, List.nil_append]
      rw [eX12_shares_42, ec]
      simp only [m_bd, Option.toList, List.cons_append, List.nil_append]
      rw [eX12_shares_49, if_pos (show c 85 35 = 0 from tc.2.1), eX12_shares_61, ee]
      simp only [m_bd, Option.toList, List.cons_append, List.nil_append]
      rw [eX12_shares_70, eX12_shares_71, if_neg q, f.2 32 (by decide) (by decide), f.2 33 (by decide) (by decide)]
    · rw [if_neg q, decide_eq_false q]
      rw [List.append_assoc, List.append_assoc, List.append_assoc] at te
      exact te
theorem mT5 (d : Nat) {st : zS} {l : List Int32} (h : TM st l false) (hl : l.length < 20) (hk : st 85 34 = 5) (x : Int32) : RT (m_evc (d + 4) 259 [.ref 85, .int x] (SH, st)) (some (.int ((0 - (x + st 85 32) * 2) ^^^ st 85 33))) (fun st' => fT st st' ∧ TM st' (l ++ [13, 60, 11, 10]) false) := by
  obtain ⟨a, ea, fa, ta⟩ := m_run1 (d + 2) h (by omega) 13
  have ka : a 85 34 = 5 := (fa.2 34 (by decide) (by decide)).trans hk
  obtain ⟨c, ec, fc, tc⟩ := mH5 d ta (by simp; omega) ka x
  have f := fT_tr fa fc
  rw [fa.2 32 (by decide) (by decide)] at ec
  refine ⟨c, ?_, f, by rw [List.append_assoc] at tc; exact tc⟩
  rw [cal_X12_tells (d + 3), eX12_tells_0, if_neg (by rw [hk]; decide), eX12_tells_14, ea]
  simp only [m_bd, Option.toList, List.cons_append, List.nil_append]
  rw [eX12_tells_20, ec]
  simp only [m_bd, Option.toList, List.cons_append, List.nil_append]
  rw [eX12_tells_25, f.2 34 (by decide) (by decide), if_neg (by rw [hk]; decide), eX12_tells_52, eX12_tells_53, f.2 33 (by decide) (by decide)]
