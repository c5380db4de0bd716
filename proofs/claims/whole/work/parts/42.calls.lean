/-! CALLS: draw -/
def x_D (s : Int32) : Int32 := s * 1103515245 + 12345
def x_n (r : Int32) : Int32 := (r.toUInt32 >>> ((16 : Int32).toUInt32 &&& Int32.toUInt32 31)).toInt32
def x_W (r : Int32) : Int32 := (x_n r - x_n r / 7 * 7) - 3
theorem s_drawX (d : Nat) (st : Nat → Nat → Int32) (x : Int32) : m_evc (d + 2) 112 [.ref 0, .int x] (SH, st) = if 0 ≤ x ∧ x < 7 then (m_ob (m_ix x 7) fun q => some (some (.int (x_W (x_D (st 1 9)) + 100)), (SH, m_up (m_up st 1 9 (x_D (st 1 9))) 8 q (x_W (x_D (st 1 9)))))) else some (some (.int (-1)), (SH, st)) := by
  simp only [cal_X11_draw, eX11_draw_0, s_isDayX, m_bd, Option.toList, List.cons_append, List.nil_append, eX11_draw_4, eX11_draw_9, cal_X11_drawnAfter, eX11_drawnAfter_0, eX11_draw_23, cal_X11_windDrawn, eX11_windDrawn_0, eX11_draw_44]
  by_cases h : 0 ≤ x ∧ x < 7
  · cases hq : m_ix x 7 with
    | none => simp [h, m_ob]
    | some q =>
      simp only [h, and_self, if_true, m_ob]
      have e : ∀ (s : Nat → Nat → Int32) (v : Int32), m_up s 8 q v 8 q = v := fun s v => by simp [m_up]
      rw [e]
      simp [x_W, x_D, x_n]
  · simp [h]
theorem s_drawM (d : Nat) (st : Nat → Nat → Int32) (x : Int32) : m_evc (d + 3) 211 [.ref 85, .int x] (SH, st) = if 0 ≤ x ∧ x < 7 then (m_ob (m_ix (5 + x) 310) fun q => some (some (.int (x_W (x_D (st 86 3)) + 100)), (SH, m_up (m_up st 86 3 (x_D (st 86 3))) 86 q (x_W (x_D (st 86 3)))))) else some (some (.int (-1)), (SH, st)) := by
  simp only [cal_X12_draw, eX12_draw_0, s_isDayM, m_bd, Option.toList, List.cons_append, List.nil_append, eX12_draw_4, eX12_draw_9, cal_X12_draws, eX12_draws_0, eX12_draw_14]
  by_cases h : 0 ≤ x ∧ x < 7
  · cases hq : m_ix (5 + x) 310 with
    | none => simp [h, m_ob]
    | some q =>
      simp only [h, and_self, if_true, m_ob, List.nil_append]
      rw [eX12_draw_14, hq]
      simp only [m_ob]
      have e : ∀ (s : Nat → Nat → Int32) (v : Int32), m_up s 86 q v 86 q = v := fun s v => by simp [m_up]
      rw [e]
      simp [x_W, x_D, x_n]
  · simp [h]
theorem lw_draw {Rel : (Nat → Nat → Int32) → Prop} (x : Int32) (h1 : ∀ st, Rel st → st 1 9 = st 86 3) (h2 : ∀ st, Rel st → ∀ j, j < 7 → ∀ r : Int32, Rel (m_up (m_up (m_up (m_up st 1 9 r) 8 j (x_W r)) 86 3 r) 86 (5 + j) (x_W r))) : lw_C Rel 112 211 [.int x] := by
  intro st hR
  by_cases h : 0 ≤ x ∧ x < 7
  · obtain ⟨i1, i2, i3⟩ := m_ix5 h.1 h.2
    refine ⟨x_W (x_D (st 1 9)) + 100, m_up (m_up st 1 9 (x_D (st 1 9))) 8 x.toNatClampNeg (x_W (x_D (st 1 9))), _, ?_, ?_, h2 st hR _ i3 (x_D (st 1 9))⟩
    · rw [s_drawX 2045 st x, if_pos h, i1]
      rfl
    · rw [s_drawM 2044, if_pos h, i2]
      have e : m_up (m_up st 1 9 (x_D (st 1 9))) 8 x.toNatClampNeg (x_W (x_D (st 1 9))) 86 3 = st 1 9 := by
        rw [h1 st hR]
        rfl
      rw [e]
      rfl
  · refine ⟨-1, st, st, ?_, ?_, hR⟩
    · rw [s_drawX 2045 st x, if_neg h]
    · rw [s_drawM 2044, if_neg h]
