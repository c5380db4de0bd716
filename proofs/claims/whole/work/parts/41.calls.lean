/-! CALLS: seed, pace, wind -/
theorem m_ixp {x : Int32} {n : Nat} (h0 : 0 ≤ x) (h1 : x.toInt < n) : m_ix x n = some x.toNatClampNeg := by
  have e0 : x.toNatClampNeg = x.toInt.toNat := rfl
  have h2 : (0 : Int) ≤ x.toInt := by simpa using Int32.le_iff_toInt_le.mp h0
  unfold m_ix
  rw [if_neg]
  intro q
  rcases q with q | q
  · exact absurd q (Int32.not_lt.mpr h0)
  · omega
theorem x_add {a b : Int32} (h : -2147483648 ≤ a.toInt + b.toInt ∧ a.toInt + b.toInt < 2147483648) : (a + b).toInt = a.toInt + b.toInt := by
  rw [Int32.toInt_add]
  apply Int.bmod_eq_of_le <;> omega
theorem lw_seed {Rel : (Nat → Nat → Int32) → Prop} (x : Int32) (h1 : ∀ st, Rel st → st 1 9 = st 86 3) (h2 : ∀ st, Rel st → Rel (m_up (m_up st 1 9 x) 86 3 x)) : lw_C Rel 111 209 [.int x] := by
  intro st hR
  refine ⟨st 1 9, m_up st 1 9 x, m_up (m_up st 1 9 x) 86 3 x, ?_, ?_, h2 st hR⟩
  · rw [cal_X11_seed 2046, eX11_seed_0]
  · rw [cal_X12_seed 2046, eX12_seed_0, h1 st hR]
    rfl
/-- a number of the winds: 5 places behind, in the model -/
theorem m_ix5 {x : Int32} (h0 : 0 ≤ x) (h7 : x < 7) : m_ix x 7 = some x.toNatClampNeg ∧ m_ix (5 + x) 310 = some (5 + x.toNatClampNeg) ∧ x.toNatClampNeg < 7 := by
  have e0 : x.toNatClampNeg = x.toInt.toNat := rfl
  have g0 : (0 : Int) ≤ x.toInt := by simpa using Int32.le_iff_toInt_le.mp h0
  have g7 : x.toInt < 7 := by
    have := Int32.lt_iff_toInt_lt.mp h7
    exact this
  have e5 : (5 : Int32).toInt = 5 := rfl
  have e6 : (5 + x).toInt = 5 + x.toInt := by rw [x_add (by rw [e5]; omega), e5]
  have e7 : (5 + x).toNatClampNeg = 5 + x.toNatClampNeg := by
    show (5 + x).toInt.toNat = _
    rw [e6, e0]; omega
  refine ⟨m_ixp h0 (by omega), ?_, by omega⟩
  rw [m_ixp ?_ (by rw [e6]; omega), e7]
  rw [Int32.le_iff_toInt_le, e6]
  show (0 : Int) ≤ _
  omega
theorem lw_pace {Rel : (Nat → Nat → Int32) → Prop} (y : Int32) (h1 : ∀ st, Rel st → st 1 7 = st 86 2 ∧ 0 ≤ st 86 2 ∧ st 86 2 < 7 ∧ ∀ j, j < 7 → st 8 j = st 86 (5 + j)) : lw_C Rel 86 177 [.int y] := by
  intro st hR
  obtain ⟨g1, g2, g3, g4⟩ := h1 st hR
  obtain ⟨i1, i2, i3⟩ := m_ix5 g2 g3
  refine ⟨if y = 0 then 4 - st 8 (st 86 2).toNatClampNeg else 4 + st 8 (st 86 2).toNatClampNeg, st, st, ?_, ?_, hR⟩
  · rw [s_paceX 2045 st y, g1, i1]
    rfl
  · rw [s_paceM 2046 st y, i2]
    simp only [m_ob, g4 _ i3]
theorem s_windX (d : Nat) (st : Nat → Nat → Int32) (x v : Int32) : m_evc (d + 2) 85 [.ref 0, .int x, .int v] (SH, st) = if (0 ≤ x ∧ x < 7) ∧ -3 ≤ v ∧ v ≤ 3 then (m_ob (m_ix x 7) fun q => some (some (.int (st 8 q + 100)), (SH, m_up st 8 q v))) else some (some (.int (-1)), (SH, st)) := by
  simp only [cal_X11_wind, eX11_wind_0, s_isDayX, m_bd, Option.toList, List.cons_append, List.nil_append, eX11_wind_4, eX11_wind_18, eX11_wind_20]
  by_cases h : 0 ≤ x ∧ x < 7
  · by_cases h2 : v < -3
    · have h3 : ¬ (-3 ≤ v) := Int32.not_le.mpr h2
      simp [h, h2, h3]
    · by_cases h4 : 3 < v
      · have h5 : ¬ (v ≤ 3) := Int32.not_le.mpr h4
        simp [h, h2, h4, h5]
      · have h6 : -3 ≤ v := Int32.not_lt.mp h2
        have h7 : v ≤ 3 := Int32.not_lt.mp h4
        simp only [h, h2, h4, h6, h7, and_self, if_true, if_false]
        cases m_ix x 7 <;> simp [m_ob]
  · simp [h]
theorem x_in3 (v : Int32) : ((-3 : Int64) ≤ v.toInt64 ∧ v.toInt64 ≤ 3) = (-3 ≤ v ∧ v ≤ 3) := by
  simp only [Int64.le_iff_toInt_le, Int32.le_iff_toInt_le, Int32.toInt_toInt64]
  rfl
theorem s_windM (d : Nat) (st : Nat → Nat → Int32) (x v : Int32) : m_evc (d + 3) 176 [.ref 85, .int x, .int v] (SH, st) = if (0 ≤ x ∧ x < 7) ∧ -3 ≤ v ∧ v ≤ 3 then (m_ob (m_ix (5 + x) 310) fun q => some (some (.int (st 86 q + 100)), (SH, m_up st 86 q v))) else some (some (.int (-1)), (SH, st)) := by
  simp only [cal_X12_wind, eX12_wind_0, s_isDayM, s_in, m_bd, Option.toList, List.cons_append, List.nil_append, eX12_wind_4, eX12_wind_18, eX12_wind_21, eX12_wind_23, x_in3]
  by_cases h : 0 ≤ x ∧ x < 7
  · by_cases h2 : -3 ≤ v ∧ v ≤ 3
    · simp only [h, h2, and_self, if_true]
      cases m_ix (5 + x) 310 <;> simp [m_ob]
    · simp [h, h2]
  · simp [h]
theorem lw_wind {Rel : (Nat → Nat → Int32) → Prop} (x v : Int32) (h1 : ∀ st, Rel st → ∀ j, j < 7 → st 8 j = st 86 (5 + j)) (h2 : ∀ st, Rel st → -3 ≤ v → v ≤ 3 → ∀ j, j < 7 → Rel (m_up (m_up st 8 j v) 86 (5 + j) v)) : lw_C Rel 85 176 [.int x, .int v] := by
  intro st hR
  by_cases h : (0 ≤ x ∧ x < 7) ∧ -3 ≤ v ∧ v ≤ 3
  · obtain ⟨i1, i2, i3⟩ := m_ix5 h.1.1 h.1.2
    refine ⟨st 8 x.toNatClampNeg + 100, m_up st 8 x.toNatClampNeg v, m_up (m_up st 8 x.toNatClampNeg v) 86 (5 + x.toNatClampNeg) v, ?_, ?_, h2 st hR h.2.1 h.2.2 _ i3⟩
    · rw [s_windX 2045 st x v, if_pos h, i1]
      rfl
    · rw [s_windM 2044, if_pos h, i2]
      show some (some (Value.int (m_up st 8 x.toNatClampNeg v 86 (5 + x.toNatClampNeg) + 100)), _) = _
      rw [h1 st hR _ i3]
      rfl
  · refine ⟨-1, st, st, ?_, ?_, hR⟩
    · rw [s_windX 2045 st x v, if_neg h]
    · rw [s_windM 2044, if_neg h]
