/-! METHODS, by what they answer: the first -/
theorem s_in (d : Nat) (st : Nat → Nat → Int32) (a b c : Int64) : m_evc (d + 1) 155 [.long a, .long b, .long c] (SH, st) = some (some (.int (if b ≤ a ∧ a ≤ c then 1 else 0)), (SH, st)) := by
  rw [cal_X12_in]
  simp only [eX12_in_0, eX12_in_17, eX12_in_18, lg_cmp_lt, lg_cmp_gt]
  by_cases h1 : a < b
  · have h0 : ¬ (b ≤ a ∧ a ≤ c) := fun q => absurd h1 (Int64.not_lt.mpr q.1)
    simp [h1, h0]
  · by_cases h2 : c < a
    · have h0 : ¬ (b ≤ a ∧ a ≤ c) := fun q => absurd h2 (Int64.not_lt.mpr q.2)
      simp [h1, h2, h0]
    · have h0 : b ≤ a ∧ a ≤ c := ⟨Int64.not_lt.mp h1, Int64.not_lt.mp h2⟩
      simp [h1, h2, h0]
theorem s_isDayX (d : Nat) (st : Nat → Nat → Int32) (x : Int32) : m_evc (d + 1) 89 [.int x] (SH, st) = some (some (.int (if 0 ≤ x ∧ x < 7 then 1 else 0)), (SH, st)) := by
  simp only [cal_X11_isDay, eX11_isDay_0, eX11_isDay_14, eX11_isDay_15]
  by_cases h1 : x < 0
  · have h0 : ¬ (0 ≤ x ∧ x < 7) := fun q => absurd h1 (Int32.not_lt.mpr q.1)
    simp [h1, h0]
  · by_cases h2 : x < 7
    · have h0 : 0 ≤ x ∧ x < 7 := ⟨Int32.not_lt.mp h1, h2⟩
      simp [h1, h0]
    · have h0 : ¬ (0 ≤ x ∧ x < 7) := fun q => h2 q.2
      simp [h1, h2, h0]
theorem s_dayX (d : Nat) (st : Nat → Nat → Int32) (x : Int32) : m_evc (d + 2) 84 [.ref 0, .int x] (SH, st) = if 0 ≤ x ∧ x < 7 then some (some (.int (st 1 7)), (SH, m_up st 1 7 x)) else some (some (.int (-1)), (SH, st)) := by
  simp only [cal_X11_day, eX11_day_0, s_isDayX, m_bd, Option.toList, List.cons_append, List.nil_append, eX11_day_4, eX11_day_9]
  split <;> simp
theorem s_isDayM (d : Nat) (st : Nat → Nat → Int32) (x : Int32) : m_evc (d + 2) 157 [.int x] (SH, st) = some (some (.int (if 0 ≤ x ∧ x < 7 then 1 else 0)), (SH, st)) := by
  simp only [cal_X12_isDay, eX12_isDay_0, s_in, m_bd, Option.toList, List.cons_append, List.nil_append, eX12_isDay_9]
  have e : ((0 : Int64) ≤ x.toInt64 ∧ x.toInt64 ≤ 6) = (0 ≤ x ∧ x < 7) := by
    simp only [Int64.le_iff_toInt_le, Int32.le_iff_toInt_le, Int32.lt_iff_toInt_lt, Int32.toInt_toInt64]
    have h0 : (0 : Int64).toInt = 0 := rfl
    have h6 : (6 : Int64).toInt = 6 := rfl
    have g0 : (0 : Int32).toInt = 0 := rfl
    have g7 : (7 : Int32).toInt = 7 := rfl
    rw [h0, h6, g0, g7]
    apply propext
    omega
  simp only [e]
  by_cases h : 0 ≤ x ∧ x < 7 <;> simp [h]
theorem s_dayM (d : Nat) (st : Nat → Nat → Int32) (x : Int32) : m_evc (d + 3) 175 [.ref 85, .int x] (SH, st) = if 0 ≤ x ∧ x < 7 then some (some (.int (st 86 2)), (SH, m_up st 86 2 x)) else some (some (.int (-1)), (SH, st)) := by
  simp only [cal_X12_day, eX12_day_0, s_isDayM, m_bd, Option.toList, List.cons_append, List.nil_append, eX12_day_4, eX12_day_9]
  split <;> simp
theorem s_mileX (d : Nat) (st : Nat → Nat → Int32) (x y : Int32) : m_evc (d + 1) 70 [.ref 1, .int x, .int y] (SH, st) = m_ob (m_ix x 7) fun q => some (some (.int (if y = 0 then 4 - st 8 q else 4 + st 8 q)), (SH, st)) := by
  simp only [cal_X9_minutesAMile, eX9_minutesAMile_0, eX9_minutesAMile_15, eX9_minutesAMile_23]
  by_cases h : y = 0 <;> simp [h]
theorem s_paceX (d : Nat) (st : Nat → Nat → Int32) (y : Int32) : m_evc (d + 2) 86 [.ref 0, .int y] (SH, st) = m_ob (m_ix (st 1 7) 7) fun q => some (some (.int (if y = 0 then 4 - st 8 q else 4 + st 8 q)), (SH, st)) := by
  simp only [cal_X11_pace, eX11_pace_0, s_mileX]
  cases m_ix (st 1 7) 7 <;> simp only [m_ob, m_bd, Option.toList, List.cons_append, List.nil_append, eX11_pace_15]
theorem s_paceM (d : Nat) (st : Nat → Nat → Int32) (y : Int32) : m_evc (d + 1) 177 [.ref 85, .int y] (SH, st) = m_ob (m_ix (5 + st 86 2) 310) fun q => some (some (.int (if y = 0 then 4 - st 86 q else 4 + st 86 q)), (SH, st)) := by
  simp only [cal_X12_pace, eX12_pace_0, eX12_pace_22, eX12_pace_37]
  by_cases h : y = 0 <;> simp [h]
/-- a call of the class and of the model, from what both answer -/
theorem lw_C_of {Rel : (Nat → Nat → Int32) → Prop} {kx km : Nat} {as : List Value} (H : ∀ st, Rel st → ∃ (r : Int32) (st1 st2 : Nat → Nat → Int32), m_evc 2047 kx (.ref 0 :: as) (SH, st) = some (some (.int r), (SH, st1)) ∧ m_evc 2047 km (.ref 85 :: as) (SH, st1) = some (some (.int r), (SH, st2)) ∧ Rel st2) : lw_C Rel kx km as := H
/-- day: the class's number is (1, 7), the model's (86, 2) -/
theorem lw_day {Rel : (Nat → Nat → Int32) → Prop} (x : Int32) (h1 : ∀ st, Rel st → st 1 7 = st 86 2) (h2 : ∀ st, Rel st → 0 ≤ x → x < 7 → Rel (m_up (m_up st 1 7 x) 86 2 x)) : lw_C Rel 84 175 [.int x] := by
  intro st hR
  by_cases h : 0 ≤ x ∧ x < 7
  · refine ⟨st 1 7, m_up st 1 7 x, m_up (m_up st 1 7 x) 86 2 x, ?_, ?_, h2 st hR h.1 h.2⟩
    · rw [s_dayX 2045 st x, if_pos h]
    · rw [s_dayM 2044, if_pos h, h1 st hR]
      rfl
  · refine ⟨-1, st, st, ?_, ?_, hR⟩
    · rw [s_dayX 2045 st x, if_neg h]
    · rw [s_dayM 2044, if_neg h]
