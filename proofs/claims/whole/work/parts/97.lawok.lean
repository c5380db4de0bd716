/-! THE LAW, from what holds of each call -/
theorem lw_SH_len : SH.length = 102 := by decide +kernel
theorem lw_SH_sz : (SH.map fun r => r.2.1).sum = 3345 := by decide +kernel
theorem lw_LawOk {Rel : (Nat → Nat → Int32) → Prop} (HA : lw_All Rel) (h0 : ∀ st, lw_St0 st → Rel st) : m_LawOk := by
  intro L xs hL
  obtain ⟨st, hS, e1⟩ := lw_begin L xs
  obtain ⟨st2, e2⟩ := lw_loop HA (xs := xs) hL (L + 1) 0 st (by omega) (by omega) (h0 st hS)
  refine ⟨(SH, st2), e1.trans e2, ?_, ?_⟩
  · show SH.length ≤ 600000
    rw [lw_SH_len]; decide
  · show (SH.map fun r => r.2.1).sum ≤ 7302250
    rw [lw_SH_sz]; decide
