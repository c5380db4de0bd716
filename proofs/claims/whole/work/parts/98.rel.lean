/-! WHAT IS LEFT: what holds between the class and the model from call to call -/
theorem lw_rel_ok : ∃ Rel : (Nat → Nat → Int32) → Prop, lw_All Rel ∧ ∀ st, lw_St0 st → Rel st := by
  sorry
