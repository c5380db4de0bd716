/-! THE START: all that is related is so when the run begins -/
theorem Rel_0 (st : zS) (hs : lw_St0 st) : Rel st := by
  have n0 : (0 : Int32).toNatClampNeg = 0 := rfl
  have a0 : st 86 0 = 0 := hs 86 _ rfl 0 (by decide)
  have a1 : st 86 1 = 0 := hs 86 _ rfl 1 (by decide)
  have a2 : st 86 2 = 0 := hs 86 _ rfl 2 (by decide)
  have a3 : st 86 3 = 1 := hs 86 _ rfl 3 (by decide)
  have a4 : st 86 4 = 0 := hs 86 _ rfl 4 (by decide)
  have aw : ∀ j, j < 7 → st 86 (5 + j) = 0 := fun j hj => by
    have h : j = 0 ∨ j = 1 ∨ j = 2 ∨ j = 3 ∨ j = 4 ∨ j = 5 ∨ j = 6 := by omega
    rcases h with rfl | rfl | rfl | rfl | rfl | rfl | rfl <;> exact hs 86 _ rfl _ (by decide)
  have bw : ∀ j, j < 7 → st 8 j = 0 := fun j hj => by
    have h : j = 0 ∨ j = 1 ∨ j = 2 ∨ j = 3 ∨ j = 4 ∨ j = 5 ∨ j = 6 := by omega
    rcases h with rfl | rfl | rfl | rfl | rfl | rfl | rfl <;> exact hs 8 _ rfl _ (by decide)
  have b0 : st 1 0 = 0 := hs 1 _ rfl 0 (by decide)
  have b7 : st 1 7 = 0 := hs 1 _ rfl 7 (by decide)
  have b9 : st 1 9 = 1 := hs 1 _ rfl 9 (by decide)
  have b11 : st 1 11 = 0 := hs 1 _ rfl 11 (by decide)
  have c0 : st 9 0 = 0 := hs 9 _ rfl 0 (by decide)
  have d2 : st 0 2 = 0 := hs 0 _ rfl 2 (by decide)
  have d8 : st 0 8 = 0 := hs 0 _ rfl 8 (by decide)
  have e3 : st 85 3 = 0 := hs 85 _ rfl 3 (by decide)
  have e15 : st 85 15 = 0 := hs 85 _ rfl 15 (by decide)
  have e17 : st 85 17 = 0 := hs 85 _ rfl 17 (by decide)
  have e31 : st 85 31 = 0 := hs 85 _ rfl 31 (by decide)
  have f76 : st 76 0 = 0 := hs 76 _ rfl 0 (by decide)
  have f35 : st 35 0 = 0 := hs 35 _ rfl 0 (by decide)
  have t0 : tn (st 86) = 0 := by unfold tn; rw [a0]; rfl
  have rg : RG (st 86) := ⟨by rw [a4]; rfl, by rw [a4]; decide, fun r hr => by rw [a4, n0] at hr; omega⟩
  refine ⟨⟨⟨⟨by rw [t0, a0]; rfl, by omega⟩, fun k hk => by omega, fun j hj => ?_, ⟨by rw [a2]; rfl, by rw [a2]; decide⟩, rg⟩, ⟨rg, by rw [c0, a4], fun r hr => by rw [a4, n0] at hr; omega⟩, ⟨by rw [b0, a0], by rw [b7, a2], by rw [b9, a3]⟩, fun k hk => by omega, fun j hj => by rw [bw j hj, aw j hj], fun k hk => by omega, ⟨by rw [a1]; rfl, by rw [a1]; decide, by rw [b11, a1], fun r hr => by rw [a1, n0] at hr; omega⟩, fun r hr => by rw [a4, n0] at hr; omega⟩, ⟨by rw [d2, e3], Or.inl d2⟩, ⟨by rw [d8, e15], by rw [d8]; rfl, by rw [d8]; decide, fun i hi => by rw [d8, n0] at hi; omega⟩, fun q hq => ?_, fun q hq => Or.inl ?_, ⟨by rw [f76, e31], by rw [f76]; rfl, by rw [f76]; decide, fun i hi => by rw [f76, n0] at hi; omega⟩, ⟨by rw [f35, e17], by rw [f35]; rfl, by rw [f35]; decide, fun i hi => by rw [f35, n0] at hi; omega⟩⟩
  · rw [aw j hj]; decide
  · have h : q = 0 ∨ q = 1 ∨ q = 2 ∨ q = 3 := by omega
    have x1 : st 66 q = -1 := by rcases h with rfl | rfl | rfl | rfl <;> exact hs 66 _ rfl _ (by decide)
    have x2 : st 95 q = -1 := by rcases h with rfl | rfl | rfl | rfl <;> exact hs 95 _ rfl _ (by decide)
    rw [x1, x2]
    exact ⟨rfl, by decide, fun w => absurd rfl w⟩
  · have h : q = 0 ∨ q = 1 ∨ q = 2 ∨ q = 3 := by omega
    rcases h with rfl | rfl | rfl | rfl <;> exact ⟨hs 73 _ rfl _ (by decide), hs 98 _ rfl _ (by decide)⟩
