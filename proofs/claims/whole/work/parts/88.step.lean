/-! CALLS: judge, a step of a one-way cry -/
theorem onw_step {s : Nat → Int32} {fm : Nat} {t w : Int32} (hw : w = 0 ∨ w = 1) {i : Nat} (hi : 1 ≤ i) (hc : i < tcap s w fm) {c h : Int32} (e : onw s fm t w (tw w fm (i - 1)) = some (c, h)) : onw s fm t w (tw w fm i) = if sil s (tw w fm (i - 1)) = true ∧ 1 < i then none else arr s (tw w fm i) ((c + (if 1 < i then s (14 + 6 * tw w fm (i - 1)) else 0)) + s (15 + 6 * (if w = 0 then tw w fm (i - 1) else tw w fm i)) * (if w = 0 then pe s else pw s)) h := by
  obtain ⟨j, rfl⟩ : ∃ j, i = j + 1 := ⟨i - 1, by omega⟩
  rw [show j + 1 - 1 = j by omega] at e ⊢
  rcases hw with rfl | rfl
  · have hc : j + 1 < fm + 1 := hc
    have e0 : tw 0 fm j = fm - j := rfl
    have e1 : tw 0 fm (j + 1) = fm - (j + 1) := rfl
    rw [e0] at e ⊢
    rw [e1]
    unfold onw at e ⊢
    rw [if_pos rfl] at e ⊢
    unfold eas at e ⊢
    rw [if_pos (by omega)] at e ⊢
    rw [show fm - (fm - j) = j by omega] at e
    rw [show fm - (fm - (j + 1)) = j + 1 by omega, if_pos rfl, if_pos rfl]
    show est s fm t (j + 1) = _
    unfold est
    rw [e]
    show (if sil s (fm - j) = true ∧ j ≠ 0 then none else arr s (fm - j - 1) ((c + (if j = 0 then 0 else s (14 + 6 * (fm - j)))) + s (15 + 6 * (fm - j)) * pe s) h) = _
    rw [show fm - j - 1 = fm - (j + 1) by omega]
    by_cases z : j = 0
    · subst z
      rw [if_neg (fun v => v.2 rfl), if_pos rfl, if_neg (fun v => by omega), if_neg (by omega)]
    · by_cases q : sil s (fm - j) = true
      · rw [if_pos ⟨q, z⟩, if_pos ⟨q, by omega⟩]
      · rw [if_neg (show ¬ (sil s (fm - j) = true ∧ j ≠ 0) from fun v => q v.1), if_neg z, if_neg (show ¬ (sil s (fm - j) = true ∧ 1 < j + 1) from fun v => q v.1), if_pos (by omega)]
  · have e0 : tw 1 fm j = fm + j := rfl
    have e1 : tw 1 fm (j + 1) = fm + j + 1 := rfl
    rw [e0] at e ⊢
    rw [e1]
    unfold onw at e ⊢
    rw [if_neg i_10] at e ⊢
    unfold wes at e ⊢
    rw [if_neg i_10, if_neg i_10]
    conv => lhs; unfold wst
    rw [if_neg (by rw [isb_lt (by omega)]; decide), e]
    show (if (sil s (fm + j) = true ∧ isb fm (fm + j) = false) ∨ nob (fm + j) = true then none else arr s (fm + j + 1) ((c + (if isb fm (fm + j) = true then 0 else s (14 + 6 * (fm + j)))) + s (15 + 6 * (fm + j + 1)) * pw s) h) = _
    by_cases z : j = 0
    · subst z
      rw [Nat.add_zero, isb_at, if_neg (fun v => by rcases v with v | v; exact absurd v.2 (by decide); exact absurd (show false = true from v) (by decide)), if_pos rfl, if_neg (fun v => by omega), if_neg (by omega)]
    · rw [isb_lt (show fm + j ≠ fm by omega)]
      by_cases q : sil s (fm + j) = true
      · rw [if_pos (Or.inl ⟨q, rfl⟩), if_pos ⟨q, by omega⟩]
      · rw [if_neg (fun v => by rcases v with v | v; exact q v.1; exact absurd (show false = true from v) (by decide)), if_neg (show ¬ (false = true) by decide), if_neg (show ¬ (sil s (fm + j) = true ∧ 1 < j + 1) from fun v => q v.1), if_pos (by omega)]
