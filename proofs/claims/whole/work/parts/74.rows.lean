/-! CALLS: row, alterRow, prove -/
theorem grow_15 (d : Nat) (st : Nat → Nat → Int32) (x1 x2 : Int32) {i : Nat} (hi : i < 9) : m_ev none d 132 15 [some (.ref 0), some (.int x1), some (.int x2)] [va_rf (m_ri [some 57, some 58, some 59, some 60, some 61, some 62, some 63, some 64, some 65] i)] (SH, st) = m_ob (m_ix x2 3) fun q1 => m_ev none d 132 22 [some (.ref 0), some (.int x1), some (.int x2)] [.int (st (57 + i) q1)] (SH, st) := by
  have h : i = 0 ∨ i = 1 ∨ i = 2 ∨ i = 3 ∨ i = 4 ∨ i = 5 ∨ i = 6 ∨ i = 7 ∨ i = 8 := by omega
  rcases h with rfl | rfl | rfl | rfl | rfl | rfl | rfl | rfl | rfl
  · exact eX11_row_15_v0 d st x1 x2
  · exact eX11_row_15_v1 d st x1 x2
  · exact eX11_row_15_v2 d st x1 x2
  · exact eX11_row_15_v3 d st x1 x2
  · exact eX11_row_15_v4 d st x1 x2
  · exact eX11_row_15_v5 d st x1 x2
  · exact eX11_row_15_v6 d st x1 x2
  · exact eX11_row_15_v7 d st x1 x2
  · exact eX11_row_15_v8 d st x1 x2
theorem galterRow_18 (d : Nat) (st : Nat → Nat → Int32) (x1 x2 x3 : Int32) {i : Nat} (hi : i < 9) : m_ev none d 133 18 [some (.ref 0), some (.int x1), some (.int x2), some (.int x3), none] [va_rf (m_ri [some 57, some 58, some 59, some 60, some 61, some 62, some 63, some 64, some 65] i)] (SH, st) = m_ob (m_ix x2 3) fun q1 => m_ob (m_ix x1 9) fun q2 => m_ev none d 133 28 [some (.ref 0), some (.int x1), some (.int x2), some (.int x3), some (.int (st (57 + i) q1))] (va_rf (m_ri [some 57, some 58, some 59, some 60, some 61, some 62, some 63, some 64, some 65] q2) :: []) (SH, st) := by
  have h : i = 0 ∨ i = 1 ∨ i = 2 ∨ i = 3 ∨ i = 4 ∨ i = 5 ∨ i = 6 ∨ i = 7 ∨ i = 8 := by omega
  rcases h with rfl | rfl | rfl | rfl | rfl | rfl | rfl | rfl | rfl
  · exact eX11_alterRow_18_v0 d st x1 x2 x3
  · exact eX11_alterRow_18_v1 d st x1 x2 x3
  · exact eX11_alterRow_18_v2 d st x1 x2 x3
  · exact eX11_alterRow_18_v3 d st x1 x2 x3
  · exact eX11_alterRow_18_v4 d st x1 x2 x3
  · exact eX11_alterRow_18_v5 d st x1 x2 x3
  · exact eX11_alterRow_18_v6 d st x1 x2 x3
  · exact eX11_alterRow_18_v7 d st x1 x2 x3
  · exact eX11_alterRow_18_v8 d st x1 x2 x3
theorem galterRow_28 (d : Nat) (st : Nat → Nat → Int32) (x1 x2 x3 x4 : Int32) {i : Nat} (hi : i < 9) : m_ev none d 133 28 [some (.ref 0), some (.int x1), some (.int x2), some (.int x3), some (.int x4)] [va_rf (m_ri [some 57, some 58, some 59, some 60, some 61, some 62, some 63, some 64, some 65] i)] (SH, st) = m_ob (m_ix x2 3) fun q1 => some (some (.int x4), (SH, (m_up st (57 + i) q1 x3))) := by
  have h : i = 0 ∨ i = 1 ∨ i = 2 ∨ i = 3 ∨ i = 4 ∨ i = 5 ∨ i = 6 ∨ i = 7 ∨ i = 8 := by omega
  rcases h with rfl | rfl | rfl | rfl | rfl | rfl | rfl | rfl | rfl
  · exact eX11_alterRow_28_v0 d st x1 x2 x3 x4
  · exact eX11_alterRow_28_v1 d st x1 x2 x3 x4
  · exact eX11_alterRow_28_v2 d st x1 x2 x3 x4
  · exact eX11_alterRow_28_v3 d st x1 x2 x3 x4
  · exact eX11_alterRow_28_v4 d st x1 x2 x3 x4
  · exact eX11_alterRow_28_v5 d st x1 x2 x3 x4
  · exact eX11_alterRow_28_v6 d st x1 x2 x3 x4
  · exact eX11_alterRow_28_v7 d st x1 x2 x3 x4
  · exact eX11_alterRow_28_v8 d st x1 x2 x3 x4
theorem gprove_77 (d : Nat) (st : Nat → Nat → Int32) (x1 x2 x3 x4 x5 : Int32) {i : Nat} (hi : i < 9) : m_ev none d 131 77 [some (.ref 0), some (.int x1), some (.int x2), some (.int x3), some (.int x4), some (.int x5)] [va_rf (m_ri [some 57, some 58, some 59, some 60, some 61, some 62, some 63, some 64, some 65] i)] (SH, st) = m_ob (m_ix x4 9) fun q1 => m_ev none d 131 88 [some (.ref 0), some (.int x1), some (.int x2), some (.int x3), some (.int x4), some (.int x5)] (va_rf (m_ri [some 57, some 58, some 59, some 60, some 61, some 62, some 63, some 64, some 65] q1) :: []) (SH, (m_up st (57 + i) 0 x5)) := by
  have h : i = 0 ∨ i = 1 ∨ i = 2 ∨ i = 3 ∨ i = 4 ∨ i = 5 ∨ i = 6 ∨ i = 7 ∨ i = 8 := by omega
  rcases h with rfl | rfl | rfl | rfl | rfl | rfl | rfl | rfl | rfl
  · exact eX11_prove_77_v0 d st x1 x2 x3 x4 x5
  · exact eX11_prove_77_v1 d st x1 x2 x3 x4 x5
  · exact eX11_prove_77_v2 d st x1 x2 x3 x4 x5
  · exact eX11_prove_77_v3 d st x1 x2 x3 x4 x5
  · exact eX11_prove_77_v4 d st x1 x2 x3 x4 x5
  · exact eX11_prove_77_v5 d st x1 x2 x3 x4 x5
  · exact eX11_prove_77_v6 d st x1 x2 x3 x4 x5
  · exact eX11_prove_77_v7 d st x1 x2 x3 x4 x5
  · exact eX11_prove_77_v8 d st x1 x2 x3 x4 x5
theorem gprove_88 (d : Nat) (st : Nat → Nat → Int32) (x1 x2 x3 x4 x5 : Int32) {i : Nat} (hi : i < 9) : m_ev none d 131 88 [some (.ref 0), some (.int x1), some (.int x2), some (.int x3), some (.int x4), some (.int x5)] [va_rf (m_ri [some 57, some 58, some 59, some 60, some 61, some 62, some 63, some 64, some 65] i)] (SH, st) = m_ob (m_ix x5 9) fun q1 => m_ob (m_ix x4 9) fun q2 => m_ev none d 131 107 [some (.ref 0), some (.int x1), some (.int x2), some (.int x3), some (.int x4), some (.int x5)] (va_rf (m_ri [some 57, some 58, some 59, some 60, some 61, some 62, some 63, some 64, some 65] q2) :: []) (SH, (m_up st (57 + i) 1 (st 47 q1))) := by
  have h : i = 0 ∨ i = 1 ∨ i = 2 ∨ i = 3 ∨ i = 4 ∨ i = 5 ∨ i = 6 ∨ i = 7 ∨ i = 8 := by omega
  rcases h with rfl | rfl | rfl | rfl | rfl | rfl | rfl | rfl | rfl
  · exact eX11_prove_88_v0 d st x1 x2 x3 x4 x5
  · exact eX11_prove_88_v1 d st x1 x2 x3 x4 x5
  · exact eX11_prove_88_v2 d st x1 x2 x3 x4 x5
  · exact eX11_prove_88_v3 d st x1 x2 x3 x4 x5
  · exact eX11_prove_88_v4 d st x1 x2 x3 x4 x5
  · exact eX11_prove_88_v5 d st x1 x2 x3 x4 x5
  · exact eX11_prove_88_v6 d st x1 x2 x3 x4 x5
  · exact eX11_prove_88_v7 d st x1 x2 x3 x4 x5
  · exact eX11_prove_88_v8 d st x1 x2 x3 x4 x5
theorem gprove_107 (d : Nat) (st : Nat → Nat → Int32) (x1 x2 x3 x4 x5 : Int32) {i : Nat} (hi : i < 9) : m_ev none d 131 107 [some (.ref 0), some (.int x1), some (.int x2), some (.int x3), some (.int x4), some (.int x5)] [va_rf (m_ri [some 57, some 58, some 59, some 60, some 61, some 62, some 63, some 64, some 65] i)] (SH, st) = m_ob (m_ix x5 9) fun q1 => m_ev none d 131 119 [some (.ref 0), some (.int x1), some (.int x2), some (.int x3), some (.int x4), some (.int x5)] [] (SH, (m_up st (57 + i) 2 (st 48 q1))) := by
  have h : i = 0 ∨ i = 1 ∨ i = 2 ∨ i = 3 ∨ i = 4 ∨ i = 5 ∨ i = 6 ∨ i = 7 ∨ i = 8 := by omega
  rcases h with rfl | rfl | rfl | rfl | rfl | rfl | rfl | rfl | rfl
  · exact eX11_prove_107_v0 d st x1 x2 x3 x4 x5
  · exact eX11_prove_107_v1 d st x1 x2 x3 x4 x5
  · exact eX11_prove_107_v2 d st x1 x2 x3 x4 x5
  · exact eX11_prove_107_v3 d st x1 x2 x3 x4 x5
  · exact eX11_prove_107_v4 d st x1 x2 x3 x4 x5
  · exact eX11_prove_107_v5 d st x1 x2 x3 x4 x5
  · exact eX11_prove_107_v6 d st x1 x2 x3 x4 x5
  · exact eX11_prove_107_v7 d st x1 x2 x3 x4 x5
  · exact eX11_prove_107_v8 d st x1 x2 x3 x4 x5
theorem gisRowOfAsked_6 (d : Nat) (st : Nat → Nat → Int32) (x1 x2 : Int32) {i : Nat} (hi : i < 9) : m_ev none d 136 6 [some (.ref 0), some (.int x1), some (.int x2)] [va_rf (m_ri [some 57, some 58, some 59, some 60, some 61, some 62, some 63, some 64, some 65] i)] (SH, st) = if (st (57 + i) 0) = x2 then (m_ob (m_ix x1 9) fun q1 => m_ev none d 136 18 [some (.ref 0), some (.int x1), some (.int x2)] (va_rf (m_ri [some 57, some 58, some 59, some 60, some 61, some 62, some 63, some 64, some 65] q1) :: []) (SH, st)) else (m_ev none d 136 56 [some (.ref 0), some (.int x1), some (.int x2)] [] (SH, st)) := by
  have h : i = 0 ∨ i = 1 ∨ i = 2 ∨ i = 3 ∨ i = 4 ∨ i = 5 ∨ i = 6 ∨ i = 7 ∨ i = 8 := by omega
  rcases h with rfl | rfl | rfl | rfl | rfl | rfl | rfl | rfl | rfl
  · exact eX11_isRowOfAsked_6_v0 d st x1 x2
  · exact eX11_isRowOfAsked_6_v1 d st x1 x2
  · exact eX11_isRowOfAsked_6_v2 d st x1 x2
  · exact eX11_isRowOfAsked_6_v3 d st x1 x2
  · exact eX11_isRowOfAsked_6_v4 d st x1 x2
  · exact eX11_isRowOfAsked_6_v5 d st x1 x2
  · exact eX11_isRowOfAsked_6_v6 d st x1 x2
  · exact eX11_isRowOfAsked_6_v7 d st x1 x2
  · exact eX11_isRowOfAsked_6_v8 d st x1 x2
theorem gisRowOfAsked_18 (d : Nat) (st : Nat → Nat → Int32) (x1 x2 : Int32) {i : Nat} (hi : i < 9) : m_ev none d 136 18 [some (.ref 0), some (.int x1), some (.int x2)] [va_rf (m_ri [some 57, some 58, some 59, some 60, some 61, some 62, some 63, some 64, some 65] i)] (SH, st) = m_ob (m_ix x2 9) fun q1 => if (st (57 + i) 1) = (st 47 q1) then (m_ob (m_ix x1 9) fun q2 => m_ev none d 136 38 [some (.ref 0), some (.int x1), some (.int x2)] (va_rf (m_ri [some 57, some 58, some 59, some 60, some 61, some 62, some 63, some 64, some 65] q2) :: []) (SH, st)) else (m_ev none d 136 56 [some (.ref 0), some (.int x1), some (.int x2)] [] (SH, st)) := by
  have h : i = 0 ∨ i = 1 ∨ i = 2 ∨ i = 3 ∨ i = 4 ∨ i = 5 ∨ i = 6 ∨ i = 7 ∨ i = 8 := by omega
  rcases h with rfl | rfl | rfl | rfl | rfl | rfl | rfl | rfl | rfl
  · exact eX11_isRowOfAsked_18_v0 d st x1 x2
  · exact eX11_isRowOfAsked_18_v1 d st x1 x2
  · exact eX11_isRowOfAsked_18_v2 d st x1 x2
  · exact eX11_isRowOfAsked_18_v3 d st x1 x2
  · exact eX11_isRowOfAsked_18_v4 d st x1 x2
  · exact eX11_isRowOfAsked_18_v5 d st x1 x2
  · exact eX11_isRowOfAsked_18_v6 d st x1 x2
  · exact eX11_isRowOfAsked_18_v7 d st x1 x2
  · exact eX11_isRowOfAsked_18_v8 d st x1 x2
theorem gisRowOfAsked_38 (d : Nat) (st : Nat → Nat → Int32) (x1 x2 : Int32) {i : Nat} (hi : i < 9) : m_ev none d 136 38 [some (.ref 0), some (.int x1), some (.int x2)] [va_rf (m_ri [some 57, some 58, some 59, some 60, some 61, some 62, some 63, some 64, some 65] i)] (SH, st) = m_ob (m_ix x2 9) fun q1 => if (st (57 + i) 2) = (st 48 q1) then (m_ev none d 136 57 [some (.ref 0), some (.int x1), some (.int x2)] [.int 1] (SH, st)) else (m_ev none d 136 56 [some (.ref 0), some (.int x1), some (.int x2)] [] (SH, st)) := by
  have h : i = 0 ∨ i = 1 ∨ i = 2 ∨ i = 3 ∨ i = 4 ∨ i = 5 ∨ i = 6 ∨ i = 7 ∨ i = 8 := by omega
  rcases h with rfl | rfl | rfl | rfl | rfl | rfl | rfl | rfl | rfl
  · exact eX11_isRowOfAsked_38_v0 d st x1 x2
  · exact eX11_isRowOfAsked_38_v1 d st x1 x2
  · exact eX11_isRowOfAsked_38_v2 d st x1 x2
  · exact eX11_isRowOfAsked_38_v3 d st x1 x2
  · exact eX11_isRowOfAsked_38_v4 d st x1 x2
  · exact eX11_isRowOfAsked_38_v5 d st x1 x2
  · exact eX11_isRowOfAsked_38_v6 d st x1 x2
  · exact eX11_isRowOfAsked_38_v7 d st x1 x2
  · exact eX11_isRowOfAsked_38_v8 d st x1 x2

abbrev gI (N : Nat) (x y : Int32) : Prop := (0 ≤ x.toInt ∧ x.toInt < (N : Int)) ∧ (0 ≤ y.toInt ∧ y.toInt ≤ 2)
def rN (st : zS) : Nat := (st 0 8).toNatClampNeg
theorem gI_e {N : Nat} {x y : Int32} (h : gI N x y) : ∃ i w, i < N ∧ w < 3 ∧ x = Int32.ofNat i ∧ y = Int32.ofNat w := by
  obtain ⟨⟨a, b⟩, c, d⟩ := h
  obtain ⟨e1, e2, e3⟩ := n_of (x := x) (by rw [i_le]; exact a)
  obtain ⟨f1, f2, f3⟩ := n_of (x := y) (by rw [i_le]; exact c)
  exact ⟨_, _, by omega, by omega, e1, f1⟩
theorem x_inR (d : Nat) (st : zS) {N : Nat} (h0 : st 0 8 = Int32.ofNat N) (hN : N ≤ 9) (x y : Int32) : m_evc (d + 1) 135 [.ref 0, .int x, .int y] (SH, st) = some (some (.int (bZ (gI N x y))), (SH, st)) := by
  rw [cal_X11_isInRows, eX11_isInRows_0, h0]
  have z0 : (0 : Int32).toInt = 0 := rfl
  have z2 : (2 : Int32).toInt = 2 := rfl
  simp only [i_lt, z0, z2, n_int (show N < 2147483648 by omega)]
  by_cases h1 : x.toInt < 0
  · rw [if_pos h1, eX11_isInRows_25, eX11_isInRows_26, if_pos (Or.inl rfl), bZ_f (fun z => by have := z.1.1; omega)]
  · rw [if_neg h1]
    by_cases h2 : x.toInt < (N : Int)
    · rw [if_pos h2]
      by_cases h3 : y.toInt < 0
      · rw [if_pos h3, eX11_isInRows_25, eX11_isInRows_26, if_pos (Or.inl rfl), bZ_f (fun z => by have := z.2.1; omega)]
      · rw [if_neg h3]
        by_cases h4 : 2 < y.toInt
        · rw [if_pos h4, eX11_isInRows_25, eX11_isInRows_26, if_pos (Or.inl rfl), bZ_f (fun z => by have := z.2.2; omega)]
        · rw [if_neg h4, eX11_isInRows_26, if_pos (Or.inr rfl), bZ_t (show gI N x y from ⟨⟨by omega, h2⟩, by omega, by omega⟩)]
    · rw [if_neg h2, eX11_isInRows_25, eX11_isInRows_26, if_pos (Or.inl rfl), bZ_f (fun z => h2 z.1.2)]
theorem m_inR (d : Nat) (st : zS) {N : Nat} (h0 : st 85 15 = Int32.ofNat N) (hN : N ≤ 9) (x y : Int32) : m_evc (d + 2) 221 [.ref 85, .int x, .int y] (SH, st) = some (some (.int (bZ (gI N x y))), (SH, st)) := by
  rw [cal_X12_isRow, eX12_isRow_0, s_inb]
  simp only [m_bd, Option.toList, List.cons_append, List.nil_append]
  have e1 : (st 85 15 - 1).toInt = (N : Int) - 1 := by
    rw [h0, Int32.toInt_sub, n_int (by omega)]
    have : (1 : Int32).toInt = 1 := rfl
    rw [this]
    apply Int.bmod_eq_of_le <;> omega
  have z0 : (0 : Int64).toInt = 0 := rfl
  have z2 : (2 : Int64).toInt = 2 := rfl
  rw [Int32.toInt_toInt64, e1, z0, eX12_isRow_13, bZ_if]
  by_cases h1 : 0 ≤ x.toInt ∧ x.toInt ≤ (N : Int) - 1
  · rw [if_pos h1, s_inb]
    simp only [m_bd, Option.toList, List.cons_append, List.nil_append]
    rw [z0, z2, eX12_isRow_25, bZ_if]
    by_cases h2 : 0 ≤ y.toInt ∧ y.toInt ≤ 2
    · rw [if_pos h2, eX12_isRow_33, if_pos (Or.inr rfl), bZ_t (show gI N x y from ⟨⟨h1.1, by omega⟩, h2⟩)]
    · rw [if_neg h2, eX12_isRow_32, eX12_isRow_33, if_pos (Or.inl rfl), bZ_f (fun z => h2 z.2)]
  · rw [if_neg h1, eX12_isRow_32, eX12_isRow_33, if_pos (Or.inl rfl), bZ_f (fun z => h1 ⟨z.1.1, by have := z.1.2; omega⟩)]
theorem ix_Q {i w : Nat} (hi : i < 9) (hw : w < 3) : m_ix ((3 * Int32.ofNat i) + Int32.ofNat w) 27 = some (3 * i + w) := by
  rw [show (3 : Int32) = Int32.ofNat 3 from rfl, n_mul, n_add]
  exact ix_n (by omega) (by omega)
/-- only the rows that were proved, and what nothing is remembered of, have changed -/
def mrw (st st' : zS) : Prop := fr [0, 17, 44, 45, 46, 47, 48, 49, 50, 51, 52, 53, 54, 55, 57, 58, 59, 60, 61, 62, 63, 64, 65, 85, 88, 89, 90, 91, 92, 93] st st' ∧ st' 0 2 = st 0 2 ∧ st' 85 3 = st 85 3 ∧ st' 85 17 = st 85 17 ∧ st' 85 31 = st 85 31
theorem Rel_rows {st st' : zS} (h : Rel st) (f : mrw st st') (hr : Rrows st') : Rel st' := by
  obtain ⟨a, b, c, d, e, g, i⟩ := h
  obtain ⟨f, f2, f3, f17, f31⟩ := f
  have e35 : st' 35 = st 35 := f 35 rfl
  exact ⟨Rnow_fr f rfl a, Rkept_fr f rfl f2 f3 b, hr, Rsheet_fr f rfl d, Rshelf_fr f rfl e, Rtrace_fr f rfl f31 g, Rtape_fr f rfl (by rw [e35]) f17 i⟩
theorem r_row (x y : Int32) : lw_C Rel 132 222 [.int x, .int y] := by
  intro st hR
  obtain ⟨h1, h2, h3, h4⟩ := hR.2.2.1
  refine lw_bad hR (r := if gI (rN st) x y then st (57 + x.toNatClampNeg) y.toNatClampNeg else -9) ?_ ?_
  · rw [cal_X11_row 2046, eX11_row_0, x_inR 2045 st h2 h3]
    simp only [m_bd, Option.toList, List.cons_append, List.nil_append]
    rw [eX11_row_6, bZ_if]
    by_cases h : gI (rN st) x y
    · obtain ⟨i, w, hi, hw, rfl, rfl⟩ := gI_e h
      have hi9 : i < 9 := by have : rN st ≤ 9 := h3; omega
      rw [if_pos h, if_pos (show gI (st 0 8).toNatClampNeg _ _ from h), ix_9 hi9, ob_s, grow_15 _ _ _ _ hi9, ix_3 hw, ob_s, eX11_row_22, n_nat (by omega), n_nat (by omega)]
    · rw [if_neg h, if_neg (show ¬ gI (st 0 8).toNatClampNeg x y from h), eX11_row_20, eX11_row_22]
  · rw [cal_X12_row 2046, eX12_row_0, m_inR 2044 st (h1.symm.trans h2) h3]
    simp only [m_bd, Option.toList, List.cons_append, List.nil_append]
    rw [eX12_row_6, bZ_if]
    by_cases h : gI (rN st) x y
    · obtain ⟨i, w, hi, hw, rfl, rfl⟩ := gI_e h
      have hi9 : i < 9 := by have : rN st ≤ 9 := h3; omega
      rw [if_pos h, if_pos (show gI (st 0 8).toNatClampNeg _ _ from h), ix_Q hi9 hw, ob_s, eX12_row_24, n_nat (by omega), n_nat (by omega), h4 i hi w hw]
    · rw [if_neg h, if_neg (show ¬ gI (st 0 8).toNatClampNeg x y from h), eX12_row_22, eX12_row_24]
theorem r_alterRow (x y v : Int32) : lw_C Rel 133 223 [.int x, .int y, .int v] := by
  intro st hR
  obtain ⟨h1, h2, h3, h4⟩ := hR.2.2.1
  have X : m_evc 2047 133 [.ref 0, .int x, .int y, .int v] (SH, st) = if gI (rN st) x y then m_ev none 2046 133 12 [some (.ref 0), some (.int x), some (.int y), some (.int v), none] [] (SH, st) else some (some (.int (-9)), (SH, st)) := by
    rw [cal_X11_alterRow 2046, eX11_alterRow_0, x_inR 2045 st h2 h3]
    simp only [m_bd, Option.toList, List.cons_append, List.nil_append]
    rw [eX11_alterRow_6, bZ_if]
    by_cases h : gI (rN st) x y
    · rw [if_pos h, if_pos (show gI (st 0 8).toNatClampNeg x y from h)]
    · rw [if_neg h, if_neg (show ¬ gI (st 0 8).toNatClampNeg x y from h)]
  have M : ∀ a : zS, a 85 = st 85 → m_evc 2047 223 [.ref 85, .int x, .int y, .int v] (SH, a) = if gI (rN st) x y then m_ev none 2046 223 12 [some (.ref 85), some (.int x), some (.int y), some (.int v), none] [] (SH, a) else some (some (.int (-9)), (SH, a)) := by
    intro a ea
    rw [cal_X12_alterRow 2046, eX12_alterRow_0, m_inR 2044 a (by rw [ea]; exact h1.symm.trans h2) h3]
    simp only [m_bd, Option.toList, List.cons_append, List.nil_append]
    rw [eX12_alterRow_6, bZ_if]
    by_cases h : gI (rN st) x y
    · rw [if_pos h, if_pos (show gI (st 0 8).toNatClampNeg x y from h)]
    · rw [if_neg h, if_neg (show ¬ gI (st 0 8).toNatClampNeg x y from h)]
  by_cases h : gI (rN st) x y
  · have hh := h
    obtain ⟨i, w, hi, hw, rfl, rfl⟩ := gI_e h
    have hi9 : i < 9 := by have : rN st ≤ 9 := h3; omega
    refine ⟨st (57 + i) w, m_up st (57 + i) w v, m_up (m_up st (57 + i) w v) 93 (3 * i + w) v, ?_, ?_, ?_⟩
    · rw [X, if_pos hh, eX11_alterRow_12, ix_9 hi9, ob_s, galterRow_18 _ _ _ _ _ hi9, ix_3 hw, ob_s, ix_9 hi9, ob_s, galterRow_28 _ _ _ _ _ _ hi9, ix_3 hw, ob_s]
    · rw [M _ (up_ne (by omega)), if_pos hh, eX12_alterRow_12, ix_Q hi9 hw, ob_s, ob_s, up_ne (show 93 ≠ 57 + i by omega), h4 i hi w hw]
    · have f : fr [57, 58, 59, 60, 61, 62, 63, 64, 65, 93] st (m_up (m_up st (57 + i) w v) 93 (3 * i + w) v) := fr_up (fr_up (fr_refl _ _) (by simp; omega)) rfl
      refine Rel_rows hR ⟨fr_mono f (by decide), by rw [f 0 rfl], by rw [f 85 rfl], by rw [f 85 rfl], by rw [f 85 rfl]⟩ ?_
      unfold Rrows
      rw [f 0 rfl, f 85 rfl]
      refine ⟨h1, h2, h3, fun k hk u hu => ?_⟩
      have hk9 : k < 9 := by omega
      rw [up_ne (show 57 + k ≠ 93 by omega)]
      by_cases q : k = i
      · subst q
        by_cases q2 : u = w
        · subst q2; rw [up_in, up_in]
        · rw [up_nj q2, up_nj (by omega), up_ne (by omega)]; exact h4 k hk u hu
      · rw [up_ne (show 57 + k ≠ 57 + i by omega), up_nj (by omega), up_ne (by omega)]; exact h4 k hk u hu
  · exact lw_bad hR (by rw [X, if_neg h]) (by rw [M _ rfl, if_neg h])
