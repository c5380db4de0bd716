/-! CALLS of the host: many, trace, sheet -/
theorem x_isSh (d : Nat) (st : zS) (x : Int32) : m_evc (d + 1) 146 [.int x] (SH, st) = some (some (.int (bZ (gR 0 3 x))), (SH, st)) := by
  rw [cal_X11_isSheet, eX11_isSheet_0]
  have z0 : (0 : Int32).toInt = 0 := rfl
  have z4 : (4 : Int32).toInt = 4 := rfl
  simp only [i_lt, z0, z4]
  by_cases h1 : x.toInt < 0
  · rw [if_pos h1, eX11_isSheet_13, eX11_isSheet_14, if_pos (Or.inl rfl), bZ_f (fun z => by have := z.1; omega)]
  · rw [if_neg h1]
    by_cases h2 : x.toInt < 4
    · rw [if_pos h2, eX11_isSheet_14, if_pos (Or.inr rfl), bZ_t (show gR 0 3 x from ⟨by omega, by omega⟩)]
    · rw [if_neg h2, eX11_isSheet_13, eX11_isSheet_14, if_pos (Or.inl rfl), bZ_f (fun z => by have := z.2; omega)]
theorem x_isSf (d : Nat) (st : zS) (x : Int32) : m_evc (d + 1) 150 [.int x] (SH, st) = some (some (.int (bZ (gR 0 3 x))), (SH, st)) := by
  rw [cal_X11_isShelf, eX11_isShelf_0]
  have z0 : (0 : Int32).toInt = 0 := rfl
  have z4 : (4 : Int32).toInt = 4 := rfl
  simp only [i_lt, z0, z4]
  by_cases h1 : x.toInt < 0
  · rw [if_pos h1, eX11_isShelf_13, eX11_isShelf_14, if_pos (Or.inl rfl), bZ_f (fun z => by have := z.1; omega)]
  · rw [if_neg h1]
    by_cases h2 : x.toInt < 4
    · rw [if_pos h2, eX11_isShelf_14, if_pos (Or.inr rfl), bZ_t (show gR 0 3 x from ⟨by omega, by omega⟩)]
    · rw [if_neg h2, eX11_isShelf_13, eX11_isShelf_14, if_pos (Or.inl rfl), bZ_f (fun z => by have := z.2; omega)]
theorem x_isSt (d : Nat) (st : zS) (x : Int32) : m_evc (d + 1) 147 [.int x] (SH, st) = some (some (.int (bZ (gR 0 4 x))), (SH, st)) := by
  rw [cal_X11_isSort, eX11_isSort_0, gR_if]
  by_cases h : gR 0 4 x
  · rw [if_pos (show gR (0 : Int32).toInt (4 : Int32).toInt x from h), eX11_isSort_14, if_pos (Or.inr rfl), bZ_t h]
  · rw [if_neg (show ¬ gR (0 : Int32).toInt (4 : Int32).toInt x from h), eX11_isSort_13, eX11_isSort_14, if_pos (Or.inl rfl), bZ_f h]
theorem m_isOne (d : Nat) (st : zS) (x : Int32) : m_evc (d + 2) 244 [.int x] (SH, st) = some (some (.int (bZ (gR 0 3 x))), (SH, st)) := by
  rw [cal_X12_isOne, eX12_isOne_0, s_inb]
  simp only [m_bd, Option.toList, List.cons_append, List.nil_append]
  simp only [eX12_isOne_9, bZ_ok, if_true]
  rfl
theorem gR_e3 {x : Int32} (h : gR 0 3 x) : ∃ q, q < 4 ∧ x = Int32.ofNat q := by
  obtain ⟨a, b, c⟩ := gR_n h (by omega)
  exact ⟨_, by omega, a⟩
theorem m_trd (d : Nat) (st : zS) (hR : Rtrace st) : m_evc (d + 1) 261 [.ref 85] (SH, st) = some (some (.int (st 76 0)), (SH, st)) := by
  obtain ⟨h1, h2, h3, h4⟩ := hR
  rw [cal_X12_traced, eX12_traced_0, ← h1, if_pos (by rw [h2, show (30 : Int32) = Int32.ofNat 30 from rfl, n_lt (by omega) (by omega)]; omega), eX12_traced_18]
theorem r_many (x : Int32) : lw_C Rel 145 263 [.int x] := by
  intro st hR
  obtain ⟨hN, hV, h7, e0⟩ := Rel_x hR
  have cX : m_case x [[0, 44], [1, 52], [2, 63], [3, 71], [4, 76], [5, 84], [6, 92]] 100 = if x = 0 then 44 else if x = 1 then 52 else if x = 2 then 63 else if x = 3 then 71 else if x = 4 then 76 else if x = 5 then 84 else if x = 6 then 92 else 100 := rfl
  have cM : m_case x [[0, 44], [1, 51], [2, 58], [3, 65], [4, 70], [5, 75], [6, 80]] 85 = if x = 0 then 44 else if x = 1 then 51 else if x = 2 then 58 else if x = 3 then 65 else if x = 4 then 70 else if x = 5 then 75 else if x = 6 then 80 else 85 := rfl
  have X : m_evc 2047 145 [.ref 0, .int x] (SH, st) = m_ev none 2046 145 (if x = 0 then 44 else if x = 1 then 52 else if x = 2 then 63 else if x = 3 then 71 else if x = 4 then 76 else if x = 5 then 84 else if x = 6 then 92 else 100) [some (.ref 0), some (.int x)] [] (SH, st) := by
    rw [cal_X11_many 2046, eX11_many_0, cX]
  have M : m_evc 2047 263 [.ref 85, .int x] (SH, st) = m_ev none 2046 263 (if x = 0 then 44 else if x = 1 then 51 else if x = 2 then 58 else if x = 3 then 65 else if x = 4 then 70 else if x = 5 then 75 else if x = 6 then 80 else 85) [some (.ref 85), some (.int x)] [] (SH, st) := by
    rw [cal_X12_many 2046, eX12_many_0, cM]
  have V : VR _ _ _ _ _ _ _ _ _ _ _ _ _ _ _ _ _ := hR.1
  by_cases x0 : x = 0
  · rw [if_pos x0] at X M
    exact lw_bad hR (by rw [X, eX11_many_44]) (by rw [M, eX12_many_44, e0])
  rw [if_neg x0] at X M
  by_cases x1 : x = 1
  · rw [if_pos x1] at X M
    exact lw_bad hR (by rw [X, eX11_many_52]) (by rw [M, eX12_many_51, V.2.1.2.1])
  rw [if_neg x1] at X M
  by_cases x2 : x = 2
  · rw [if_pos x2] at X M
    exact lw_bad hR (by rw [X, eX11_many_63]) (by rw [M, eX12_many_58, (Rel_rp hR).2.2.1])
  rw [if_neg x2] at X M
  by_cases x3 : x = 3
  · rw [if_pos x3] at X M
    exact lw_bad hR (by rw [X, eX11_many_71]) (by rw [M, eX12_many_65, hR.2.2.1.1])
  rw [if_neg x3] at X M
  by_cases x4 : x = 4
  · rw [if_pos x4] at X M
    refine lw_bad hR (r := lp (hcF (st 86)) (tn (st 86)) 0 0) ?_ ?_
    · rw [X, eX11_many_76, x_holding 2045 st e0 hV.1 (Rel_he hR)]
      simp only [m_bd, Option.toList, List.cons_append, List.nil_append]
      rw [eX11_many_83]
    · rw [M, eX12_many_70, m_holders 2043 st hV.1]
      simp only [m_bd, Option.toList, List.cons_append, List.nil_append]
      rw [eX12_many_74]
  rw [if_neg x4] at X M
  by_cases x5 : x = 5
  · rw [if_pos x5] at X M
    exact lw_bad hR (by rw [X, eX11_many_84]) (by rw [M, eX12_many_75, hR.2.2.2.2.2.2.1])
  rw [if_neg x5] at X M
  by_cases x6 : x = 6
  · rw [if_pos x6] at X M
    refine lw_bad hR (by rw [X, eX11_many_92]) ?_
    rw [M, eX12_many_80, m_trd 2045 st hR.2.2.2.2.2.1]
    simp only [m_bd, Option.toList, List.cons_append, List.nil_append]
    rw [eX12_many_84]
  rw [if_neg x6] at X M
  exact lw_bad hR (by rw [X, eX11_many_100]) (by rw [M, eX12_many_85])
theorem r_trace (x : Int32) : lw_C Rel 144 262 [.int x] := by
  intro st hR
  have hT := hR.2.2.2.2.2.1
  obtain ⟨h1, h2, h3, h4⟩ := hT
  have e1 : (st 76 0 - 1).toInt = ((st 76 0).toNatClampNeg : Int) - 1 := by
    conv => lhs; rw [h2]
    rw [Int32.toInt_sub, n_int (by omega)]
    have : (1 : Int32).toInt = 1 := rfl
    rw [this]
    apply Int.bmod_eq_of_le <;> omega
  have i76 : (st 76 0).toInt = ((st 76 0).toNatClampNeg : Int) := by
    conv => lhs; rw [h2]
    rw [n_int (by omega)]
  have z0 : (0 : Int32).toInt = 0 := rfl
  have z06 : (0 : Int64).toInt = 0 := rfl
  refine lw_bad hR (r := if 0 ≤ x.toInt ∧ x.toInt < (st 76 0).toInt then st 77 x.toNatClampNeg else -3) ?_ ?_
  · rw [cal_X11_trace 2046, eX11_trace_0]
    simp only [i_lt, z0]
    by_cases q1 : x.toInt < 0
    · rw [if_pos q1, eX11_trace_27, eX11_trace_29, if_neg (by omega)]
    · rw [if_neg q1]
      by_cases q2 : x.toInt < (st 76 0).toInt
      · obtain ⟨e2, e3, e4⟩ := n_of (x := x) (by rw [i_le, z0]; omega)
        rw [if_pos q2, if_pos ⟨by omega, q2⟩, e2, ix_30 (by omega), ob_s, eX11_trace_29, n_nat (by omega)]
      · rw [if_neg q2, eX11_trace_27, eX11_trace_29, if_neg (fun z => q2 z.2)]
  · rw [cal_X12_trace 2046, eX12_trace_0, m_trd 2045 st hR.2.2.2.2.2.1]
    simp only [m_bd, Option.toList, List.cons_append, List.nil_append]
    rw [eX12_trace_7, s_inb 2045, Int32.toInt_toInt64, e1, z06]
    simp only [m_bd, Option.toList, List.cons_append, List.nil_append]
    rw [eX12_trace_13, bZ_if]
    by_cases q : 0 ≤ x.toInt ∧ x.toInt < (st 76 0).toInt
    · obtain ⟨e2, e3, e4⟩ := n_of (x := x) (by rw [i_le, z0]; omega)
      rw [if_pos (show 0 ≤ x.toInt ∧ x.toInt ≤ ((st 76 0).toNatClampNeg : Int) - 1 by omega), if_pos q, e2, ix_30 (by omega), ob_s, eX12_trace_27, n_nat (by omega), h4 _ (by omega)]
    · rw [if_neg (show ¬ (0 ≤ x.toInt ∧ x.toInt ≤ ((st 76 0).toNatClampNeg : Int) - 1) by omega), if_neg q, eX12_trace_25, eX12_trace_27]
