/-! CALLS of the host: write, item -/
theorem x_isI (d : Nat) (st : zS) {q : Nat} (hq : q < 4) (y : Int32) : m_evc (d + 1) 148 [.ref 0, .int (Int32.ofNat q), .int y] (SH, st) = some (some (.int (bZ (0 ≤ y.toInt ∧ y.toInt < (st 67 q).toInt))), (SH, st)) := by
  rw [cal_X11_isItem, eX11_isItem_0, ix_4 hq]
  have z0 : (0 : Int32).toInt = 0 := rfl
  simp only [i_lt, z0, ob_s]
  by_cases h1 : y.toInt < 0
  · rw [if_pos h1, eX11_isItem_18, eX11_isItem_19, if_pos (Or.inl rfl), bZ_f (fun z => by have := z.1; omega)]
  · rw [if_neg h1]
    by_cases h2 : y.toInt < (st 67 q).toInt
    · rw [if_pos h2, eX11_isItem_19, if_pos (Or.inr rfl), bZ_t (show 0 ≤ y.toInt ∧ y.toInt < (st 67 q).toInt from ⟨by omega, h2⟩)]
    · rw [if_neg h2, eX11_isItem_18, eX11_isItem_19, if_pos (Or.inl rfl), bZ_f (fun z => h2 z.2)]
theorem s_inI (d : Nat) (st : zS) (y v : Int32) (hv : 0 ≤ v.toInt ∧ v.toInt ≤ 40) : m_evc (d + 1) 155 [.long y.toInt64, .long 0, .long (v - 1).toInt64] (SH, st) = some (some (.int (bZ (0 ≤ y.toInt ∧ y.toInt < v.toInt))), (SH, st)) := by
  have e1 : (v - 1).toInt = v.toInt - 1 := by
    rw [Int32.toInt_sub]
    have : (1 : Int32).toInt = 1 := rfl
    rw [this]
    apply Int.bmod_eq_of_le <;> omega
  have z0 : (0 : Int64).toInt = 0 := rfl
  rw [s_inb, Int32.toInt_toInt64, e1, z0]
  rw [bZ_c (show (0 ≤ y.toInt ∧ y.toInt ≤ v.toInt - 1) ↔ (0 ≤ y.toInt ∧ y.toInt < v.toInt) by omega)]
/-- what a number becomes in a row of a sort -/
def nw (k v : Int32) : Int32 := if k = 0 then v.toInt8.toInt32 else if k = 1 then v.toInt16.toInt32 else if k = 4 then (if v = 0 then 0 else 1) else v
theorem x_nw (d : Nat) (st : zS) (k v : Int32) : m_evc (d + 1) 149 [.int k, .int v] (SH, st) = some (some (.int (nw k v)), (SH, st)) := by
  rw [cal_X11_narrowed, eX11_narrowed_0]
  have ec : m_case k [[0, 36], [1, 39], [2, 52], [3, 52], [4, 42]] 52 = if k = 0 then 36 else if k = 1 then 39 else if k = 2 then 52 else if k = 3 then 52 else if k = 4 then 42 else 52 := rfl
  rw [ec]
  unfold nw
  by_cases h0 : k = 0
  · rw [if_pos h0, if_pos h0, eX11_narrowed_36]
  rw [if_neg h0, if_neg h0]
  by_cases h1 : k = 1
  · rw [if_pos h1, if_pos h1, eX11_narrowed_39]
  rw [if_neg h1, if_neg h1]
  by_cases h4 : k = 4
  · subst h4
    rw [if_neg (by decide), if_neg (by decide), if_pos rfl, if_pos rfl, eX11_narrowed_42]
    by_cases hv : v = 0
    · rw [if_pos hv, if_pos hv, eX11_narrowed_50, eX11_narrowed_51]
    · rw [if_neg hv, if_neg hv, eX11_narrowed_51]
  · rw [if_neg h4, if_neg h4]
    by_cases h2 : k = 2
    · rw [if_pos h2, eX11_narrowed_52]
    · rw [if_neg h2]
      by_cases h3 : k = 3
      · rw [if_pos h3, eX11_narrowed_52]
      · rw [if_neg h3, eX11_narrowed_52]
theorem m_nw (d : Nat) (st : zS) (k v : Int32) : m_evc (d + 1) 246 [.int k, .int v] (SH, st) = some (some (.int (nw k v)), (SH, st)) := by
  rw [cal_X12_narrowed, eX12_narrowed_0]
  unfold nw
  by_cases h0 : k = 0
  · rw [if_pos h0, if_pos h0, eX12_narrowed_37]
  rw [if_neg h0, if_neg h0, eX12_narrowed_9]
  by_cases h1 : k = 1
  · rw [if_pos h1, if_pos h1, eX12_narrowed_37]
  rw [if_neg h1, if_neg h1, eX12_narrowed_19]
  by_cases h4 : k = 4
  · rw [if_pos h4, if_pos h4]
    by_cases hv : v = 0
    · rw [if_pos hv, if_pos hv, eX12_narrowed_37]
    · rw [if_neg hv, if_neg hv, eX12_narrowed_32, eX12_narrowed_37]
  · rw [if_neg h4, if_neg h4, eX12_narrowed_36, eX12_narrowed_37]
abbrev gY (st : zS) (q : Nat) (y : Int32) : Prop := 0 ≤ y.toInt ∧ y.toInt < (st 67 q).toInt
theorem gY_e {st : zS} {q : Nat} {y : Int32} (h : gY st q y) (hl : (st 67 q).toInt ≤ 40) : ∃ i, i < 40 ∧ y = Int32.ofNat i := by
  obtain ⟨a, b, c⟩ := n_of (x := y) (by rw [i_le]; exact h.1)
  exact ⟨_, by have := h.2; omega, a⟩
theorem r_write (x y v : Int32) : lw_C Rel 138 247 [.int x, .int y, .int v] := by
  intro st hR
  have hS := hR.2.2.2.1
  by_cases h : gR 0 3 x
  · have hh := h
    obtain ⟨q, hq, rfl⟩ := gR_e3 h
    obtain ⟨s1, s2, s3⟩ := hS q hq
    have X : m_evc 2047 138 [.ref 0, .int (Int32.ofNat q), .int y, .int v] (SH, st) = if st 66 q = -1 then some (some (.int (-11)), (SH, st)) else if gY st q y then m_ev none 2046 138 34 [some (.ref 0), some (.int (Int32.ofNat q)), some (.int y), some (.int v)] [] (SH, st) else some (some (.int (-12)), (SH, st)) := by
      rw [cal_X11_write 2046, eX11_write_0, x_isSh 2045, bZ_t hh]
      simp only [m_bd, Option.toList, List.cons_append, List.nil_append]
      rw [eX11_write_4, if_neg i_10, eX11_write_9, ix_4 hq, ob_s]
      by_cases h1 : st 66 q = -1
      · rw [if_pos h1, if_pos h1]
      · rw [if_neg h1, if_neg h1, eX11_write_22, x_isI 2045 st hq]
        simp only [m_bd, Option.toList, List.cons_append, List.nil_append]
        rw [eX11_write_28, bZ_if]
    have M : ∀ a : zS, a 95 = st 95 → a 96 = st 96 → m_evc 2047 247 [.ref 85, .int (Int32.ofNat q), .int y, .int v] (SH, a) = if st 66 q = -1 then some (some (.int (-11)), (SH, a)) else if gY st q y then m_ev none 2046 247 42 [some (.ref 85), some (.int (Int32.ofNat q)), some (.int y), some (.int v)] [] (SH, a) else some (some (.int (-12)), (SH, a)) := by
      intro a e95 e96
      rw [cal_X12_write 2046, eX12_write_0, m_isOne 2044, bZ_t hh]
      simp only [m_bd, Option.toList, List.cons_append, List.nil_append]
      rw [eX12_write_4, if_neg i_10, eX12_write_9, ix_4 hq, ob_s, e95, ← s1]
      by_cases h1 : st 66 q = -1
      · rw [if_pos h1, if_pos ((c_m1 s2.1).mpr h1)]
      · obtain ⟨l1, l2, l3⟩ := s3 h1
        rw [if_neg h1, if_neg (fun w => h1 ((c_m1 s2.1).mp w)), eX12_write_21, ix_4 hq, ob_s, e96, ← l1, s_inI 2045 a y _ l2]
        simp only [m_bd, Option.toList, List.cons_append, List.nil_append]
        rw [eX12_write_36, bZ_if]
    by_cases h1 : st 66 q = -1
    · rw [if_pos h1] at X
      exact lw_bad hR X (by rw [M st rfl rfl, if_pos h1])
    · obtain ⟨l1, l2, l3⟩ := s3 h1
      rw [if_neg h1] at X
      by_cases h2 : gY st q y
      · rw [if_pos h2] at X
        have hy := h2
        obtain ⟨i, hi, rfl⟩ := gY_e h2 l2.2
        rw [eX11_write_34, ix_4 hq, ob_s, gwrite_40 _ _ _ _ _ hq, ix_4 hq, ob_s, x_nw 2045] at X
        simp only [m_bd, Option.toList, List.cons_append, List.nil_append] at X
        rw [gwrite_51 _ _ _ _ _ _ _ hq, ix_40 hi, ob_s] at X
        refine ⟨1, _, m_up (m_up st (69 + q) i (nw (st 66 q) v)) 97 (40 * q + i) (nw (st 66 q) v), X, ?_, ?_⟩
        · rw [M _ (up_ne (by omega)) (up_ne (by omega)), if_neg h1, if_pos hy, eX12_write_42, ix_4 hq, ob_s, up_ne (show 95 ≠ 69 + q by omega), m_nw 2045, ← s1]
          simp only [m_bd, Option.toList, List.cons_append, List.nil_append]
          rw [eX12_write_62, ix_S hq hi, ob_s]
        · have F : fr [66, 67, 69, 70, 71, 72, 95, 96, 97] st (m_up (m_up st (69 + q) i (nw (st 66 q) v)) 97 (40 * q + i) (nw (st 66 q) v)) := fr_up (fr_up (fr_refl _ _) (by simp; omega)) rfl
          refine Rel_sheet hR F (fun p hp => ?_)
          rw [up_ne (show 66 ≠ 97 by decide), up_ne (show 66 ≠ 69 + q by omega), up_ne (show 95 ≠ 97 by decide), up_ne (show 95 ≠ 69 + q by omega), up_ne (show 67 ≠ 97 by decide), up_ne (show 67 ≠ 69 + q by omega), up_ne (show 96 ≠ 97 by decide), up_ne (show 96 ≠ 69 + q by omega), up_ne (show 69 + p ≠ 97 by omega)]
          obtain ⟨t1, t2, t3⟩ := hS p hp
          refine ⟨t1, t2, fun w => ⟨(t3 w).1, (t3 w).2.1, fun j hj => ?_⟩⟩
          by_cases qp : p = q
          · subst qp
            by_cases ij : j = i
            · subst ij; rw [up_in, up_in]
            · rw [up_nj ij, up_nj (by omega), up_ne (by omega)]; exact (t3 w).2.2 j hj
          · rw [up_ne (by omega), up_nj (by omega), up_ne (by omega)]; exact (t3 w).2.2 j hj
      · rw [if_neg h2] at X
        exact lw_bad hR X (by rw [M st rfl rfl, if_neg h1, if_neg h2])
  · refine lw_bad hR (r := -1) ?_ ?_
    · rw [cal_X11_write 2046, eX11_write_0, x_isSh 2045, bZ_f h]
      simp only [m_bd, Option.toList, List.cons_append, List.nil_append]
      rw [eX11_write_4, if_pos rfl]
    · rw [cal_X12_write 2046, eX12_write_0, m_isOne 2044, bZ_f h]
      simp only [m_bd, Option.toList, List.cons_append, List.nil_append]
      rw [eX12_write_4, if_pos rfl]
theorem m_wrong (d : Nat) (st : zS) (hS : Rsheet st) {q : Nat} (hq : q < 4) (y : Int32) : m_evc (d + 1) 248 [.ref 85, .int (Int32.ofNat q), .int y] (SH, st) = some (some (.int (if st 66 q = -1 then -11 else if st 66 q = y then 0 else -13)), (SH, st)) := by
  obtain ⟨s1, s2, s3⟩ := hS q hq
  rw [cal_X12_wrong, eX12_wrong_0, ix_4 hq, ob_s, ← s1]
  by_cases h1 : st 66 q = -1
  · rw [if_pos ((c_m1 s2.1).mpr h1), if_pos h1, eX12_wrong_30]
  · rw [if_neg (fun w => h1 ((c_m1 s2.1).mp w)), if_neg h1, eX12_wrong_14, ix_4 hq, ob_s, ← s1]
    by_cases h2 : st 66 q = y
    · rw [if_pos h2, if_pos h2, eX12_wrong_29, eX12_wrong_30]
    · rw [if_neg h2, if_neg h2, eX12_wrong_30]
theorem r_item (x y z : Int32) : lw_C Rel 139 249 [.int x, .int y, .int z] := by
  intro st hR
  have hS := hR.2.2.2.1
  by_cases h : gR 0 3 x ∧ gR 0 4 y
  · obtain ⟨hx, hy⟩ := h
    have hh := hx
    obtain ⟨q, hq, rfl⟩ := gR_e3 hx
    obtain ⟨s1, s2, s3⟩ := hS q hq
    refine lw_bad hR (r := if st 66 q = -1 then -11 else if st 66 q = y then (if gY st q z then st (69 + q) z.toNatClampNeg else -12) else -13) ?_ ?_
    · rw [cal_X11_item 2046, eX11_item_0, x_isSh 2045, bZ_t hh]
      simp only [m_bd, Option.toList, List.cons_append, List.nil_append]
      rw [eX11_item_4, if_neg i_10, x_isSt 2045, bZ_t hy]
      simp only [m_bd, Option.toList, List.cons_append, List.nil_append]
      rw [eX11_item_11, if_neg i_10, eX11_item_16, ix_4 hq, ob_s]
      by_cases h1 : st 66 q = -1
      · rw [if_pos h1, if_pos h1]
      · rw [if_neg h1, if_neg h1, eX11_item_29, ix_4 hq, ob_s]
        by_cases h2 : st 66 q = y
        · rw [if_pos h2, if_pos h2, eX11_item_42, x_isI 2045 st hq]
          simp only [m_bd, Option.toList, List.cons_append, List.nil_append]
          rw [eX11_item_48, bZ_if]
          by_cases h3 : gY st q z
          · have hz := h3
            obtain ⟨i, hi, rfl⟩ := gY_e h3 (s3 h1).2.1.2
            rw [if_pos hz, if_pos hz, ix_4 hq, ob_s, gitem_57 _ _ _ _ _ hq, ix_40 hi, ob_s, eX11_item_64, n_nat (by omega)]
          · rw [if_neg h3, if_neg h3, eX11_item_62, eX11_item_64]
        · rw [if_neg h2, if_neg h2]
    · rw [cal_X12_item 2046, eX12_item_0, m_isOne 2044, bZ_t hh]
      simp only [m_bd, Option.toList, List.cons_append, List.nil_append]
      rw [eX12_item_4, if_neg i_10, s_inb 2045, bZ_t (show (0 : Int64).toInt ≤ y.toInt ∧ y.toInt ≤ (4 : Int64).toInt from hy)]
      simp only [m_bd, Option.toList, List.cons_append, List.nil_append]
      rw [eX12_item_16, if_neg i_10, eX12_item_21, m_wrong 2045 st hS hq]
      simp only [m_bd, Option.toList, List.cons_append, List.nil_append]
      rw [eX12_item_27]
      by_cases h1 : st 66 q = -1
      · rw [if_pos h1, if_neg (by decide), eX12_item_73, if_pos h1]
      · rw [if_neg h1]
        by_cases h2 : st 66 q = y
        · obtain ⟨l1, l2, l3⟩ := s3 h1
          rw [if_pos h2, if_pos rfl, eX12_item_39, ix_4 hq, ob_s, ← l1, s_inI 2045 st z _ l2]
          simp only [m_bd, Option.toList, List.cons_append, List.nil_append]
          rw [eX12_item_54, bZ_if]
          by_cases h3 : gY st q z
          · have hz := h3
            obtain ⟨i, hi, rfl⟩ := gY_e h3 l2.2
            rw [if_pos hz, if_pos hz, ix_S hq hi, ob_s, eX12_item_73, n_nat (by omega), l3 i hi, if_neg h1, if_pos h2]
          · rw [if_neg h3, if_neg h3, eX12_item_71, eX12_item_73, if_neg h1, if_pos h2]
        · rw [if_neg h2, if_neg (by decide), eX12_item_73, if_neg h1, if_neg h2]
  · refine lw_bad hR (r := -1) ?_ ?_
    · rw [cal_X11_item 2046, eX11_item_0, x_isSh 2045]
      simp only [m_bd, Option.toList, List.cons_append, List.nil_append]
      rw [eX11_item_4, bZ_if]
      by_cases h1 : gR 0 3 x
      · rw [if_pos h1, x_isSt 2045, bZ_f (fun w => h ⟨h1, w⟩)]
        simp only [m_bd, Option.toList, List.cons_append, List.nil_append]
        rw [eX11_item_11, if_pos rfl, eX11_item_14]
      · rw [if_neg h1, eX11_item_14]
    · rw [cal_X12_item 2046, eX12_item_0, m_isOne 2044]
      simp only [m_bd, Option.toList, List.cons_append, List.nil_append]
      rw [eX12_item_4, bZ_if]
      by_cases h1 : gR 0 3 x
      · rw [if_pos h1, s_inb 2045, bZ_f (show ¬ ((0 : Int64).toInt ≤ y.toInt ∧ y.toInt ≤ (4 : Int64).toInt) from fun w => h ⟨h1, w⟩)]
        simp only [m_bd, Option.toList, List.cons_append, List.nil_append]
        rw [eX12_item_16, if_pos rfl, eX12_item_19]
      · rw [if_neg h1, eX12_item_19]
