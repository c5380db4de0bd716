/-! CALLS of the host: shelf, taken -/
theorem Rel_shelf {st st' : zS} (h : Rel st) (f : fr [73, 74, 75, 98, 99, 100] st st') (hs : Rshelf st') : Rel st' := by
  obtain ⟨a, b, c, d, e, g, i⟩ := h
  have e0 : st' 0 = st 0 := f 0 rfl
  have e85 : st' 85 = st 85 := f 85 rfl
  have e35 : st' 35 = st 35 := f 35 rfl
  exact ⟨Rnow_fr f rfl a, Rkept_fr f rfl (by rw [e0]) (by rw [e85]) b, Rrows_fr f rfl (by rw [e0]) (by rw [e85]) c, Rsheet_fr f rfl d, hs, Rtrace_fr f rfl (by rw [e85]) g, Rtape_fr f rfl (by rw [e35]) (by rw [e85]) i⟩
theorem gR_02 {y : Int32} (h : gR 0 2 y) : y = 0 ∨ y = 1 ∨ y = 2 := by
  obtain ⟨a, b, c⟩ := gR_n h (by omega)
  have : y.toNatClampNeg = 0 ∨ y.toNatClampNeg = 1 ∨ y.toNatClampNeg = 2 := by omega
  rcases this with q | q | q <;> rw [q] at a
  · exact Or.inl a
  · exact Or.inr (Or.inl a)
  · exact Or.inr (Or.inr a)
theorem r_shelf (x y z : Int32) : lw_C Rel 141 251 [.int x, .int y, .int z] := by
  intro st hR
  obtain ⟨hN, hV, h7, e0⟩ := Rel_x hR
  have hS := hR.2.2.2.1
  have hF := hR.2.2.2.2.1
  have cX : m_case y [[0, 36], [1, 65], [2, 121]] 130 = if y = 0 then 36 else if y = 1 then 65 else if y = 2 then 121 else 130 := rfl
  by_cases hx : gR 0 3 x
  · have hh := hx
    obtain ⟨q, hq, rfl⟩ := gR_e3 hx
    have X : m_evc 2047 141 [.ref 0, .int (Int32.ofNat q), .int y, .int z] (SH, st) = m_ev none 2046 141 (if y = 0 then 36 else if y = 1 then 65 else if y = 2 then 121 else 130) [some (.ref 0), some (.int (Int32.ofNat q)), some (.int y), some (.int z)] [] (SH, st) := by
      rw [cal_X11_shelf 2046, eX11_shelf_0, x_isSf 2045, bZ_t hh]
      simp only [m_bd, Option.toList, List.cons_append, List.nil_append]
      rw [eX11_shelf_4, if_neg i_10, eX11_shelf_9, cX]
    have M : ∀ a : zS, m_evc 2047 251 [.ref 85, .int (Int32.ofNat q), .int y, .int z] (SH, a) = if gR 0 2 y then (if y = 0 then (m_bd (m_evc 2046 156 [.ref 85, .int z] (SH, a)) fun w h => m_ev none 2046 251 28 [some (.ref 85), some (.int (Int32.ofNat q)), some (.int y), some (.int z)] (w.toList ++ []) h) else m_ev none 2046 251 31 [some (.ref 85), some (.int (Int32.ofNat q)), some (.int y), some (.int z)] [] (SH, a)) else some (some (.int (-1)), (SH, a)) := by
      intro a
      rw [cal_X12_shelf 2046, eX12_shelf_0, m_isOne 2044, bZ_t hh]
      simp only [m_bd, Option.toList, List.cons_append, List.nil_append]
      rw [eX12_shelf_4, if_neg i_10, s_inb 2045]
      simp only [m_bd, Option.toList, List.cons_append, List.nil_append]
      rw [eX12_shelf_16, bZ_if]
      by_cases h : gR 0 2 y
      · rw [if_pos (show (0 : Int64).toInt ≤ y.toInt ∧ y.toInt ≤ (2 : Int64).toInt from h), if_pos h]
        simp only [m_bd, Option.toList, List.cons_append, List.nil_append]
      · rw [if_neg (show ¬ ((0 : Int64).toInt ≤ y.toInt ∧ y.toInt ≤ (2 : Int64).toInt) from h), if_neg h, eX12_shelf_43]
    by_cases hy : gR 0 2 y
    · rcases gR_02 hy with rfl | rfl | rfl
      · rw [if_pos rfl, eX11_shelf_36, s_isTowX 2045 st e0 hV.1] at X
        simp only [m_bd, Option.toList, List.cons_append, List.nil_append] at X
        rw [eX11_shelf_44, bZ_if] at X
        by_cases hz : gT (st 86) z
        · rw [if_pos hz, eX11_shelf_49, ix_4 hq, ob_s, ob_s] at X
          refine ⟨1, _, m_up (m_up (m_up (m_up (m_up st 73 q 0) 74 q z) 98 q 1) 99 q z) 100 q 0, X, ?_, ?_⟩
          · rw [M, if_pos hy, if_pos rfl, s_isTM0 2044 _ (show VN (m_up (m_up st 73 q 0) 74 q z 86) from hV), show m_up (m_up st 73 q 0) 74 q z 86 = st 86 from rfl, bZ_t hz]
            simp only [m_bd, Option.toList, List.cons_append, List.nil_append]
            rw [eX12_shelf_28, if_neg i_10, eX12_shelf_31, if_neg (by decide), eX12_shelf_45, if_pos rfl, eX12_shelf_77, ix_4 hq, ob_s, if_pos rfl, eX12_shelf_106, ix_4 hq, ob_s, if_neg (by decide), eX12_shelf_126, eX12_shelf_127, ix_4 hq, ob_s]
          · refine Rel_shelf hR (fr_up (fr_up (fr_up (fr_up (fr_up (fr_refl _ _) rfl) rfl) rfl) rfl) rfl) (fun p hp => ?_)
            simp only [up_ap2]
            by_cases qp : p = q
            · subst qp; simp
            · simpa [qp] using hF p hp
        · rw [if_neg hz] at X
          refine lw_bad hR X ?_
          rw [M, if_pos hy, if_pos rfl, s_isTM0 2044 _ hV, bZ_f hz]
          simp only [m_bd, Option.toList, List.cons_append, List.nil_append]
          rw [eX12_shelf_28, if_pos rfl, eX12_shelf_43]
      · rw [if_neg (by decide), if_pos rfl, eX11_shelf_65, x_isSh 2045] at X
        simp only [m_bd, Option.toList, List.cons_append, List.nil_append] at X
        rw [eX11_shelf_69, bZ_if] at X
        by_cases hz : gR 0 3 z
        · have hz' := hz
          obtain ⟨p, hp, rfl⟩ := gR_e3 hz
          obtain ⟨s1, s2, s3⟩ := hS p hp
          rw [if_pos hz', eX11_shelf_74, ix_4 hp, ob_s] at X
          by_cases h1 : st 66 p = -1
          · rw [if_pos h1, eX11_shelf_94, ix_4 hq, ix_4 hp] at X
            simp only [ob_s] at X
            refine ⟨1, _, m_up (m_up (m_up (m_up (m_up (m_up st 73 q 2) 74 q (st 66 p)) 75 q (st 67 p)) 98 q 0) 99 q (st 96 p)) 100 q (st 95 p), X, ?_, ?_⟩
            · rw [M, if_pos hy, if_neg (by decide), eX12_shelf_31, if_pos rfl, m_isOne 2044, bZ_t hz']
              simp only [m_bd, Option.toList, List.cons_append, List.nil_append]
              rw [eX12_shelf_40, if_neg i_10, eX12_shelf_45, if_neg (by decide), eX12_shelf_58, if_pos rfl, ix_4 hp, ob_s, if_pos (show m_up (m_up (m_up st 73 q 2) 74 q (st 66 p)) 75 q (st 67 p) 95 p < 0 from (show st 95 p < 0 by rw [← s1]; exact (c_m1 s2.1).mpr h1)), eX12_shelf_76, eX12_shelf_77, ix_4 hq, ob_s, if_neg (by decide), eX12_shelf_91, if_pos rfl, ix_4 hp, ob_s, eX12_shelf_106, ix_4 hq, ob_s, if_pos rfl, ix_4 hp, ob_s, eX12_shelf_127, ix_4 hq, ob_s]
              rfl
            · refine Rel_shelf hR (fr_up (fr_up (fr_up (fr_up (fr_up (fr_up (fr_refl _ _) rfl) rfl) rfl) rfl) rfl) rfl) (fun r hr => ?_)
              simp only [up_ap2]
              by_cases qp : r = q
              · subst qp; simp
              · simpa [qp] using hF r hr
          · obtain ⟨l1, l2, l3⟩ := s3 h1
            rw [if_neg h1, eX11_shelf_93, eX11_shelf_94, ix_4 hq, ix_4 hp] at X
            simp only [ob_s] at X
            refine ⟨1, _, m_up (m_up (m_up (m_up (m_up (m_up st 73 q 1) 74 q (st 66 p)) 75 q (st 67 p)) 98 q 2) 99 q (st 96 p)) 100 q (st 95 p), X, ?_, ?_⟩
            · rw [M, if_pos hy, if_neg (by decide), eX12_shelf_31, if_pos rfl, m_isOne 2044, bZ_t hz']
              simp only [m_bd, Option.toList, List.cons_append, List.nil_append]
              rw [eX12_shelf_40, if_neg i_10, eX12_shelf_45, if_neg (by decide), eX12_shelf_58, if_pos rfl, ix_4 hp, ob_s, if_neg (show ¬ m_up (m_up (m_up st 73 q 1) 74 q (st 66 p)) 75 q (st 67 p) 95 p < 0 from (show ¬ st 95 p < 0 by rw [← s1]; exact fun w => h1 ((c_m1 s2.1).mp w))), eX12_shelf_77, ix_4 hq, ob_s, if_neg (by decide), eX12_shelf_91, if_pos rfl, ix_4 hp, ob_s, eX12_shelf_106, ix_4 hq, ob_s, if_pos rfl, ix_4 hp, ob_s, eX12_shelf_127, ix_4 hq, ob_s]
              rfl
            · refine Rel_shelf hR (fr_up (fr_up (fr_up (fr_up (fr_up (fr_up (fr_refl _ _) rfl) rfl) rfl) rfl) rfl) rfl) (fun r hr => ?_)
              simp only [up_ap2]
              by_cases qp : r = q
              · subst qp; simp [s1, l1]
              · simpa [qp] using hF r hr
        · rw [if_neg hz] at X
          refine lw_bad hR X ?_
          rw [M, if_pos hy, if_neg (by decide), eX12_shelf_31, if_pos rfl, m_isOne 2044, bZ_f hz]
          simp only [m_bd, Option.toList, List.cons_append, List.nil_append]
          rw [eX12_shelf_40, if_pos rfl, eX12_shelf_43]
      · rw [if_neg (by decide), if_neg (by decide), if_pos rfl, eX11_shelf_121, ix_4 hq, ob_s] at X
        refine ⟨1, _, m_up (m_up (m_up (m_up st 73 q 2) 98 q 0) 99 q 0) 100 q 0, X, ?_, ?_⟩
        · rw [M, if_pos hy, if_neg (by decide), eX12_shelf_31, if_neg (by decide), eX12_shelf_45, if_neg (by decide), eX12_shelf_58, if_neg (by decide), eX12_shelf_76, eX12_shelf_77, ix_4 hq, ob_s, if_neg (by decide), eX12_shelf_91, if_neg (by decide), eX12_shelf_105, eX12_shelf_106, ix_4 hq, ob_s, if_neg (by decide), eX12_shelf_126, eX12_shelf_127, ix_4 hq, ob_s]
        · refine Rel_shelf hR (fr_up (fr_up (fr_up (fr_up (fr_refl _ _) rfl) rfl) rfl) rfl) (fun r hr => ?_)
          simp only [up_ap2]
          by_cases qp : r = q
          · subst qp; simp
          · simpa [qp] using hF r hr
    · have y0 : y ≠ 0 := fun w => hy (by subst w; exact ⟨by decide, by decide⟩)
      have y1 : y ≠ 1 := fun w => hy (by subst w; exact ⟨by decide, by decide⟩)
      have y2 : y ≠ 2 := fun w => hy (by subst w; exact ⟨by decide, by decide⟩)
      rw [if_neg y0, if_neg y1, if_neg y2, eX11_shelf_130] at X
      exact lw_bad hR X (by rw [M, if_neg hy])
  · refine lw_bad hR (r := -1) ?_ ?_
    · rw [cal_X11_shelf 2046, eX11_shelf_0, x_isSf 2045, bZ_f hx]
      simp only [m_bd, Option.toList, List.cons_append, List.nil_append]
      rw [eX11_shelf_4, if_pos rfl]
    · rw [cal_X12_shelf 2046, eX12_shelf_0, m_isOne 2044, bZ_f hx]
      simp only [m_bd, Option.toList, List.cons_append, List.nil_append]
      rw [eX12_shelf_4, if_pos rfl, eX12_shelf_43]
abbrev tOn (st : zS) (q : Nat) : Prop := st 73 q = 0 ∧ gT (st 86) (st 74 q)
theorem x_ton (d : Nat) (st : zS) (hR : Rel st) {q : Nat} (hq : q < 4) : m_evc (d + 2) 151 [.ref 0, .int (Int32.ofNat q)] (SH, st) = some (some (.int (bZ (tOn st q))), (SH, st)) := by
  obtain ⟨hN, hV, h7, e0⟩ := Rel_x hR
  rw [cal_X11_isTowerOnShelf, eX11_isTowerOnShelf_0, ix_4 hq, ob_s]
  by_cases h1 : st 73 q = 0
  · rw [if_pos h1, ob_s, s_isTowX d st e0 hV.1]
    simp only [m_bd, Option.toList, List.cons_append, List.nil_append]
    rw [eX11_isTowerOnShelf_22, bZ_if]
    by_cases h2 : gT (st 86) (st 74 q)
    · rw [if_pos h2, eX11_isTowerOnShelf_30, if_pos (Or.inr rfl), bZ_t (show tOn st q from ⟨h1, h2⟩)]
    · rw [if_neg h2, eX11_isTowerOnShelf_29, eX11_isTowerOnShelf_30, if_pos (Or.inl rfl), bZ_f (fun w => h2 w.2)]
  · rw [if_neg h1, eX11_isTowerOnShelf_29, eX11_isTowerOnShelf_30, if_pos (Or.inl rfl), bZ_f (fun w => h1 w.1)]
theorem m_ton (d : Nat) (st : zS) (hR : Rel st) {q : Nat} (hq : q < 4) : m_evc (d + 3) 252 [.ref 85, .int (Int32.ofNat q)] (SH, st) = some (some (.int (if tOn st q then st 74 q else -1)), (SH, st)) := by
  obtain ⟨hN, hV, h7, e0⟩ := Rel_x hR
  have hq3 : gR 0 3 (Int32.ofNat q) := ⟨by rw [n_int (by omega)]; omega, by rw [n_int (by omega)]; omega⟩
  rw [cal_X12_onShelf, eX12_onShelf_0, m_isOne d, bZ_t hq3]
  simp only [m_bd, Option.toList, List.cons_append, List.nil_append]
  rw [eX12_onShelf_4, if_neg i_10, ix_4 hq, ob_s]
  rcases hR.2.2.2.2.1 q hq with ⟨a, b⟩ | ⟨a, b, c⟩ | ⟨a, b, c, e⟩
  · rw [b, if_neg (by decide), eX12_onShelf_39, eX12_onShelf_40, if_neg]
    rintro ⟨w, _⟩; rw [a] at w; exact absurd w (by decide)
  · rw [b, if_pos rfl, ob_s, s_isTowM d st hV.1.1 hV.1.2]
    simp only [m_bd, Option.toList, List.cons_append, List.nil_append]
    rw [eX12_onShelf_27, bZ_if, ← c]
    by_cases h2 : gT (st 86) (st 74 q)
    · rw [if_pos h2, ix_4 hq, ob_s, eX12_onShelf_40, ← c, if_pos ⟨a, h2⟩]
    · rw [if_neg h2, eX12_onShelf_39, eX12_onShelf_40, if_neg (fun w => h2 w.2)]
  · rw [b, if_neg (by decide), eX12_onShelf_39, eX12_onShelf_40, if_neg]
    rintro ⟨w, _⟩; rw [a] at w; exact absurd w (by decide)
theorem x_sub10 (y : Int32) : gR 0 4 (y - 10) ↔ gR 10 14 y := by
  have h1 := Int32.le_toInt y
  have h2 := Int32.toInt_lt y
  have e : (y - 10).toInt = (y.toInt - 10).bmod (2 ^ 32) := by
    rw [Int32.toInt_sub]; rfl
  show (0 ≤ (y - 10).toInt ∧ (y - 10).toInt ≤ 4) ↔ (10 ≤ y.toInt ∧ y.toInt ≤ 14)
  by_cases h : -2147483648 ≤ y.toInt - 10
  · rw [e, Int.bmod_eq_of_le (by omega) (by omega)]; omega
  · rw [e]
    have : (y.toInt - 10).bmod (2 ^ 32) = y.toInt - 10 + 4294967296 := by
      rw [Int.bmod_def]
      split <;> omega
    rw [this]; omega
abbrev gK (y : Int32) : Prop := gR 0 5 y ∨ gR 10 14 y
theorem r_taken (x y : Int32) : lw_C Rel 142 253 [.int x, .int y] := by
  intro st hR
  obtain ⟨hN, hV, h7, e0⟩ := Rel_x hR
  have h9 := hV.1.2
  have z0 : (0 : Int32).toInt = 0 := rfl
  have z5 : (5 : Int32).toInt = 5 := rfl
  have X0 : m_evc 2047 142 [.ref 0, .int x, .int y] (SH, st) = if gR 0 3 x ∧ gK y then m_ev none 2046 142 38 [some (.ref 0), some (.int x), some (.int y), some (.int (bZ (gR 0 5 y))), none] [] (SH, st) else some (some (.int (-1)), (SH, st)) := by
    have s1 : m_evc 2047 142 [.ref 0, .int x, .int y] (SH, st) = m_ev none 2046 142 14 [some (.ref 0), some (.int x), some (.int y), none, none] [.int (bZ (gR 0 5 y))] (SH, st) := by
      rw [cal_X11_taken 2046, eX11_taken_0, gR_if]
      by_cases h : gR 0 5 y
      · rw [if_pos (show gR (0 : Int32).toInt (5 : Int32).toInt y from h), bZ_t h]
      · rw [if_neg (show ¬ gR (0 : Int32).toInt (5 : Int32).toInt y from h), bZ_f h, eX11_taken_13]
    rw [s1, eX11_taken_14, x_isSf 2045]
    simp only [m_bd, Option.toList, List.cons_append, List.nil_append]
    rw [eX11_taken_19, bZ_if]
    by_cases h1 : gR 0 3 x
    · rw [if_pos h1, bZ_if]
      by_cases h2 : gR 0 5 y
      · rw [if_pos h2, if_pos (show gR 0 3 x ∧ gK y from ⟨h1, Or.inl h2⟩)]
      · rw [if_neg h2, x_isSt 2045]
        simp only [m_bd, Option.toList, List.cons_append, List.nil_append]
        rw [eX11_taken_33, bZ_if]
        by_cases h3 : gR 10 14 y
        · rw [if_pos ((x_sub10 y).mpr h3), if_pos (show gR 0 3 x ∧ gK y from ⟨h1, Or.inr h3⟩)]
        · rw [if_neg (fun w => h3 ((x_sub10 y).mp w)), if_neg (show ¬ (gR 0 3 x ∧ gK y) from fun w => w.2.elim h2 h3), eX11_taken_36]
    · rw [if_neg h1, if_neg (fun w => h1 w.1), eX11_taken_36]
  have M0 : m_evc 2047 253 [.ref 85, .int x, .int y] (SH, st) = if gR 0 3 x ∧ gK y then m_ev none 2046 253 35 [some (.ref 85), some (.int x), some (.int y), none, none] [] (SH, st) else some (some (.int (-1)), (SH, st)) := by
    rw [cal_X12_taken 2046, eX12_taken_0, m_isOne 2044]
    simp only [m_bd, Option.toList, List.cons_append, List.nil_append]
    rw [eX12_taken_4, bZ_if]
    by_cases h1 : gR 0 3 x
    · rw [if_pos h1, s_inb 2045]
      simp only [m_bd, Option.toList, List.cons_append, List.nil_append]
      rw [eX12_taken_16, bZ_if]
      by_cases h2 : gR 0 5 y
      · rw [if_pos (show (0 : Int64).toInt ≤ y.toInt ∧ y.toInt ≤ (5 : Int64).toInt from h2), if_pos (show gR 0 3 x ∧ gK y from ⟨h1, Or.inl h2⟩)]
      · rw [if_neg (show ¬ ((0 : Int64).toInt ≤ y.toInt ∧ y.toInt ≤ (5 : Int64).toInt) from h2), s_inb 2045]
        simp only [m_bd, Option.toList, List.cons_append, List.nil_append]
        rw [eX12_taken_30, bZ_if]
        by_cases h3 : gR 10 14 y
        · rw [if_pos (show (10 : Int64).toInt ≤ y.toInt ∧ y.toInt ≤ (14 : Int64).toInt from h3), if_pos (show gR 0 3 x ∧ gK y from ⟨h1, Or.inr h3⟩)]
        · rw [if_neg (show ¬ ((10 : Int64).toInt ≤ y.toInt ∧ y.toInt ≤ (14 : Int64).toInt) from h3), if_neg (show ¬ (gR 0 3 x ∧ gK y) from fun w => w.2.elim h2 h3), eX12_taken_33]
    · rw [if_neg h1, if_neg (fun w => h1 w.1), eX12_taken_33]
  by_cases h : gR 0 3 x ∧ gK y
  · have hk := h.2
    obtain ⟨q, hq, rfl⟩ := gR_e3 h.1
    rw [if_pos h, eX11_taken_38, ix_4 hq, ob_s, x_ton 2044 st hR hq] at X0
    simp only [m_bd, Option.toList, List.cons_append, List.nil_append] at X0
    rw [eX11_taken_51, bZ_if] at X0
    rw [if_pos h, eX12_taken_35, m_ton 2043 st hR hq] at M0
    simp only [m_bd, Option.toList, List.cons_append, List.nil_append] at M0
    rw [eX12_taken_40] at M0
    have y6 : gR 0 5 y → y < 6 := fun w => by
      rw [i_lt]; have := w.2; have z6 : (6 : Int32).toInt = 6 := rfl
      omega
    have y6n : ¬ gR 0 5 y → ¬ y < 6 := fun w v => by
      rw [i_lt] at v; have z6 : (6 : Int32).toInt = 6 := rfl
      rcases hk with u | u
      · exact w u
      · have := u.1; omega
    by_cases ht : tOn st q
    · obtain ⟨k, hk', ek⟩ := gT_e ht.2
      have hn : ¬ st 74 q < 0 := by rw [ek, n_pos k (by omega)]; exact fun w => w
      have e99 : st 99 q = st 74 q := by
        rcases hR.2.2.2.2.1 q hq with ⟨a, b⟩ | ⟨a, b, c⟩ | ⟨a, b, c, e⟩
        · have := ht.1; rw [a] at this; exact absurd this (by decide)
        · exact c.symm
        · have := ht.1; rw [a] at this; exact absurd this (by decide)
      rw [if_pos ht, bZ_if] at X0
      simp only [if_pos ht] at M0
      rw [if_neg hn, eX12_taken_58, if_neg hn] at M0
      have ek2 : st 2 k = st 86 (12 + 6 * k) := (hN.2.2.2.1 k hk').1
      by_cases h5 : gR 0 5 y
      · rw [if_pos h5, ek, ix_9 (show k < 9 by omega), ob_s, s_isUnderX 2045, ek2] at X0
        simp only [m_bd, Option.toList, List.cons_append, List.nil_append] at X0
        rw [eX11_taken_72, bZ_if] at X0
        rw [if_pos (y6 h5), ek, s_its0 2044 st (show k < 9 by omega)] at M0
        simp only [m_bd, Option.toList, List.cons_append, List.nil_append] at M0
        rw [eX12_taken_74, s_isUnderM 2045] at M0
        simp only [m_bd, Option.toList, List.cons_append, List.nil_append] at M0
        rw [eX12_taken_78, bZ_if] at M0
        by_cases hu : uk (st 86 (12 + 6 * k)) y = true
        · rw [if_pos hu, eX11_taken_82] at X0
          rw [if_pos hu, eX12_taken_107, if_neg i_10, ix_4 hq, ob_s, eX12_taken_125, e99, ek] at M0
          exact lw_bad hR X0 M0
        · rw [if_neg hu, eX11_taken_80, eX11_taken_82] at X0
          rw [if_neg hu, eX12_taken_85, eX12_taken_107, if_pos rfl, eX12_taken_123, eX12_taken_125] at M0
          exact lw_bad hR X0 M0
      · rw [if_neg h5, eX11_taken_80, eX11_taken_82] at X0
        rw [if_neg (y6n h5), eX12_taken_85, eX12_taken_107, if_pos rfl, eX12_taken_123, eX12_taken_125] at M0
        exact lw_bad hR X0 M0
    · rw [if_neg ht, eX11_taken_83, ix_4 hq, ob_s] at X0
      simp only [if_neg ht] at M0
      rw [if_pos (show (-1 : Int32) < 0 by decide), ix_4 hq, ob_s] at M0
      rcases hR.2.2.2.2.1 q hq with ⟨a, b⟩ | ⟨a, b, c⟩ | ⟨a, b, c, e⟩
      · rw [a, if_neg (by decide), eX11_taken_114] at X0
        rw [b, if_pos (by decide)] at M0
        exact lw_bad hR X0 M0
      · rw [a, if_neg (by decide), eX11_taken_114] at X0
        rw [b, if_pos (by decide)] at M0
        exact lw_bad hR X0 M0
      · rw [a, if_pos rfl] at X0
        rw [b, if_neg (by decide), eX12_taken_58, if_pos (by decide), eX12_taken_89, ix_4 hq, ob_s, ← c] at M0
        by_cases hs : st 74 q = y - 10
        · rw [if_pos hs, ob_s, eX11_taken_113] at X0
          rw [if_pos hs.symm, eX12_taken_107, if_neg i_10, ix_4 hq, ob_s, eX12_taken_125, ← e] at M0
          exact lw_bad hR X0 M0
        · rw [if_neg hs, eX11_taken_111, eX11_taken_113] at X0
          rw [if_neg (fun w => hs w.symm), eX12_taken_106, eX12_taken_107, if_pos rfl, eX12_taken_123, eX12_taken_125] at M0
          exact lw_bad hR X0 M0
  · rw [if_neg h] at X0 M0
    exact lw_bad hR X0 M0
