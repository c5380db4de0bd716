/-! CALLS of the host: sheet, write, item -/
theorem gsheet_70 (d : Nat) (st : Nat → Nat → Int32) (x1 x2 x3 : Int32) {i : Nat} (hi : i < 4) : m_ev none d 137 70 [some (.ref 0), some (.int x1), some (.int x2), some (.int x3)] [va_rf (m_ri [some 69, some 70, some 71, some 72] i)] (SH, st) = m_bd (m_evc d 267 [va_rf (m_ri [some 69, some 70, some 71, some 72] i), .int 0] (SH, st)) fun w h => m_ev none d 137 74 [some (.ref 0), some (.int x1), some (.int x2), some (.int x3)] (w.toList ++ []) h := by
  have h : i = 0 ∨ i = 1 ∨ i = 2 ∨ i = 3 := by omega
  rcases h with rfl | rfl | rfl | rfl
  · exact eX11_sheet_70_v0 d st x1 x2 x3
  · exact eX11_sheet_70_v1 d st x1 x2 x3
  · exact eX11_sheet_70_v2 d st x1 x2 x3
  · exact eX11_sheet_70_v3 d st x1 x2 x3
theorem gwrite_40 (d : Nat) (st : Nat → Nat → Int32) (x1 x2 x3 : Int32) {i : Nat} (hi : i < 4) : m_ev none d 138 40 [some (.ref 0), some (.int x1), some (.int x2), some (.int x3)] [va_rf (m_ri [some 69, some 70, some 71, some 72] i)] (SH, st) = m_ob (m_ix x1 4) fun q1 => m_bd (m_evc d 149 [.int (st 66 q1), .int x3] (SH, st)) fun w h => m_ev none d 138 51 [some (.ref 0), some (.int x1), some (.int x2), some (.int x3)] (w.toList ++ [.int x2, va_rf (m_ri [some 69, some 70, some 71, some 72] i)]) h := by
  have h : i = 0 ∨ i = 1 ∨ i = 2 ∨ i = 3 := by omega
  rcases h with rfl | rfl | rfl | rfl
  · exact eX11_write_40_v0 d st x1 x2 x3
  · exact eX11_write_40_v1 d st x1 x2 x3
  · exact eX11_write_40_v2 d st x1 x2 x3
  · exact eX11_write_40_v3 d st x1 x2 x3
theorem gwrite_51 (d : Nat) (st : Nat → Nat → Int32) (x1 x2 x3 t0 t1 : Int32) {i : Nat} (hi : i < 4) : m_ev none d 138 51 [some (.ref 0), some (.int x1), some (.int x2), some (.int x3)] [.int t0, .int t1, va_rf (m_ri [some 69, some 70, some 71, some 72] i)] (SH, st) = m_ob (m_ix t1 40) fun q1 => some (some (.int 1), (SH, (m_up st (69 + i) q1 t0))) := by
  have h : i = 0 ∨ i = 1 ∨ i = 2 ∨ i = 3 := by omega
  rcases h with rfl | rfl | rfl | rfl
  · exact eX11_write_51_v0 d st x1 x2 x3 t0 t1
  · exact eX11_write_51_v1 d st x1 x2 x3 t0 t1
  · exact eX11_write_51_v2 d st x1 x2 x3 t0 t1
  · exact eX11_write_51_v3 d st x1 x2 x3 t0 t1
theorem gitem_57 (d : Nat) (st : Nat → Nat → Int32) (x1 x2 x3 : Int32) {i : Nat} (hi : i < 4) : m_ev none d 139 57 [some (.ref 0), some (.int x1), some (.int x2), some (.int x3)] [va_rf (m_ri [some 69, some 70, some 71, some 72] i)] (SH, st) = m_ob (m_ix x3 40) fun q1 => m_ev none d 139 64 [some (.ref 0), some (.int x1), some (.int x2), some (.int x3)] [.int (st (69 + i) q1)] (SH, st) := by
  have h : i = 0 ∨ i = 1 ∨ i = 2 ∨ i = 3 := by omega
  rcases h with rfl | rfl | rfl | rfl
  · exact eX11_item_57_v0 d st x1 x2 x3
  · exact eX11_item_57_v1 d st x1 x2 x3
  · exact eX11_item_57_v2 d st x1 x2 x3
  · exact eX11_item_57_v3 d st x1 x2 x3

theorem gfill (d : Nat) (st : zS) {q : Nat} (hq : q < 4) : RT (m_evc (d + 1) 267 [va_rf (m_ri [some 69, some 70, some 71, some 72] q), .int 0] (SH, st)) none (fun st' => fr [69 + q] st st' ∧ ∀ k, k < 40 → st' (69 + q) k = 0) := by
  have h : q = 0 ∨ q = 1 ∨ q = 2 ∨ q = 3 := by omega
  rcases h with rfl | rfl | rfl | rfl
  · exact fill_69 d st 0
  · exact fill_70 d st 0
  · exact fill_71 d st 0
  · exact fill_72 d st 0
theorem ix_S {q i : Nat} (hq : q < 4) (hi : i < 40) : m_ix ((40 * Int32.ofNat q) + Int32.ofNat i) 160 = some (40 * q + i) := by
  rw [show (40 : Int32) = Int32.ofNat 40 from rfl, n_mul, n_add]
  exact ix_n (by omega) (by omega)
theorem Rel_sheet {st st' : zS} (h : Rel st) (f : fr [66, 67, 69, 70, 71, 72, 95, 96, 97] st st') (hs : Rsheet st') : Rel st' := by
  obtain ⟨a, b, c, d, e, g, i⟩ := h
  have e0 : st' 0 = st 0 := f 0 rfl
  have e85 : st' 85 = st 85 := f 85 rfl
  have e35 : st' 35 = st 35 := f 35 rfl
  exact ⟨Rnow_fr f rfl a, Rkept_fr f rfl (by rw [e0]) (by rw [e85]) b, Rrows_fr f rfl (by rw [e0]) (by rw [e85]) c, hs, Rshelf_fr f rfl e, Rtrace_fr f rfl (by rw [e85]) g, Rtape_fr f rfl (by rw [e35]) (by rw [e85]) i⟩
theorem m_shl (d : Nat) (st : zS) {q : Nat} (hq : q < 4) (y z : Int32) : RT (m_ev none d 245 69 [some (.ref 85), some (.int (Int32.ofNat q)), some (.int y), some (.int z), some (.int 0)] [] (SH, st)) (some (.int 1)) (fun st' => fr [97] st st' ∧ (∀ k, k < 40 → st' 97 (40 * q + k) = 0) ∧ ∀ i, (∀ k, k < 40 → i ≠ 40 * q + k) → st' 97 i = st 97 i) := by
  have L := lp_inv (fun j (a : zS) => m_ev none d 245 69 [some (.ref 85), some (.int (Int32.ofNat q)), some (.int y), some (.int z), some (.int (Int32.ofNat j))] [] (SH, a)) (fun j a => fr [97] st a ∧ (∀ k, k < j → a 97 (40 * q + k) = 0) ∧ ∀ i, (∀ k, k < 40 → i ≠ 40 * q + k) → a 97 i = st 97 i) 40 ?_ 40 0 st (by omega) ⟨fr_refl _ _, fun k hk => by omega, fun _ _ => rfl⟩
  · obtain ⟨st2, e, f2, g2, h2⟩ := L
    refine ⟨st2, ?_, f2, g2, h2⟩
    refine Eq.trans e ?_
    rw [eX12_sheet_69, if_neg (by decide), eX12_sheet_95]
  · rintro j a hj ⟨f, g, h⟩
    refine ⟨m_up a 97 (40 * q + j) 0, ?_, fr_up f rfl, fun k hk => ?_, fun i hi => ?_⟩
    · rw [eX12_sheet_69, if_pos (by rw [show (40 : Int32) = Int32.ofNat 40 from rfl, n_lt (by omega) (by omega)]; exact hj), ix_S hq hj]
      simp only [m_ob, n_succ]
    · by_cases z : k = j
      · subst z; rw [up_in]
      · rw [up_nj (by omega)]; exact g k (by omega)
    · rw [up_nj (hi j hj)]; exact h i hi
theorem c_m1 {x : Int32} (h : -1 ≤ x.toInt) : x < 0 ↔ x = -1 := by
  have z0 : (0 : Int32).toInt = 0 := rfl
  have z1 : (-1 : Int32).toInt = -1 := rfl
  rw [i_lt, z0]
  constructor
  · intro q
    apply Int32.toInt_inj.mp
    rw [z1]; omega
  · intro q
    rw [q, z1]; decide
theorem r_sheet (x y z : Int32) : lw_C Rel 137 245 [.int x, .int y, .int z] := by
  intro st hR
  have hS := hR.2.2.2.1
  have z0 : (0 : Int32).toInt = 0 := rfl
  have z40 : (40 : Int32).toInt = 40 := rfl
  have zm : (-1 : Int32).toInt = -1 := rfl
  have M0 : ∀ a : zS, m_evc 2047 245 [.ref 85, .int x, .int y, .int z] (SH, a) = if gR 0 3 x ∧ gR (-1) 4 y then (if y < 0 then m_ev none 2046 245 44 [some (.ref 85), some (.int x), some (.int y), some (.int z), none] [] (SH, a) else if 40 < z then some (some (.int (-1)), (SH, a)) else if z < 0 then some (some (.int (-14)), (SH, a)) else m_ev none 2046 245 44 [some (.ref 85), some (.int x), some (.int y), some (.int z), none] [] (SH, a)) else some (some (.int (-1)), (SH, a)) := by
    intro a
    rw [cal_X12_sheet 2046, eX12_sheet_0, m_isOne 2044]
    simp only [m_bd, Option.toList, List.cons_append, List.nil_append]
    rw [eX12_sheet_4, bZ_if]
    by_cases h1 : gR 0 3 x
    · rw [if_pos h1, s_inb 2045]
      simp only [m_bd, Option.toList, List.cons_append, List.nil_append]
      rw [eX12_sheet_18, bZ_if]
      by_cases h2 : gR (-1) 4 y
      · rw [if_pos (show (-1 : Int64).toInt ≤ y.toInt ∧ y.toInt ≤ (4 : Int64).toInt from h2), if_pos (show gR 0 3 x ∧ gR (-1) 4 y from ⟨h1, h2⟩)]
        by_cases h3 : y < 0
        · rw [if_pos h3, if_pos h3, eX12_sheet_33, if_pos h3]
        · rw [if_neg h3, if_neg h3]
          by_cases h4 : 40 < z
          · rw [if_pos h4, if_pos h4, eX12_sheet_31]
          · rw [if_neg h4, if_neg h4, eX12_sheet_33, if_neg h3]
      · rw [if_neg (show ¬ ((-1 : Int64).toInt ≤ y.toInt ∧ y.toInt ≤ (4 : Int64).toInt) from h2), if_neg (fun q => h2 q.2), eX12_sheet_31]
    · rw [if_neg h1, if_neg (fun q => h1 q.1), eX12_sheet_31]
  have X0 : m_evc 2047 137 [.ref 0, .int x, .int y, .int z] (SH, st) = if gR 0 3 x ∧ gR (-1) 4 y then m_ev none 2046 137 21 [some (.ref 0), some (.int x), some (.int y), some (.int z)] [] (SH, st) else some (some (.int (-1)), (SH, st)) := by
    rw [cal_X11_sheet 2046, eX11_sheet_0, x_isSh 2045]
    simp only [m_bd, Option.toList, List.cons_append, List.nil_append]
    rw [eX11_sheet_4, bZ_if]
    by_cases h1 : gR 0 3 x
    · rw [if_pos h1]
      by_cases h2 : y = -1
      · rw [if_pos h2, if_pos ⟨h1, by subst h2; exact ⟨by decide, by decide⟩⟩]
      · rw [if_neg h2, x_isSt 2045]
        simp only [m_bd, Option.toList, List.cons_append, List.nil_append]
        rw [eX11_sheet_16, bZ_if]
        by_cases h3 : gR 0 4 y
        · rw [if_pos h3, if_pos ⟨h1, by have := h3.1; omega, h3.2⟩]
        · rw [if_neg h3, if_neg, eX11_sheet_19]
          rintro ⟨_, q1, q2⟩
          refine h3 ⟨?_, q2⟩
          by_cases q3 : y.toInt = -1
          · exact absurd (Int32.toInt_inj.mp (q3.trans zm.symm)) h2
          · omega
    · rw [if_neg h1, if_neg (fun q => h1 q.1), eX11_sheet_19]
  by_cases h : gR 0 3 x ∧ gR (-1) 4 y
  · have hh := h
    obtain ⟨q, hq, rfl⟩ := gR_e3 h.1
    rw [if_pos hh, eX11_sheet_21] at X0
    by_cases hy : y = -1
    · rw [if_pos hy, ix_4 hq, ob_s] at X0
      subst hy
      obtain ⟨c, ec, fc, gc, oc⟩ := m_shl 2046 (m_up (m_up (m_up st 66 q (-1)) 95 q (-1)) 96 q 0) hq (-1) z
      refine ⟨1, _, c, X0, ?_, ?_⟩
      · rw [M0, if_pos hh, if_pos (by decide), eX12_sheet_44, ix_4 hq, ob_s, if_pos (by decide), eX12_sheet_65, ix_4 hq, ob_s]
        exact ec
      · have F : fr [66, 67, 69, 70, 71, 72, 95, 96, 97] st c := fr_mono (fr_tr (fr_up (fr_up (fr_up (cs := [66, 95, 96]) (fr_refl _ _) rfl) rfl) rfl) fc) (by decide)
        refine Rel_sheet hR F (fun p hp => ?_)
        rw [fc 66 rfl, fc 95 rfl, fc 67 rfl, fc 96 rfl, fc (69 + p) (by simp; omega)]
        rw [up_ne (show 66 ≠ 96 by decide), up_ne (show 66 ≠ 95 by decide), up_ne (show 95 ≠ 96 by decide), up_ne (show 67 ≠ 96 by decide), up_ne (show 67 ≠ 95 by decide), up_ne (show 67 ≠ 66 by decide), up_ne (show 69 + p ≠ 96 by omega), up_ne (show 69 + p ≠ 95 by omega), up_ne (show 69 + p ≠ 66 by omega)]
        by_cases qp : p = q
        · subst qp
          rw [up_in, up_in]
          exact ⟨rfl, ⟨by decide, by decide⟩, fun w => absurd rfl w⟩
        · rw [up_nj qp, up_nj qp, up_ne (show 95 ≠ 66 by decide), up_nj qp, up_ne (show 96 ≠ 95 by decide), up_ne (show 96 ≠ 66 by decide)]
          obtain ⟨s1, s2, s3⟩ := hS p hp
          refine ⟨s1, s2, fun w => ⟨(s3 w).1, (s3 w).2.1, fun i hi => ?_⟩⟩
          rw [oc _ (fun k hk => by omega), up_ne (by decide), up_ne (by decide), up_ne (by decide)]
          exact (s3 w).2.2 i hi
    · have hy0 : ¬ y < 0 := fun w => hy ((c_m1 h.2.1).mp w)
      have hyi : 0 ≤ y.toInt := by
        rw [i_lt, z0] at hy0; omega
      rw [if_neg hy, eX11_sheet_35] at X0
      by_cases h4 : 40 < z
      · rw [if_pos h4] at X0
        exact lw_bad hR X0 (by rw [M0, if_pos hh, if_neg hy0, if_pos h4])
      · rw [if_neg h4, eX11_sheet_43] at X0
        by_cases h5 : z < 0
        · rw [if_pos h5] at X0
          exact lw_bad hR X0 (by rw [M0, if_pos hh, if_neg hy0, if_neg h4, if_pos h5])
        · rw [if_neg h5, eX11_sheet_50, ix_4 hq, ob_s, ob_s, ob_s, gsheet_70 _ _ _ _ _ hq] at X0
          obtain ⟨b, eb, fb', gb⟩ := gfill 2045 (m_up (m_up st 66 q y) 67 q z) hq
          rw [eb] at X0
          simp only [m_bd, Option.toList, List.cons_append, List.nil_append] at X0
          rw [eX11_sheet_74] at X0
          obtain ⟨c, ec, fc, gc, oc⟩ := m_shl 2046 (m_up (m_up b 95 q y) 96 q z) hq y z
          refine ⟨1, b, c, X0, ?_, ?_⟩
          · rw [M0, if_pos hh, if_neg hy0, if_neg h4, if_neg h5, eX12_sheet_44, ix_4 hq, ob_s, if_neg hy0, eX12_sheet_64, eX12_sheet_65, ix_4 hq, ob_s]
            exact ec
          · have Fb : fr [66, 67, 69, 70, 71, 72] st b := fr_mono (fr_tr (fr_up (fr_up (cs := [66, 67]) (fr_refl _ _) rfl) rfl) fb') (by simp; omega)
            have F : fr [66, 67, 69, 70, 71, 72, 95, 96, 97] st c := fr_mono (fr_tr (fr_up (fr_up (cs := [66, 67, 69, 70, 71, 72, 95, 96]) (fr_mono Fb (by decide)) rfl) rfl) fc) (by decide)
            have ne : ∀ i, i ≠ 69 + q → ([69 + q].elem i) = false := fun i hi => by simp; exact hi
            refine Rel_sheet hR F (fun p hp => ?_)
            rw [fc 66 rfl, fc 95 rfl, fc 67 rfl, fc 96 rfl, fc (69 + p) (by simp; omega)]
            rw [up_ne (show 66 ≠ 96 by decide), up_ne (show 66 ≠ 95 by decide), up_ne (show 95 ≠ 96 by decide), up_ne (show 67 ≠ 96 by decide), up_ne (show 67 ≠ 95 by decide), up_ne (show 69 + p ≠ 96 by omega), up_ne (show 69 + p ≠ 95 by omega), fb' 66 (ne 66 (by omega)), fb' 67 (ne 67 (by omega)), up_ne (show 66 ≠ 67 by decide)]
            by_cases qp : p = q
            · subst qp
              rw [up_in, up_in, up_in, up_in]
              refine ⟨rfl, h.2, fun _ => ⟨rfl, ?_, fun i hi => ?_⟩⟩
              · rw [i_lt, z40] at h4
                rw [i_lt, z0] at h5
                omega
              · rw [gb i hi, gc i hi]
            · rw [up_nj qp, up_nj qp, up_nj qp, up_nj qp, up_ne (show 67 ≠ 66 by decide), up_ne (show 96 ≠ 95 by decide), fb' 95 (ne 95 (by omega)), fb' 96 (ne 96 (by omega)), fb' (69 + p) (ne _ (by omega)), up_ne (show 95 ≠ 67 by decide), up_ne (show 95 ≠ 66 by decide), up_ne (show 96 ≠ 67 by decide), up_ne (show 96 ≠ 66 by decide), up_ne (show 69 + p ≠ 67 by omega), up_ne (show 69 + p ≠ 66 by omega)]
              obtain ⟨s1, s2, s3⟩ := hS p hp
              refine ⟨s1, s2, fun w => ⟨(s3 w).1, (s3 w).2.1, fun i hi => ?_⟩⟩
              rw [oc _ (fun k hk => by omega), up_ne (by decide), up_ne (by decide), fb' 97 (ne 97 (by omega)), up_ne (by decide), up_ne (by decide)]
              exact (s3 w).2.2 i hi
  · exact lw_bad hR (by rw [X0, if_neg h]) (by rw [M0, if_neg h])
