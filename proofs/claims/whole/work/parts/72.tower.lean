/-! CALLS: tower -/
theorem VR_new {f1 kd ad dl ml he ca wi bf bk bd bn be bs rt rh s f1' kd' ad' dl' ml' he' ca' s' : Nat → Int32} (h : VR f1 kd ad dl ml he ca wi bf bk bd bn be bs rt rh s) {n : Nat} (en : tn s = n) (hn : n < 9) (s0 : s' 0 = Int32.ofNat (n + 1)) (hs : ∀ j, j ≠ 0 → j ≠ 12 + 6 * n → j ≠ 13 + 6 * n → j ≠ 14 + 6 * n → j ≠ 15 + 6 * n → j ≠ 17 + 6 * n → s' j = s j) (hf : f1' 0 = s' 0 ∧ f1' 7 = f1 7 ∧ f1' 9 = f1 9 ∧ f1' 11 = f1 11) (ho : ∀ k, k ≠ n → kd' k = kd k ∧ ad' k = ad k ∧ dl' k = dl k ∧ ml' k = ml k ∧ he' k = he k ∧ ca' k = ca k) (hv : kd' n = s' (12 + 6 * n) ∧ ad' n = s' (13 + 6 * n) ∧ dl' n = s' (14 + 6 * n) ∧ ml' n = s' (15 + 6 * n)) (hg : gR 1 5 (s' (12 + 6 * n)) ∧ gR 0 99 (s' (13 + 6 * n)) ∧ gR 0 9 (s' (14 + 6 * n)) ∧ gR 1 20 (s' (15 + 6 * n))) (hh : s' (17 + 6 * n) = -1 ∧ he' n = -9 ∧ ca' n = -9) : VR f1' kd' ad' dl' ml' he' ca' wi bf bk bd bn be bs rt rh s' := by
  obtain ⟨⟨v0, vT, vW, vD, vR⟩, b, f, t, w, he0, rp0, nb⟩ := h
  have e4 : s' 4 = s 4 := hs 4 (by omega) (by omega) (by omega) (by omega) (by omega) (by omega)
  have h78 : ∀ j, 78 ≤ j → s j = s' j := fun j hj => (hs j (by omega) (by omega) (by omega) (by omega) (by omega) (by omega)).symm
  have et : tn s' = n + 1 := by unfold tn; rw [s0, n_nat (by omega)]
  have old : ∀ k, k < n → ∀ u, u < 6 → s' (12 + u + 6 * k) = s (12 + u + 6 * k) := fun k hk u hu => hs _ (by omega) (by omega) (by omega) (by omega) (by omega) (by omega)
  have cs : ∀ k, k < n + 1 → k < n ∨ k = n := fun k hk => by omega
  refine ⟨⟨⟨by rw [et, s0], by omega⟩, fun k hk => ?_, fun j hj => ?_, ?_, RG_cs h78 e4.symm vR⟩, CBr_cs h78 e4.symm b, ⟨hf.1, ?_, ?_⟩, fun k hk => ?_, fun j hj => ?_, fun k hk => ?_, ?_, fun r hr => ?_⟩
  · rw [et] at hk
    rcases cs k hk with q | q
    · have := vT k (by omega)
      rw [show 12 + 6 * k = 12 + 0 + 6 * k by omega, show 13 + 6 * k = 12 + 1 + 6 * k by omega, show 14 + 6 * k = 12 + 2 + 6 * k by omega, show 15 + 6 * k = 12 + 3 + 6 * k by omega, old k q 0 (by omega), old k q 1 (by omega), old k q 2 (by omega), old k q 3 (by omega)]
      exact this
    · subst q; exact hg
  · rw [hs (5 + j) (by omega) (by omega) (by omega) (by omega) (by omega) (by omega)]; exact vW j hj
  · unfold DG; rw [hs 2 (by omega) (by omega) (by omega) (by omega) (by omega) (by omega)]; exact vD
  · rw [hf.2.1, hs 2 (by omega) (by omega) (by omega) (by omega) (by omega) (by omega)]; exact f.2.1
  · rw [hf.2.2.1, hs 3 (by omega) (by omega) (by omega) (by omega) (by omega) (by omega)]; exact f.2.2
  · rw [et] at hk
    rcases cs k hk with q | q
    · have := t k (by omega)
      obtain ⟨o1, o2, o3, o4, _, _⟩ := ho k (by omega)
      rw [o1, o2, o3, o4, show 12 + 6 * k = 12 + 0 + 6 * k by omega, show 13 + 6 * k = 12 + 1 + 6 * k by omega, show 14 + 6 * k = 12 + 2 + 6 * k by omega, show 15 + 6 * k = 12 + 3 + 6 * k by omega, old k q 0 (by omega), old k q 1 (by omega), old k q 2 (by omega), old k q 3 (by omega)]
      exact this
    · subst q; exact hv
  · rw [hs (5 + j) (by omega) (by omega) (by omega) (by omega) (by omega) (by omega)]; exact w j hj
  · rw [et] at hk
    rcases cs k hk with q | q
    · have := he0 k (by omega)
      obtain ⟨_, _, _, _, o5, o6⟩ := ho k (by omega)
      rw [o5, o6, show 16 + 6 * k = 12 + 4 + 6 * k by omega, show 17 + 6 * k = 12 + 5 + 6 * k by omega, old k q 4 (by omega), old k q 5 (by omega)]
      exact this
    · subst q; exact Or.inl hh
  · obtain ⟨a, b', c, e⟩ := rp0
    have e1 : s' 1 = s 1 := hs 1 (by omega) (by omega) (by omega) (by omega) (by omega) (by omega)
    refine ⟨by rw [e1]; exact a, by rw [e1]; exact b', by rw [hf.2.2.2, e1]; exact c, fun r hr => ?_⟩
    rw [e1] at hr
    obtain ⟨g1, g2, k, g3, g4⟩ := e r hr
    rw [hs (66 + 2 * r) (by omega) (by omega) (by omega) (by omega) (by omega) (by omega), hs (67 + 2 * r) (by omega) (by omega) (by omega) (by omega) (by omega) (by omega), et]
    exact ⟨g1, g2, k, by omega, g4⟩
  · rw [e4] at hr
    rw [← h78 _ (show 78 ≤ 80 + 4 * r by omega)]
    exact nb r hr
theorem r_tower (x y z u : Int32) : lw_C Rel 80 166 [.int x, .int y, .int z, .int u] := by
  intro st hR
  obtain ⟨hN, hV, h7, e0⟩ := Rel_x hR
  have h9 := hV.1.2
  have V : VR _ _ _ _ _ _ _ _ _ _ _ _ _ _ _ _ _ := hR.1
  have X : m_evc 2047 80 [.ref 0, .int x, .int y, .int z, .int u] (SH, st) = if gR 1 5 x ∧ gR 0 99 y ∧ gR 0 9 z ∧ gR 1 20 u then m_ev none 2046 80 34 [some (.ref 0), some (.int x), some (.int y), some (.int z), some (.int u), none] [] (SH, st) else some (some (.int (-1)), (SH, st)) := by
    rw [cal_X11_tower 2046, eX11_tower_0, s_kindX 2045]
    simp only [m_bd, Option.toList, List.cons_append, List.nil_append]
    rw [eX11_tower_4, bZ_if]
    by_cases h1 : gR 1 5 x
    · rw [if_pos h1, s_measX 2045]
      simp only [m_bd, Option.toList, List.cons_append, List.nil_append]
      rw [eX11_tower_12, bZ_if]
      by_cases h2 : gR 0 99 y
      · rw [if_pos ((gM_1 y).mpr h2), s_measX 2045]
        simp only [m_bd, Option.toList, List.cons_append, List.nil_append]
        rw [eX11_tower_20, bZ_if]
        by_cases h3 : gR 0 9 z
        · rw [if_pos ((gM_2 z).mpr h3), s_measX 2045]
          simp only [m_bd, Option.toList, List.cons_append, List.nil_append]
          rw [eX11_tower_29, bZ_if]
          by_cases h4 : gR 1 20 u
          · rw [if_pos ((gM_3 u).mpr h4), if_pos ⟨h1, h2, h3, h4⟩]
          · rw [if_neg (fun q => h4 ((gM_3 u).mp q)), if_neg (fun q => h4 q.2.2.2), eX11_tower_32]
        · rw [if_neg (fun q => h3 ((gM_2 z).mp q)), if_neg (fun q => h3 q.2.2.1), eX11_tower_32]
      · rw [if_neg (fun q => h2 ((gM_1 y).mp q)), if_neg (fun q => h2 q.2.1), eX11_tower_32]
    · rw [if_neg h1, if_neg (fun q => h1 q.1), eX11_tower_32]
  have M : ∀ a : zS, m_evc 2047 166 [.ref 85, .int x, .int y, .int z, .int u] (SH, a) = if gR 1 5 x ∧ gR 0 99 y ∧ gR 0 9 z ∧ gR 1 20 u then m_ev none 2046 166 39 [some (.ref 85), some (.int x), some (.int y), some (.int z), some (.int u), none] [] (SH, a) else some (some (.int (-1)), (SH, a)) := by
    intro a
    rw [cal_X12_tower 2046, eX12_tower_0, s_inb 2045]
    simp only [m_bd, Option.toList, List.cons_append, List.nil_append]
    rw [eX12_tower_9, bZ_if]
    by_cases h1 : gR 1 5 x
    · rw [if_pos (show (1 : Int64).toInt ≤ x.toInt ∧ x.toInt ≤ (5 : Int64).toInt from h1), s_measM 2044]
      simp only [m_bd, Option.toList, List.cons_append, List.nil_append]
      rw [eX12_tower_17, bZ_if]
      by_cases h2 : gR 0 99 y
      · rw [if_pos ((gM_1 y).mpr h2), s_measM 2044]
        simp only [m_bd, Option.toList, List.cons_append, List.nil_append]
        rw [eX12_tower_25, bZ_if]
        by_cases h3 : gR 0 9 z
        · rw [if_pos ((gM_2 z).mpr h3), s_measM 2044]
          simp only [m_bd, Option.toList, List.cons_append, List.nil_append]
          rw [eX12_tower_34, bZ_if]
          by_cases h4 : gR 1 20 u
          · rw [if_pos ((gM_3 u).mpr h4), if_pos ⟨h1, h2, h3, h4⟩]
          · rw [if_neg (fun q => h4 ((gM_3 u).mp q)), if_neg (fun q => h4 q.2.2.2), eX12_tower_37]
        · rw [if_neg (fun q => h3 ((gM_2 z).mp q)), if_neg (fun q => h3 q.2.2.1), eX12_tower_37]
      · rw [if_neg (fun q => h2 ((gM_1 y).mp q)), if_neg (fun q => h2 q.2.1), eX12_tower_37]
    · rw [if_neg (show ¬ ((1 : Int64).toInt ≤ x.toInt ∧ x.toInt ≤ (5 : Int64).toInt) from h1), if_neg (fun q => h1 q.1), eX12_tower_37]
  by_cases h : gR 1 5 x ∧ gR 0 99 y ∧ gR 0 9 z ∧ gR 1 20 u
  · by_cases h8 : tn (st 86) < 9
    · have i9 := ix_9 h8
      let A := m_up (m_up (m_up (m_up (m_up (m_up (m_up st 1 0 (Int32.ofNat (tn (st 86)) + 1)) 2 (tn (st 86)) x) 3 (tn (st 86)) y) 4 (tn (st 86)) z) 5 (tn (st 86)) u) 6 (tn (st 86)) (-9)) 7 (tn (st 86)) (-9)
      have hA : A = m_up (m_up (m_up (m_up (m_up (m_up (m_up st 1 0 (Int32.ofNat (tn (st 86)) + 1)) 2 (tn (st 86)) x) 3 (tn (st 86)) y) 4 (tn (st 86)) z) 5 (tn (st 86)) u) 6 (tn (st 86)) (-9)) 7 (tn (st 86)) (-9) := rfl
      have A86 : A 86 = st 86 := rfl
      have A1 : A 1 = m_up st 1 0 (Int32.ofNat (tn (st 86)) + 1) 1 := rfl
      have A2 : A 2 = m_up st 2 (tn (st 86)) x 2 := rfl
      have A3 : A 3 = m_up st 3 (tn (st 86)) y 3 := rfl
      have A4 : A 4 = m_up st 4 (tn (st 86)) z 4 := rfl
      have A5 : A 5 = m_up st 5 (tn (st 86)) u 5 := rfl
      have A6 : A 6 = m_up st 6 (tn (st 86)) (-9) 6 := rfl
      have A7 : A 7 = m_up st 7 (tn (st 86)) (-9) 7 := rfl
      have mA : mdf st A := mdf_up (mdf_up (mdf_up (mdf_up (mdf_up (mdf_up (mdf_up (mdf_refl st) rfl _ _) rfl _ _) rfl _ _) rfl _ _) rfl _ _) rfl _ _) rfl _ _
      have Ao : ∀ i, 8 ≤ i → A i = st i := fun i hi => by
        rw [hA, up_ne (by omega), up_ne (by omega), up_ne (by omega), up_ne (by omega), up_ne (by omega), up_ne (by omega), up_ne (by omega)]
      clear_value A
      refine ⟨st 86 0, A, m_up (m_up (m_up (m_up (m_up (m_up A 86 (12 + 6 * tn (st 86)) x) 86 (13 + 6 * tn (st 86)) y) 86 (14 + 6 * tn (st 86)) z) 86 (15 + 6 * tn (st 86)) u) 86 (17 + 6 * tn (st 86)) (-1)) 86 0 (Int32.ofNat (tn (st 86)) + 1), ?_, ?_, ?_⟩
      · rw [X, if_pos h, eX11_tower_34, e0, hV.1.1, if_pos (by rw [show (9 : Int32) = Int32.ofNat 9 from rfl, n_lt (by omega) (by omega)]; exact h8), eX11_tower_49, e0, hV.1.1]
        simp only [i9, ob_s]
        rw [hA]
      · rw [M, if_pos h, eX12_tower_39, A86, if_neg (by rw [hV.1.1, show (9 : Int32) = Int32.ofNat 9 from rfl, n_eq (by omega) (by omega)]; omega), eX12_tower_53, A86, hV.1.1, cal_X12_at 2045, eX12_at_0]
        simp only [m_bd, Option.toList, List.cons_append, List.nil_append]
        rw [eX12_tower_71, ix_T0 h8, ob_s, cal_X12_at 2045, eX12_at_0]
        simp only [m_bd, Option.toList, List.cons_append, List.nil_append]
        rw [eX12_tower_83, ix_T1 h8, ob_s, cal_X12_at 2045, eX12_at_0]
        simp only [m_bd, Option.toList, List.cons_append, List.nil_append]
        rw [eX12_tower_95, ix_T2 h8, ob_s, cal_X12_at 2045, eX12_at_0]
        simp only [m_bd, Option.toList, List.cons_append, List.nil_append]
        rw [eX12_tower_107, ix_T3 h8, ob_s, cal_X12_at 2045, eX12_at_0]
        simp only [m_bd, Option.toList, List.cons_append, List.nil_append]
        rw [eX12_tower_120, ix_T5 h8, ob_s, up_nj (by omega), up_nj (by omega), up_nj (by omega), up_nj (by omega), up_nj (by omega), A86, hV.1.1]
      · refine Rel_now hR (mdf_up (mdf_up (mdf_up (mdf_up (mdf_up (mdf_up mA rfl _ _) rfl _ _) rfl _ _) rfl _ _) rfl _ _) rfl _ _) ?_
        unfold Rnow
        simp only [up_ne (show (1 : Nat) ≠ 86 by decide), up_ne (show (2 : Nat) ≠ 86 by decide), up_ne (show (3 : Nat) ≠ 86 by decide), up_ne (show (4 : Nat) ≠ 86 by decide), up_ne (show (5 : Nat) ≠ 86 by decide), up_ne (show (6 : Nat) ≠ 86 by decide), up_ne (show (7 : Nat) ≠ 86 by decide), up_ne (show (8 : Nat) ≠ 86 by decide), up_ne (show (9 : Nat) ≠ 86 by decide), up_ne (show (10 : Nat) ≠ 86 by decide), up_ne (show (11 : Nat) ≠ 86 by decide), up_ne (show (12 : Nat) ≠ 86 by decide), up_ne (show (13 : Nat) ≠ 86 by decide), up_ne (show (14 : Nat) ≠ 86 by decide), up_ne (show (15 : Nat) ≠ 86 by decide), up_ne (show (16 : Nat) ≠ 86 by decide)]
        rw [A1, A2, A3, A4, A5, A6, A7, Ao 8 (by omega), Ao 9 (by omega), Ao 10 (by omega), Ao 11 (by omega), Ao 12 (by omega), Ao 13 (by omega), Ao 14 (by omega), Ao 15 (by omega), Ao 16 (by omega)]
        refine VR_new V rfl h8 ?_ (fun j j0 j1 j2 j3 j4 j5 => ?_) ⟨?_, up_nj (by decide), up_nj (by decide), up_nj (by decide)⟩ (fun k hk => ⟨up_nj hk, up_nj hk, up_nj hk, up_nj hk, up_nj hk, up_nj hk⟩) ⟨?_, ?_, ?_, ?_⟩ ⟨?_, ?_, ?_, ?_⟩ ⟨?_, ?_, ?_⟩
        · rw [up_in, n_succ]
        · rw [up_nj j0, up_nj j5, up_nj j4, up_nj j3, up_nj j2, up_nj j1, A86]
        · rw [up_in, up_in]
        · rw [up_in, up_nj (by omega), up_nj (by omega), up_nj (by omega), up_nj (by omega), up_nj (by omega), up_in]
        · rw [up_in, up_nj (by omega), up_nj (by omega), up_nj (by omega), up_nj (by omega), up_in]
        · rw [up_in, up_nj (by omega), up_nj (by omega), up_nj (by omega), up_in]
        · rw [up_in, up_nj (by omega), up_nj (by omega), up_in]
        · rw [up_nj (by omega), up_nj (by omega), up_nj (by omega), up_nj (by omega), up_nj (by omega), up_in]; exact h.1
        · rw [up_nj (by omega), up_nj (by omega), up_nj (by omega), up_nj (by omega), up_in]; exact h.2.1
        · rw [up_nj (by omega), up_nj (by omega), up_nj (by omega), up_in]; exact h.2.2.1
        · rw [up_nj (by omega), up_nj (by omega), up_in]; exact h.2.2.2
        · rw [up_nj (by omega), up_in]
        · rw [up_in]
        · rw [up_in]
    · refine lw_bad hR (r := -2) ?_ ?_
      · rw [X, if_pos h, eX11_tower_34, e0, hV.1.1, if_neg (by rw [show (9 : Int32) = Int32.ofNat 9 from rfl, n_lt (by omega) (by omega)]; exact h8)]
      · rw [M, if_pos h, eX12_tower_39, hV.1.1, if_pos (by rw [show (9 : Int32) = Int32.ofNat 9 from rfl, n_eq (by omega) (by omega)]; omega)]
  · exact lw_bad hR (by rw [X, if_neg h]) (by rw [M, if_neg h])
