/-! CALLS: seed, wind, draw, pace, change, turn -/
theorem r_seed (x : Int32) : lw_C Rel 111 209 [.int x] := by
  refine lw_seed x (fun st h => h.1.2.2.1.2.2) (fun st h => ?_)
  refine Rel_now h (mdf_up (mdf_up (mdf_refl _) rfl _ _) rfl _ _) ?_
  have V : VR _ _ _ _ _ _ _ _ _ _ _ _ _ _ _ _ _ := h.1
  refine VR_gen V rfl rfl (fun j hj => ?_) V.1.2.2.2.1 ⟨V.2.2.1.1, V.2.2.1.2.1, rfl⟩ (fun i hi => ?_) (fun j hj => ?_) (heR_cg V.2.2.2.2.2.1 rfl (fun i hi => ⟨?_, ?_⟩)) (rpR_cg V.2.2.2.2.2.2.1 rfl rfl rfl (fun j j1 j2 => ?_))
  · rw [chg_up, chg_ne (by omega)]; rfl
  · rw [chg_up, chg_ne (by omega), chg_ne (by omega), chg_ne (by omega), chg_ne (by omega)]; exact VR_T V i hi
  · rw [chg_up, chg_ne (by omega)]; exact VR_W V j hj
  · rw [chg_up, chg_ne (by omega)]; rfl
  · rw [chg_up, chg_ne (by omega)]; rfl
  · rw [chg_up, chg_ne (by omega)]; rfl
theorem r_pace (y : Int32) : lw_C Rel 86 177 [.int y] := by
  refine lw_pace y (fun st h => ?_)
  have V : VR _ _ _ _ _ _ _ _ _ _ _ _ _ _ _ _ _ := h.1
  have hd := V.1.2.2.2.1
  refine ⟨V.2.2.1.2.1, ?_, ?_, fun j hj => (VR_W V j hj).1⟩
  · rw [hd.1]; exact of_eq_true (n_le0 _ (by have := hd.2; omega))
  · rw [hd.1, show (7 : Int32) = Int32.ofNat 7 from rfl, n_lt (by have := hd.2; omega) (by omega)]; exact hd.2
theorem gW_of {v : Int32} (h0 : -3 ≤ v) (h1 : v ≤ 3) : -3 ≤ v.toInt ∧ v.toInt ≤ 3 := by
  rw [i_le] at h0 h1
  exact ⟨h0, h1⟩
theorem r_wind (x v : Int32) : lw_C Rel 85 176 [.int x, .int v] := by
  refine lw_wind x v (fun st h j hj => h.1.2.2.2.2.1 j hj) (fun st h h0 h1 k hk => ?_)
  have hv := gW_of h0 h1
  refine Rel_now h (mdf_up (mdf_up (mdf_refl _) rfl _ _) rfl _ _) ?_
  have V : VR _ _ _ _ _ _ _ _ _ _ _ _ _ _ _ _ _ := h.1
  have e2 : m_up (m_up st 8 k v) 86 (5 + k) v 86 2 = st 86 2 := by rw [chg_up, chg_ne (by omega)]; rfl
  have e0 : m_up (m_up st 8 k v) 86 (5 + k) v 86 0 = st 86 0 := by rw [chg_up, chg_ne (by omega)]; rfl
  have e3 : m_up (m_up st 8 k v) 86 (5 + k) v 86 3 = st 86 3 := by rw [chg_up, chg_ne (by omega)]; rfl
  refine VR_gen V e0 ?_ (fun j hj => ?_) ?_ ⟨by rw [e0]; exact V.2.2.1.1, by rw [e2]; exact V.2.2.1.2.1, by rw [e3]; exact V.2.2.1.2.2⟩ (fun i hi => ?_) (fun j hj => ?_) (heR_cg V.2.2.2.2.2.1 e0 (fun i hi => ⟨?_, ?_⟩)) (rpR_cg V.2.2.2.2.2.2.1 e0 ?_ rfl (fun j j1 j2 => ?_))
  · rw [chg_up, chg_ne (by omega)]; rfl
  · rw [chg_up, chg_ne (by omega)]; rfl
  · unfold DG; rw [e2]; exact V.1.2.2.2.1
  · rw [chg_up, chg_ne (by omega), chg_ne (by omega), chg_ne (by omega), chg_ne (by omega)]; exact VR_T V i hi
  · rw [chg_up, up_ne (by decide)]
    by_cases q : j = k
    · subst q; rw [chg_at, up_in]; exact ⟨rfl, hv⟩
    · rw [chg_ne (by omega), up_nj q]; exact VR_W V j hj
  · rw [chg_up, chg_ne (by omega)]; rfl
  · rw [chg_up, chg_ne (by omega)]; rfl
  · rw [chg_up, chg_ne (by omega)]; rfl
  · rw [chg_up, chg_ne (by omega)]; rfl
theorem r_draw (x : Int32) : lw_C Rel 112 211 [.int x] := by
  refine lw_draw x (fun st h => h.1.2.2.1.2.2) (fun st h k hk r => ?_)
  have hv := x_Wb r
  refine Rel_now h (mdf_up (mdf_up (mdf_up (mdf_up (mdf_refl _) rfl _ _) rfl _ _) rfl _ _) rfl _ _) ?_
  have V : VR _ _ _ _ _ _ _ _ _ _ _ _ _ _ _ _ _ := h.1
  have row : ∀ j, j ≠ 3 → j ≠ 5 + k → m_up (m_up (m_up (m_up st 1 9 r) 8 k (x_W r)) 86 3 r) 86 (5 + k) (x_W r) 86 j = st 86 j := fun j h3 h5 => by
    rw [up_nj h5, up_nj h3, up_ne (by decide), up_ne (by decide)]
  refine VR_gen V (row 0 (by omega) (by omega)) (row 4 (by omega) (by omega)) (fun j hj => (row j (by omega) (by omega)).symm) ?_ ⟨by rw [row 0 (by omega) (by omega)]; exact V.2.2.1.1, by rw [row 2 (by omega) (by omega)]; exact V.2.2.1.2.1, ?_⟩ (fun i hi => ?_) (fun j hj => ?_) (heR_cg V.2.2.2.2.2.1 (row 0 (by omega) (by omega)) (fun i hi => ⟨row _ (by omega) (by omega), row _ (by omega) (by omega)⟩)) (rpR_cg V.2.2.2.2.2.2.1 (row 0 (by omega) (by omega)) (row 1 (by omega) (by omega)) rfl (fun j j1 j2 => row j (by omega) (by omega)))
  · unfold DG; rw [row 2 (by omega) (by omega)]; exact V.1.2.2.2.1
  · rw [up_nj (show 3 ≠ 5 + k by omega), up_in]; rfl
  · rw [row _ (by omega) (by omega), row _ (by omega) (by omega), row _ (by omega) (by omega), row _ (by omega) (by omega)]; exact VR_T V i hi
  · rw [up_ne (show 8 ≠ 86 by decide), up_ne (show 8 ≠ 86 by decide)]
    by_cases q : j = k
    · subst q; rw [up_in, up_in]; exact ⟨rfl, hv⟩
    · rw [row _ (by omega) (by omega), up_nj q, up_ne (by decide)]; exact VR_W V j hj
/-! guards of measures and kinds -/
abbrev gM (x v : Int32) : Prop := (x = 1 ∧ gR 0 99 v) ∨ (x = 2 ∧ gR 0 9 v) ∨ (x = 3 ∧ gR 1 20 v)
theorem gM_1 (v : Int32) : gM 1 v ↔ gR 0 99 v := ⟨fun z => by
  rcases z with z | z | z
  · exact z.2
  · exact absurd z.1 (by decide)
  · exact absurd z.1 (by decide), fun z => Or.inl ⟨rfl, z⟩⟩
theorem gM_2 (v : Int32) : gM 2 v ↔ gR 0 9 v := ⟨fun z => by
  rcases z with z | z | z
  · exact absurd z.1 (by decide)
  · exact z.2
  · exact absurd z.1 (by decide), fun z => Or.inr (Or.inl ⟨rfl, z⟩)⟩
theorem gM_3 (v : Int32) : gM 3 v ↔ gR 1 20 v := ⟨fun z => by
  rcases z with z | z | z
  · exact absurd z.1 (by decide)
  · exact absurd z.1 (by decide)
  · exact z.2, fun z => Or.inr (Or.inr ⟨rfl, z⟩)⟩
theorem gR_if {α : Type} (lo hi : Int32) (v : Int32) (a b : α) : (if v < lo then a else if hi < v then a else b) = if gR lo.toInt hi.toInt v then b else a := by
  by_cases h1 : v < lo
  · rw [if_pos h1, if_neg]
    rw [i_lt] at h1
    intro z
    have := z.1
    omega
  · rw [if_neg h1]
    rw [i_lt] at h1
    by_cases h2 : hi < v
    · rw [if_pos h2, if_neg]
      rw [i_lt] at h2
      intro z
      have := z.2
      omega
    · rw [if_neg h2, if_pos]
      rw [i_lt] at h2
      exact ⟨by omega, by omega⟩
theorem s_kindX (d : Nat) (st : zS) (x : Int32) : m_evc (d + 1) 87 [.int x] (SH, st) = some (some (.int (bZ (gR 1 5 x))), (SH, st)) := by
  rw [cal_X11_isTowerKind, eX11_isTowerKind_0, gR_if]
  by_cases h : gR 1 5 x
  · rw [if_pos (show gR (1 : Int32).toInt (5 : Int32).toInt x from h), eX11_isTowerKind_15, if_pos (Or.inr rfl), bZ_t h]
  · rw [if_neg (show ¬ gR (1 : Int32).toInt (5 : Int32).toInt x from h), eX11_isTowerKind_14, eX11_isTowerKind_15, if_pos (Or.inl rfl), bZ_f h]
theorem s_measX (d : Nat) (st : zS) (x v : Int32) : m_evc (d + 1) 88 [.int x, .int v] (SH, st) = some (some (.int (bZ (gM x v))), (SH, st)) := by
  rw [cal_X11_isMeasure, eX11_isMeasure_0]
  have ec : m_case x [[1, 28], [2, 44], [3, 60]] 77 = if x = 1 then 28 else if x = 2 then 44 else if x = 3 then 60 else 77 := rfl
  rw [ec]
  by_cases h1 : x = 1
  · subst h1
    rw [if_pos rfl, eX11_isMeasure_28, gR_if, bZ_c (gM_1 v)]
    by_cases h : gR 0 99 v
    · rw [if_pos (show gR (0 : Int32).toInt (99 : Int32).toInt v from h), eX11_isMeasure_43, if_pos (Or.inr rfl), bZ_t h]
    · rw [if_neg (show ¬ gR (0 : Int32).toInt (99 : Int32).toInt v from h), eX11_isMeasure_42, eX11_isMeasure_43, if_pos (Or.inl rfl), bZ_f h]
  rw [if_neg h1]
  by_cases h2 : x = 2
  · subst h2
    rw [if_pos rfl, eX11_isMeasure_44, gR_if, bZ_c (gM_2 v)]
    by_cases h : gR 0 9 v
    · rw [if_pos (show gR (0 : Int32).toInt (9 : Int32).toInt v from h), eX11_isMeasure_59, if_pos (Or.inr rfl), bZ_t h]
    · rw [if_neg (show ¬ gR (0 : Int32).toInt (9 : Int32).toInt v from h), eX11_isMeasure_58, eX11_isMeasure_59, if_pos (Or.inl rfl), bZ_f h]
  rw [if_neg h2]
  by_cases h3 : x = 3
  · subst h3
    rw [if_pos rfl, eX11_isMeasure_60, gR_if, bZ_c (gM_3 v)]
    by_cases h : gR 1 20 v
    · rw [if_pos (show gR (1 : Int32).toInt (20 : Int32).toInt v from h), eX11_isMeasure_76, if_pos (Or.inr rfl), bZ_t h]
    · rw [if_neg (show ¬ gR (1 : Int32).toInt (20 : Int32).toInt v from h), eX11_isMeasure_75, eX11_isMeasure_76, if_pos (Or.inl rfl), bZ_f h]
  rw [if_neg h3, eX11_isMeasure_77, bZ_f]
  intro z
  rcases z with z | z | z
  · exact h1 z.1
  · exact h2 z.1
  · exact h3 z.1
theorem s_measM (d : Nat) (st : zS) (x v : Int32) : m_evc (d + 2) 165 [.int x, .int v] (SH, st) = some (some (.int (bZ (gM x v))), (SH, st)) := by
  rw [cal_X12_isPart, eX12_isPart_0]
  have ec : m_case x [[1, 28], [2, 38]] 48 = if x = 1 then 28 else if x = 2 then 38 else 48 := rfl
  rw [ec]
  by_cases h1 : x = 1
  · subst h1
    rw [if_pos rfl, eX12_isPart_28, s_inb, bZ_c (gM_1 v)]
    simp only [m_bd, Option.toList, List.cons_append, List.nil_append]
    rw [eX12_isPart_37, if_pos (of_eq_true (bZ_ok _))]
    rfl
  rw [if_neg h1]
  by_cases h2 : x = 2
  · subst h2
    rw [if_pos rfl, eX12_isPart_38, s_inb, bZ_c (gM_2 v)]
    simp only [m_bd, Option.toList, List.cons_append, List.nil_append]
    rw [eX12_isPart_47, if_pos (of_eq_true (bZ_ok _))]
    rfl
  rw [if_neg h2, eX12_isPart_48]
  by_cases h3 : x = 3
  · subst h3
    rw [if_pos rfl, s_inb, bZ_c (gM_3 v)]
    simp only [m_bd, Option.toList, List.cons_append, List.nil_append]
    rw [eX12_isPart_62, bZ_if]
    by_cases h : gR 1 20 v
    · rw [if_pos (show (1 : Int64).toInt ≤ v.toInt ∧ v.toInt ≤ (20 : Int64).toInt from h), eX12_isPart_70, if_pos (Or.inr rfl), bZ_t h]
    · rw [if_neg (show ¬ ((1 : Int64).toInt ≤ v.toInt ∧ v.toInt ≤ (20 : Int64).toInt) from h), eX12_isPart_69, eX12_isPart_70, if_pos (Or.inl rfl), bZ_f h]
  rw [if_neg h3, eX12_isPart_69, eX12_isPart_70, if_pos (Or.inl rfl), bZ_f]
  intro z
  rcases z with z | z | z
  · exact h1 z.1
  · exact h2 z.1
  · exact h3 z.1
/-- a tower's measure or kind becomes another -/
theorem Rel_meas {st : zS} (h : Rel st) {k : Nat} (hk : k < tn (st 86)) {w : Nat} (hw : w < 4) {v : Int32} (hv : (w = 0 ∧ gR 1 5 v) ∨ (w = 1 ∧ gR 0 99 v) ∨ (w = 2 ∧ gR 0 9 v) ∨ (w = 3 ∧ gR 1 20 v)) : Rel (m_up (m_up st (2 + w) k v) 86 (12 + 6 * k + w) v) := by
  have h9 := h.1.1.1.2
  have V : VR _ _ _ _ _ _ _ _ _ _ _ _ _ _ _ _ _ := h.1
  have row : ∀ j, j ≠ 12 + 6 * k + w → m_up (m_up st (2 + w) k v) 86 (12 + 6 * k + w) v 86 j = st 86 j := fun j hj => by
    rw [up_nj hj, up_ne (by omega)]
  have cl : ∀ i, i ≠ 2 + w → i ≠ 86 → m_up (m_up st (2 + w) k v) 86 (12 + 6 * k + w) v i = st i := fun i i1 i2 => by
    rw [up_ne i2, up_ne i1]
  have hb : ((Nat.ble 1 (2 + w) && Nat.ble (2 + w) 17) || (2 + w) == 86) = true := by
    simp only [Bool.or_eq_true, Bool.and_eq_true, Nat.ble_eq]; omega
  refine Rel_now h (mdf_up (mdf_up (mdf_refl _) hb _ _) rfl _ _) ?_
  unfold Rnow
  rw [cl 1 (by omega) (by omega), cl 6 (by omega) (by omega), cl 7 (by omega) (by omega), cl 8 (by omega) (by omega), cl 9 (by omega) (by omega), cl 10 (by omega) (by omega), cl 11 (by omega) (by omega), cl 12 (by omega) (by omega), cl 13 (by omega) (by omega), cl 14 (by omega) (by omega), cl 15 (by omega) (by omega), cl 16 (by omega) (by omega)]
  refine VR_gen V (row 0 (by omega)) (row 4 (by omega)) (fun j hj => (row j (by omega)).symm) ?_ ⟨by rw [row 0 (by omega)]; exact V.2.2.1.1, by rw [row 2 (by omega)]; exact V.2.2.1.2.1, by rw [row 3 (by omega)]; exact V.2.2.1.2.2⟩ (fun i hi => ?_) (fun j hj => ?_) (heR_cg V.2.2.2.2.2.1 (row 0 (by omega)) (fun i hi => ⟨row _ (by omega), row _ (by omega)⟩)) (rpR_cg V.2.2.2.2.2.2.1 (row 0 (by omega)) (row 1 (by omega)) rfl (fun j j1 j2 => row j (by omega)))
  · unfold DG; rw [row 2 (by omega)]; exact V.1.2.2.2.1
  · obtain ⟨⟨a0, a1, a2, a3⟩, b0, b1, b2, b3⟩ := VR_T V i hi
    have old : ∀ (r u : Nat), u < 4 → (u ≠ w ∨ i ≠ k) → m_up (m_up st (2 + w) k v) 86 (12 + 6 * k + w) v (2 + u) i = st (2 + u) i ∧ m_up (m_up st (2 + w) k v) 86 (12 + 6 * k + w) v 86 (12 + u + 6 * i) = st 86 (12 + u + 6 * i) := by
      intro r u hu hor
      refine ⟨?_, row _ (by omega)⟩
      rw [up_ne (by omega)]
      by_cases q : u = w
      · subst q; rw [up_nj (by omega)]
      · rw [up_ne (by omega)]
    have new : i = k → m_up (m_up st (2 + w) k v) 86 (12 + 6 * k + w) v (2 + w) i = v ∧ m_up (m_up st (2 + w) k v) 86 (12 + 6 * k + w) v 86 (12 + w + 6 * i) = v := by
      intro q
      subst q
      refine ⟨by rw [up_ne (by omega), up_in], ?_⟩
      rw [show 12 + w + 6 * i = 12 + 6 * i + w by omega, up_in]
    by_cases q : i = k
    · have hnew := new q
      rcases hv with ⟨rfl, hv⟩ | ⟨rfl, hv⟩ | ⟨rfl, hv⟩ | ⟨rfl, hv⟩
      · obtain ⟨o1, p1⟩ := old 0 1 (by omega) (by omega)
        obtain ⟨o2, p2⟩ := old 0 2 (by omega) (by omega)
        obtain ⟨o3, p3⟩ := old 0 3 (by omega) (by omega)
        exact ⟨⟨hnew.1.trans hnew.2.symm, (o1.trans a1).trans p1.symm, (o2.trans a2).trans p2.symm, (o3.trans a3).trans p3.symm⟩, by rw [show 12 + 6 * i = 12 + 0 + 6 * i by omega, hnew.2]; exact hv, by rw [show 13 + 6 * i = 12 + 1 + 6 * i by omega, p1]; exact b1, by rw [show 14 + 6 * i = 12 + 2 + 6 * i by omega, p2]; exact b2, by rw [show 15 + 6 * i = 12 + 3 + 6 * i by omega, p3]; exact b3⟩
      · obtain ⟨o0, p0⟩ := old 0 0 (by omega) (by omega)
        obtain ⟨o2, p2⟩ := old 0 2 (by omega) (by omega)
        obtain ⟨o3, p3⟩ := old 0 3 (by omega) (by omega)
        exact ⟨⟨(o0.trans a0).trans p0.symm, hnew.1.trans hnew.2.symm, (o2.trans a2).trans p2.symm, (o3.trans a3).trans p3.symm⟩, by rw [show 12 + 6 * i = 12 + 0 + 6 * i by omega, p0]; exact b0, by rw [show 13 + 6 * i = 12 + 1 + 6 * i by omega, hnew.2]; exact hv, by rw [show 14 + 6 * i = 12 + 2 + 6 * i by omega, p2]; exact b2, by rw [show 15 + 6 * i = 12 + 3 + 6 * i by omega, p3]; exact b3⟩
      · obtain ⟨o0, p0⟩ := old 0 0 (by omega) (by omega)
        obtain ⟨o1, p1⟩ := old 0 1 (by omega) (by omega)
        obtain ⟨o3, p3⟩ := old 0 3 (by omega) (by omega)
        exact ⟨⟨(o0.trans a0).trans p0.symm, (o1.trans a1).trans p1.symm, hnew.1.trans hnew.2.symm, (o3.trans a3).trans p3.symm⟩, by rw [show 12 + 6 * i = 12 + 0 + 6 * i by omega, p0]; exact b0, by rw [show 13 + 6 * i = 12 + 1 + 6 * i by omega, p1]; exact b1, by rw [show 14 + 6 * i = 12 + 2 + 6 * i by omega, hnew.2]; exact hv, by rw [show 15 + 6 * i = 12 + 3 + 6 * i by omega, p3]; exact b3⟩
      · obtain ⟨o0, p0⟩ := old 0 0 (by omega) (by omega)
        obtain ⟨o1, p1⟩ := old 0 1 (by omega) (by omega)
        obtain ⟨o2, p2⟩ := old 0 2 (by omega) (by omega)
        exact ⟨⟨(o0.trans a0).trans p0.symm, (o1.trans a1).trans p1.symm, (o2.trans a2).trans p2.symm, hnew.1.trans hnew.2.symm⟩, by rw [show 12 + 6 * i = 12 + 0 + 6 * i by omega, p0]; exact b0, by rw [show 13 + 6 * i = 12 + 1 + 6 * i by omega, p1]; exact b1, by rw [show 14 + 6 * i = 12 + 2 + 6 * i by omega, p2]; exact b2, by rw [show 15 + 6 * i = 12 + 3 + 6 * i by omega, hnew.2]; exact hv⟩
    · obtain ⟨o0, p0⟩ := old 0 0 (by omega) (Or.inr q)
      obtain ⟨o1, p1⟩ := old 0 1 (by omega) (Or.inr q)
      obtain ⟨o2, p2⟩ := old 0 2 (by omega) (Or.inr q)
      obtain ⟨o3, p3⟩ := old 0 3 (by omega) (Or.inr q)
      exact ⟨⟨(o0.trans a0).trans p0.symm, (o1.trans a1).trans p1.symm, (o2.trans a2).trans p2.symm, (o3.trans a3).trans p3.symm⟩, by rw [show 12 + 6 * i = 12 + 0 + 6 * i by omega, p0]; exact b0, by rw [show 13 + 6 * i = 12 + 1 + 6 * i by omega, p1]; exact b1, by rw [show 14 + 6 * i = 12 + 2 + 6 * i by omega, p2]; exact b2, by rw [show 15 + 6 * i = 12 + 3 + 6 * i by omega, p3]; exact b3⟩
  · rw [row _ (by omega)]; exact VR_W V j hj
theorem lw_bad {kx km : Nat} {as : List Value} {st : zS} {r : Int32} (hR : Rel st) (hx : m_evc 2047 kx (.ref 0 :: as) (SH, st) = some (some (.int r), (SH, st))) (hm : m_evc 2047 km (.ref 85 :: as) (SH, st) = some (some (.int r), (SH, st))) : ∃ (r : Int32) (st1 st2 : Nat → Nat → Int32), m_evc 2047 kx (.ref 0 :: as) (SH, st) = some (some (.int r), (SH, st1)) ∧ m_evc 2047 km (.ref 85 :: as) (SH, st1) = some (some (.int r), (SH, st2)) ∧ Rel st2 := ⟨r, st, st, hx, hm, hR⟩
theorem r_turn (x v : Int32) : lw_C Rel 83 174 [.int x, .int v] := by
  intro st hR
  obtain ⟨hN, hV, h7, e0⟩ := Rel_x hR
  have h9 := hV.1.2
  have X : ∀ a : zS, a 1 0 = st 86 0 → m_evc 2047 83 [.ref 0, .int x, .int v] (SH, a) = if gT (st 86) x ∧ gR 1 5 v then m_ev none 2046 83 20 [some (.ref 0), some (.int x), some (.int v), none] [] (SH, a) else some (some (.int (-1)), (SH, a)) := by
    intro a ea
    rw [cal_X11_turn 2046, eX11_turn_0, s_isTowX 2045 a (s := st 86) ea hV.1]
    simp only [m_bd, Option.toList, List.cons_append, List.nil_append]
    rw [eX11_turn_8, bZ_if]
    by_cases h1 : gT (st 86) x
    · rw [if_pos h1, s_kindX 2045]
      simp only [m_bd, Option.toList, List.cons_append, List.nil_append]
      rw [eX11_turn_15, bZ_if]
      by_cases h2 : gR 1 5 v
      · rw [if_pos h2, if_pos ⟨h1, h2⟩]
      · rw [if_neg h2, if_neg (fun z => h2 z.2), eX11_turn_18]
    · rw [if_neg h1, if_neg (fun z => h1 z.1), eX11_turn_18]
  have M : ∀ a : zS, a 86 = st 86 → m_evc 2047 174 [.ref 85, .int x, .int v] (SH, a) = if gT (st 86) x ∧ gR 1 5 v then m_ev none 2046 174 22 [some (.ref 85), some (.int x), some (.int v), none] [] (SH, a) else some (some (.int (-1)), (SH, a)) := by
    intro a ea
    rw [cal_X12_turn 2046, eX12_turn_0, s_isTM0 2044 a (by rw [ea]; exact hV), ea]
    simp only [m_bd, Option.toList, List.cons_append, List.nil_append]
    rw [eX12_turn_5, bZ_if]
    by_cases h1 : gT (st 86) x
    · rw [if_pos h1, s_inb 2045]
      simp only [m_bd, Option.toList, List.cons_append, List.nil_append]
      rw [eX12_turn_17, bZ_if]
      by_cases h2 : gR 1 5 v
      · rw [if_pos (show (1 : Int64).toInt ≤ v.toInt ∧ v.toInt ≤ (5 : Int64).toInt from h2), if_pos ⟨h1, h2⟩]
      · rw [if_neg (show ¬ ((1 : Int64).toInt ≤ v.toInt ∧ v.toInt ≤ (5 : Int64).toInt) from h2), if_neg (fun z => h2 z.2), eX12_turn_20]
    · rw [if_neg h1, if_neg (fun z => h1 z.1), eX12_turn_20]
  by_cases h : gT (st 86) x ∧ gR 1 5 v
  · obtain ⟨k, hk, rfl⟩ := gT_e h.1
    have et := (hN.2.2.2.1 k hk).1
    refine ⟨st 86 (12 + 6 * k), m_up st 2 k v, m_up (m_up st 2 k v) 86 (12 + 6 * k) v, ?_, ?_, ?_⟩
    · rw [X st e0, if_pos h, eX11_turn_20, ix_9 (show k < 9 by omega)]
      simp only [m_ob]
      rw [et]
    · rw [M (m_up st 2 k v) (up_ne (by decide)), if_pos h, eX12_turn_22, s_its0 2044 _ (show k < 9 by omega), up_ne (show 86 ≠ 2 by decide)]
      simp only [m_bd, Option.toList, List.cons_append, List.nil_append]
      rw [eX12_turn_28, cal_X12_at 2045, eX12_at_0]
      simp only [m_bd, Option.toList, List.cons_append, List.nil_append]
      rw [eX12_turn_38, ix_T0 (show k < 9 by omega)]
      simp only [m_ob]
    · exact Rel_meas hR hk (w := 0) (by omega) (Or.inl ⟨rfl, h.2⟩)
  · exact lw_bad hR (by rw [X st e0, if_neg h]) (by rw [M st rfl, if_neg h])
theorem r_change (x y v : Int32) : lw_C Rel 82 173 [.int x, .int y, .int v] := by
  intro st hR
  obtain ⟨hN, hV, h7, e0⟩ := Rel_x hR
  have h9 := hV.1.2
  have X : ∀ a : zS, a 1 0 = st 86 0 → m_evc 2047 82 [.ref 0, .int x, .int y, .int v] (SH, a) = if gT (st 86) x ∧ gM y v then m_ev none 2046 82 21 [some (.ref 0), some (.int x), some (.int y), some (.int v), none, none] [] (SH, a) else some (some (.int (-1)), (SH, a)) := by
    intro a ea
    rw [cal_X11_change 2046, eX11_change_0, s_isTowX 2045 a (s := st 86) ea hV.1]
    simp only [m_bd, Option.toList, List.cons_append, List.nil_append]
    rw [eX11_change_8, bZ_if]
    by_cases h1 : gT (st 86) x
    · rw [if_pos h1, s_measX 2045]
      simp only [m_bd, Option.toList, List.cons_append, List.nil_append]
      rw [eX11_change_16, bZ_if]
      by_cases h2 : gM y v
      · rw [if_pos h2, if_pos ⟨h1, h2⟩]
      · rw [if_neg h2, if_neg (show ¬ (gT (st 86) x ∧ gM y v) from fun z => h2 z.2), eX11_change_19]
    · rw [if_neg h1, if_neg (show ¬ (gT (st 86) x ∧ gM y v) from fun z => h1 z.1), eX11_change_19]
  have M : ∀ a : zS, a 86 = st 86 → m_evc 2047 173 [.ref 85, .int x, .int y, .int v] (SH, a) = if gT (st 86) x ∧ gM y v then m_ev none 2046 173 18 [some (.ref 85), some (.int x), some (.int y), some (.int v), none] [] (SH, a) else some (some (.int (-1)), (SH, a)) := by
    intro a ea
    rw [cal_X12_change 2046, eX12_change_0, s_isTM0 2044 a (by rw [ea]; exact hV), ea]
    simp only [m_bd, Option.toList, List.cons_append, List.nil_append]
    rw [eX12_change_5, bZ_if]
    by_cases h1 : gT (st 86) x
    · rw [if_pos h1, s_measM 2044]
      simp only [m_bd, Option.toList, List.cons_append, List.nil_append]
      rw [eX12_change_13, bZ_if]
      by_cases h2 : gM y v
      · rw [if_pos h2, if_pos ⟨h1, h2⟩]
      · rw [if_neg h2, if_neg (show ¬ (gT (st 86) x ∧ gM y v) from fun z => h2 z.2), eX12_change_16]
    · rw [if_neg h1, if_neg (show ¬ (gT (st 86) x ∧ gM y v) from fun z => h1 z.1), eX12_change_16]
  by_cases h : gT (st 86) x ∧ gM y v
  · obtain ⟨k, hk, rfl⟩ := gT_e h.1
    obtain ⟨_, et1, et2, et3⟩ := hN.2.2.2.1 k hk
    have hM := h.2
    rcases hM with ⟨rfl, hv⟩ | ⟨rfl, hv⟩ | ⟨rfl, hv⟩
    · refine ⟨st 86 (13 + 6 * k), m_up st 3 k v, m_up (m_up st 3 k v) 86 (13 + 6 * k) v, ?_, ?_, ?_⟩
      · rw [X st e0, if_pos h, eX11_change_21, if_pos rfl, eX11_change_58_v0, ix_9 (show k < 9 by omega)]
        simp only [m_ob]
        rw [et1]
      · rw [M (m_up st 3 k v) (up_ne (by decide)), if_pos h, eX12_change_18, s_its1 2044 _ (show k < 9 by omega), up_ne (show 86 ≠ 3 by decide)]
        simp only [m_bd, Option.toList, List.cons_append, List.nil_append]
        rw [eX12_change_24, cal_X12_at 2045, eX12_at_0]
        simp only [m_bd, Option.toList, List.cons_append, List.nil_append]
        rw [eX12_change_35, ix_T1 (show k < 9 by omega)]
        simp only [m_ob]
      · have := Rel_meas hR hk (w := 1) (by omega) (Or.inr (Or.inl ⟨rfl, hv⟩))
        rw [show 12 + 6 * k + 1 = 13 + 6 * k by omega] at this
        exact this
    · refine ⟨st 86 (14 + 6 * k), m_up st 4 k v, m_up (m_up st 4 k v) 86 (14 + 6 * k) v, ?_, ?_, ?_⟩
      · rw [X st e0, if_pos h, eX11_change_21, if_neg (by decide), eX11_change_36, if_pos rfl, eX11_change_58_v1, ix_9 (show k < 9 by omega)]
        simp only [m_ob]
        rw [et2]
      · rw [M (m_up st 4 k v) (up_ne (by decide)), if_pos h, eX12_change_18, s_its2 2044 _ (show k < 9 by omega), up_ne (show 86 ≠ 4 by decide)]
        simp only [m_bd, Option.toList, List.cons_append, List.nil_append]
        rw [eX12_change_24, cal_X12_at 2045, eX12_at_0]
        simp only [m_bd, Option.toList, List.cons_append, List.nil_append]
        rw [eX12_change_35, ix_T2 (show k < 9 by omega)]
        simp only [m_ob]
      · have := Rel_meas hR hk (w := 2) (by omega) (Or.inr (Or.inr (Or.inl ⟨rfl, hv⟩)))
        rw [show 12 + 6 * k + 2 = 14 + 6 * k by omega] at this
        exact this
    · refine ⟨st 86 (15 + 6 * k), m_up st 5 k v, m_up (m_up st 5 k v) 86 (15 + 6 * k) v, ?_, ?_, ?_⟩
      · rw [X st e0, if_pos h, eX11_change_21, if_neg (by decide), eX11_change_36, if_neg (by decide), eX11_change_51, eX11_change_58_v2, ix_9 (show k < 9 by omega)]
        simp only [m_ob]
        rw [et3]
      · rw [M (m_up st 5 k v) (up_ne (by decide)), if_pos h, eX12_change_18, s_its3 2044 _ (show k < 9 by omega), up_ne (show 86 ≠ 5 by decide)]
        simp only [m_bd, Option.toList, List.cons_append, List.nil_append]
        rw [eX12_change_24, cal_X12_at 2045, eX12_at_0]
        simp only [m_bd, Option.toList, List.cons_append, List.nil_append]
        rw [eX12_change_35, ix_T3 (show k < 9 by omega)]
        simp only [m_ob]
      · have := Rel_meas hR hk (w := 3) (by omega) (Or.inr (Or.inr (Or.inr ⟨rfl, hv⟩)))
        rw [show 12 + 6 * k + 3 = 15 + 6 * k by omega] at this
        exact this
  · exact lw_bad hR (by rw [X st e0, if_neg h]) (by rw [M st rfl, if_neg h])
