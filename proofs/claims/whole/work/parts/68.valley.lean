/-! CALLS that change the valley -/
theorem VR_gen {f1 kd ad dl ml he ca wi bf bk bd bn be bs rt rh s f1' kd' ad' dl' ml' he' ca' wi' rt' rh' s' : Nat → Int32} (h : VR f1 kd ad dl ml he ca wi bf bk bd bn be bs rt rh s) (h0 : s' 0 = s 0) (h4 : s' 4 = s 4) (h78 : ∀ j, 78 ≤ j → s j = s' j) (hd : DG s') (hf : f1' 0 = s' 0 ∧ f1' 7 = s' 2 ∧ f1' 9 = s' 3) (hT : ∀ k, k < tn s → (kd' k = s' (12 + 6 * k) ∧ ad' k = s' (13 + 6 * k) ∧ dl' k = s' (14 + 6 * k) ∧ ml' k = s' (15 + 6 * k)) ∧ (1 ≤ (s' (12 + 6 * k)).toInt ∧ (s' (12 + 6 * k)).toInt ≤ 5) ∧ (0 ≤ (s' (13 + 6 * k)).toInt ∧ (s' (13 + 6 * k)).toInt ≤ 99) ∧ (0 ≤ (s' (14 + 6 * k)).toInt ∧ (s' (14 + 6 * k)).toInt ≤ 9) ∧ (1 ≤ (s' (15 + 6 * k)).toInt ∧ (s' (15 + 6 * k)).toInt ≤ 20)) (hW : ∀ j, j < 7 → wi' j = s' (5 + j) ∧ -3 ≤ (s' (5 + j)).toInt ∧ (s' (5 + j)).toInt ≤ 3) (hH : heR he' ca' s') (hP : rpR f1' rt' rh' s') : VR f1' kd' ad' dl' ml' he' ca' wi' bf bk bd bn be bs rt' rh' s' := by
  obtain ⟨⟨v0, vT, vW, vD, vR⟩, b, f, t, w, he0, rp0, nb⟩ := h
  have et : tn s' = tn s := by unfold tn; rw [h0]
  refine ⟨⟨by rw [et, h0]; exact v0, fun k hk => (hT k (by rw [← et]; exact hk)).2, fun j hj => (hW j hj).2, hd, RG_cs h78 h4.symm vR⟩, CBr_cs h78 h4.symm b, hf, fun k hk => (hT k (by rw [← et]; exact hk)).1, fun j hj => (hW j hj).1, hH, hP, fun r hr => ?_⟩
  rw [h4] at hr
  rw [← h78 _ (show 78 ≤ 80 + 4 * r by omega)]
  exact nb r hr
theorem VR_T {f1 kd ad dl ml he ca wi bf bk bd bn be bs rt rh s : Nat → Int32} (h : VR f1 kd ad dl ml he ca wi bf bk bd bn be bs rt rh s) (k : Nat) (hk : k < tn s) : (kd k = s (12 + 6 * k) ∧ ad k = s (13 + 6 * k) ∧ dl k = s (14 + 6 * k) ∧ ml k = s (15 + 6 * k)) ∧ (1 ≤ (s (12 + 6 * k)).toInt ∧ (s (12 + 6 * k)).toInt ≤ 5) ∧ (0 ≤ (s (13 + 6 * k)).toInt ∧ (s (13 + 6 * k)).toInt ≤ 99) ∧ (0 ≤ (s (14 + 6 * k)).toInt ∧ (s (14 + 6 * k)).toInt ≤ 9) ∧ (1 ≤ (s (15 + 6 * k)).toInt ∧ (s (15 + 6 * k)).toInt ≤ 20) := ⟨h.2.2.2.1 k hk, h.1.2.1 k hk⟩
theorem VR_W {f1 kd ad dl ml he ca wi bf bk bd bn be bs rt rh s : Nat → Int32} (h : VR f1 kd ad dl ml he ca wi bf bk bd bn be bs rt rh s) (j : Nat) (hj : j < 7) : wi j = s (5 + j) ∧ -3 ≤ (s (5 + j)).toInt ∧ (s (5 + j)).toInt ≤ 3 := ⟨h.2.2.2.2.1 j hj, h.1.2.2.1 j hj⟩
theorem heR_cg {he ca s s' : Nat → Int32} (h : heR he ca s) (h0 : s' 0 = s 0) (g : ∀ k, k < tn s → s' (16 + 6 * k) = s (16 + 6 * k) ∧ s' (17 + 6 * k) = s (17 + 6 * k)) : heR he ca s' := by
  have et : tn s' = tn s := by unfold tn; rw [h0]
  intro k hk
  rw [et] at hk
  rw [(g k hk).1, (g k hk).2]
  exact h k hk
theorem rpR_cg {f1 rt rh s f1' s' : Nat → Int32} (h : rpR f1 rt rh s) (h0 : s' 0 = s 0) (h1 : s' 1 = s 1) (hf : f1' 11 = f1 11) (g : ∀ j, 66 ≤ j → j < 78 → s' j = s j) : rpR f1' rt rh s' := by
  have et : tn s' = tn s := by unfold tn; rw [h0]
  obtain ⟨a, b, c, e⟩ := h
  refine ⟨by rw [h1]; exact a, by rw [h1]; exact b, by rw [hf, h1]; exact c, fun r hr => ?_⟩
  rw [h1] at hr
  rw [g (66 + 2 * r) (by omega) (by omega), g (67 + 2 * r) (by omega) (by omega), et]
  exact e r hr
/-- only what keeps the valley of now, and what nothing is remembered of, has changed -/
def mdf (st st' : zS) : Prop := fr [1, 2, 3, 4, 5, 6, 7, 8, 9, 10, 11, 12, 13, 14, 15, 16, 17, 37, 38, 39, 40, 41, 42, 43, 44, 45, 46, 47, 48, 49, 50, 51, 52, 53, 54, 55, 85, 86, 88, 89, 90, 91, 92] st st' ∧ st' 85 3 = st 85 3 ∧ st' 85 15 = st 85 15 ∧ st' 85 17 = st 85 17 ∧ st' 85 31 = st 85 31
theorem Rel_now {st st' : zS} (h : Rel st) (f : mdf st st') (hn : Rnow st') : Rel st' := by
  obtain ⟨a, b, c, d, e, g, i⟩ := h
  obtain ⟨f, f3, f15, f17, f31⟩ := f
  have e0 : st' 0 = st 0 := f 0 rfl
  have e35 : st' 35 = st 35 := f 35 rfl
  exact ⟨hn, Rkept_fr f rfl (by rw [e0]) f3 b, Rrows_fr f rfl (by rw [e0]) f15 c, Rsheet_fr f rfl d, Rshelf_fr f rfl e, Rtrace_fr f rfl f31 g, Rtape_fr f rfl (by rw [e35]) f17 i⟩
theorem mdf_refl (st : zS) : mdf st st := ⟨fr_refl _ _, rfl, rfl, rfl, rfl⟩
theorem mdf_up {a b : zS} (h : mdf a b) {i : Nat} (hi : ((Nat.ble 1 i && Nat.ble i 17) || i == 86) = true) (j : Nat) (v : Int32) : mdf a (m_up b i j v) := by
  simp only [Bool.or_eq_true, Bool.and_eq_true, Nat.ble_eq, beq_iff_eq] at hi
  have h85 : (85 : Nat) ≠ i := by omega
  refine ⟨fr_up h.1 ?_, by rw [up_ne h85]; exact h.2.1, by rw [up_ne h85]; exact h.2.2.1, by rw [up_ne h85]; exact h.2.2.2.1, by rw [up_ne h85]; exact h.2.2.2.2⟩
  simp only [List.elem_eq_contains, List.contains_iff_mem, List.mem_cons, List.not_mem_nil, or_false]
  omega
theorem mdf_scr {a b c : zS} (h : mdf a b) (g : scr b c) : mdf a c := ⟨fr_mono (fr_tr h.1 g.1) (by decide), g.2.1.trans h.2.1, g.2.2.1.trans h.2.2.1, g.2.2.2.1.trans h.2.2.2.1, g.2.2.2.2.trans h.2.2.2.2⟩
/-! day, wind, pace, seed, draw -/
theorem i_of {x : Int32} {n : Nat} (h0 : 0 ≤ x) (h1 : x < Int32.ofNat n) (hn : n < 1000) : ∃ k, k < n ∧ x = Int32.ofNat k := by
  obtain ⟨a, b, c⟩ := n_of h0
  rw [i_lt, n_int (by omega), c] at h1
  exact ⟨x.toNatClampNeg, by omega, a⟩
theorem r_day (x : Int32) : lw_C Rel 84 175 [.int x] := by
  refine lw_day x (fun st h => h.1.2.2.1.2.1) (fun st h h0 h7 => ?_)
  obtain ⟨k, hk, rfl⟩ := i_of h0 (n := 7) h7 (by omega)
  refine Rel_now h (mdf_up (mdf_up (mdf_refl _) rfl _ _) rfl _ _) ?_
  have V := h.1
  unfold Rnow at V ⊢
  rw [chg_up]
  simp only [up_ne (show (2 : Nat) ≠ 86 by decide), up_ne (show (3 : Nat) ≠ 86 by decide), up_ne (show (4 : Nat) ≠ 86 by decide), up_ne (show (5 : Nat) ≠ 86 by decide), up_ne (show (6 : Nat) ≠ 86 by decide), up_ne (show (7 : Nat) ≠ 86 by decide), up_ne (show (8 : Nat) ≠ 86 by decide), up_ne (show (9 : Nat) ≠ 86 by decide), up_ne (show (10 : Nat) ≠ 86 by decide), up_ne (show (11 : Nat) ≠ 86 by decide), up_ne (show (12 : Nat) ≠ 86 by decide), up_ne (show (13 : Nat) ≠ 86 by decide), up_ne (show (14 : Nat) ≠ 86 by decide), up_ne (show (15 : Nat) ≠ 86 by decide), up_ne (show (16 : Nat) ≠ 86 by decide), up_ne (show (1 : Nat) ≠ 86 by decide)]
  have hr : ∀ i, i ≠ 1 → m_up st 1 7 (Int32.ofNat k) i = st i := fun i hi => up_ne hi
  rw [hr 2 (by decide), hr 3 (by decide), hr 4 (by decide), hr 5 (by decide), hr 6 (by decide), hr 7 (by decide), hr 8 (by decide), hr 9 (by decide), hr 10 (by decide), hr 11 (by decide), hr 12 (by decide), hr 13 (by decide), hr 14 (by decide), hr 15 (by decide), hr 16 (by decide), hr 86 (by decide)]
  refine VR_gen V (chg_ne (by omega)) (chg_ne (by omega)) (fun j hj => (chg_ne (by omega)).symm) ?_ ⟨?_, ?_, ?_⟩ (fun i hi => ?_) (fun j hj => ?_) (heR_cg V.2.2.2.2.2.1 (chg_ne (by omega)) (fun i hi => ⟨chg_ne (by omega), chg_ne (by omega)⟩)) (rpR_cg V.2.2.2.2.2.2.1 (chg_ne (by omega)) (chg_ne (by omega)) (up_nj (by decide)) (fun j j1 j2 => chg_ne (by omega)))
  · unfold DG; rw [chg_at, n_nat (by omega)]; exact ⟨rfl, hk⟩
  · rw [up_nj (by decide), chg_ne (by omega)]; exact V.2.2.1.1
  · rw [up_in, chg_at]
  · rw [up_nj (by decide), chg_ne (by omega)]; exact V.2.2.1.2.2
  · rw [chg_ne (by omega), chg_ne (by omega), chg_ne (by omega), chg_ne (by omega)]; exact VR_T V i hi
  · rw [chg_ne (by omega)]; exact VR_W V j hj
