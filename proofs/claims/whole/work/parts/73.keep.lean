/-! CALLS: keep, again -/
theorem cp_app (st : zS) (a b n c k : Nat) : m_cpR st a b n c k = if c = b then (if k < n then st a k else st b k) else st c k := by
  unfold m_cpR m_row va_cpy
  simp
theorem up_ap2 (st : zS) (i j : Nat) (v : Int32) (a b : Nat) : m_up st i j v a b = if a = i ∧ b = j then v else st a b := by
  unfold m_up
  by_cases h : a = i <;> by_cases g : b = j <;> simp [h, g]
theorem fr_cp {cs : List Nat} {a b : zS} {i j n : Nat} (h : fr cs a b) (hi : cs.elem j = true) : fr cs a (m_cpR b i j n) := by
  intro q hq
  rw [← h q hq]
  funext k
  rw [cp_app, if_neg]
  intro e; subst e; rw [hi] at hq; cases hq
theorem cl_up {s t : Nat → Int32} (h : ∀ j, j < 310 → t j = s j) : ∀ m i, i + m ≤ 200 → cl t i m = cl s i m
  | 0, _, _ => rfl
  | m + 1, i, hi => by
    show _ :: _ = _ :: _
    rw [h _ (by omega), cl_up h m (i + 1) (by omega)]
theorem cls_up {s t : Nat → Int32} (h : ∀ j, j < 200 → t j = s j) : ∀ m i, i + m ≤ 200 → cls t i m = cls s i m
  | 0, _, _ => rfl
  | m + 1, i, hi => by
    show _ :: _ = _ :: _
    rw [h _ (by omega), cls_up h m (i + 1) (by omega)]
theorem bg_up {s t : Nat → Int32} (h : ∀ j, j < 310 → t j = s j) : ∀ r, r ≤ 8 → bg t r = bg s r
  | 0, _ => rfl
  | r + 1, hr => by
    show (t _).toNatClampNeg = (s _).toNatClampNeg
    rw [h _ (by omega)]
theorem cb_up {s t : Nat → Int32} (h : ∀ j, j < 8 → t j = s j) : ∀ r, r ≤ 8 → cb t r = cb s r
  | 0, _ => rfl
  | r + 1, hr => by
    show (t _).toNatClampNeg = (s _).toNatClampNeg
    rw [h _ (by omega)]
theorem RG_up {s t : Nat → Int32} (h : ∀ j, j < 310 → t j = s j) (hR : RG s) : RG t := by
  obtain ⟨a, b, c⟩ := hR
  refine ⟨by rw [h 4 (by omega)]; exact a, by rw [h 4 (by omega)]; exact b, fun r hr => ?_⟩
  rw [h 4 (by omega)] at hr
  obtain ⟨c1, c2, c3, c4⟩ := c r hr
  rw [h _ (show 81 + 4 * r < 310 by omega), bg_up h (r + 1) (by omega), bg_up h r (by omega)]
  refine ⟨c1, c2, c3, ?_⟩
  rw [cl_up h _ _ (by omega)]
  exact c4
theorem CBr_up {bf bk bd bn be bs s bf' bk' bd' bn' be' bs' t : Nat → Int32} (h : ∀ j, j < 310 → t j = s j) (h0 : bf' 0 = bf 0) (h8 : ∀ r, r < 8 → bk' r = bk r ∧ bd' r = bd r ∧ bn' r = bn r ∧ be' r = be r) (h200 : ∀ j, j < 200 → bs' j = bs j) (hB : CBr bf bk bd bn be bs s) : CBr bf' bk' bd' bn' be' bs' t := by
  obtain ⟨a, b, c⟩ := hB
  refine ⟨RG_up h a, by rw [h0, h 4 (by omega)]; exact b, fun r hr => ?_⟩
  rw [h 4 (by omega)] at hr
  have hr8 : r < 8 := by have := a.2.1; omega
  obtain ⟨c1, c2, c3, c4, c5, c6, c7⟩ := c r hr
  obtain ⟨g1, g2, g3, g4⟩ := h8 r hr8
  have ce := cb_up (s := be) (t := be') (fun j hj => (h8 j hj).2.2.2)
  have rg := a.2.2 r hr
  rw [g1, g2, g3, g4, h _ (show 78 + 4 * r < 310 by omega), h _ (show 79 + 4 * r < 310 by omega), h _ (show 80 + 4 * r < 310 by omega), ce (r + 1) (by omega), ce r (by omega), bg_up h (r + 1) (by omega), bg_up h r (by omega)]
  refine ⟨c1, c2, c3, c4, c5, c6, ?_⟩
  rw [cls_up h200 _ _ (by omega), cl_up h _ _ (by omega)]
  exact c7
theorem VR_up {f1 kd ad dl ml he ca wi bf bk bd bn be bs rt rh s f1' kd' ad' dl' ml' he' ca' wi' bf' bk' bd' bn' be' bs' rt' rh' s' : Nat → Int32} (h : VR f1 kd ad dl ml he ca wi bf bk bd bn be bs rt rh s) (hf : f1' 0 = f1 0 ∧ f1' 7 = f1 7 ∧ f1' 9 = f1 9 ∧ f1' 11 = f1 11) (h9 : ∀ k, k < 9 → kd' k = kd k ∧ ad' k = ad k ∧ dl' k = dl k ∧ ml' k = ml k ∧ he' k = he k ∧ ca' k = ca k) (hw : ∀ j, j < 7 → wi' j = wi j) (h0 : bf' 0 = bf 0) (h8 : ∀ r, r < 8 → bk' r = bk r ∧ bd' r = bd r ∧ bn' r = bn r ∧ be' r = be r) (h200 : ∀ j, j < 200 → bs' j = bs j) (h6 : ∀ r, r < 6 → rt' r = rt r ∧ rh' r = rh r) (hs : ∀ j, j < 310 → s' j = s j) : VR f1' kd' ad' dl' ml' he' ca' wi' bf' bk' bd' bn' be' bs' rt' rh' s' := by
  obtain ⟨⟨v0, vT, vW, vD, vR⟩, b, f, t, w, he0, rp0, nb⟩ := h
  have et : tn s' = tn s := by unfold tn; rw [hs 0 (by omega)]
  have n9 := v0.2
  have r8 := vR.2.1
  have r6 := rp0.2.1
  refine ⟨⟨by rw [et, hs 0 (by omega)]; exact v0, fun k hk => ?_, fun j hj => ?_, ?_, RG_up hs vR⟩, CBr_up hs h0 h8 h200 b, ⟨by rw [hf.1, hs 0 (by omega)]; exact f.1, by rw [hf.2.1, hs 2 (by omega)]; exact f.2.1, by rw [hf.2.2.1, hs 3 (by omega)]; exact f.2.2⟩, fun k hk => ?_, fun j hj => ?_, fun k hk => ?_, ?_, fun r hr => ?_⟩
  · rw [et] at hk
    rw [hs _ (show 12 + 6 * k < 310 by omega), hs _ (show 13 + 6 * k < 310 by omega), hs _ (show 14 + 6 * k < 310 by omega), hs _ (show 15 + 6 * k < 310 by omega)]
    exact vT k hk
  · rw [hs _ (show 5 + j < 310 by omega)]; exact vW j hj
  · unfold DG; rw [hs 2 (by omega)]; exact vD
  · rw [et] at hk
    obtain ⟨o1, o2, o3, o4, _, _⟩ := h9 k (by omega)
    rw [o1, o2, o3, o4, hs _ (show 12 + 6 * k < 310 by omega), hs _ (show 13 + 6 * k < 310 by omega), hs _ (show 14 + 6 * k < 310 by omega), hs _ (show 15 + 6 * k < 310 by omega)]
    exact t k hk
  · rw [hw j hj, hs _ (show 5 + j < 310 by omega)]; exact w j hj
  · rw [et] at hk
    obtain ⟨_, _, _, _, o5, o6⟩ := h9 k (by omega)
    rw [o5, o6, hs _ (show 16 + 6 * k < 310 by omega), hs _ (show 17 + 6 * k < 310 by omega)]
    exact he0 k hk
  · obtain ⟨a, b', c, e⟩ := rp0
    refine ⟨by rw [hs 1 (by omega)]; exact a, by rw [hs 1 (by omega)]; exact b', by rw [hf.2.2.2, hs 1 (by omega)]; exact c, fun r hr => ?_⟩
    rw [hs 1 (by omega)] at hr
    have hr6 : r < 6 := by omega
    rw [(h6 r hr6).1, (h6 r hr6).2, hs _ (show 66 + 2 * r < 310 by omega), hs _ (show 67 + 2 * r < 310 by omega), et]
    exact e r hr
  · rw [hs 4 (by omega)] at hr
    rw [hs _ (show 80 + 4 * r < 310 by omega)]
    exact nb r hr

theorem s_cpVa (d : Nat) (st : zS) : RT (m_evc (d + 2) 73 [.ref 1, .ref 18] (SH, st)) none (fun st' => fr [1, 2, 3, 4, 5, 6, 7, 8, 9, 10, 11, 12, 13, 14, 15, 16] st st' ∧ (st' 1 0 = st 18 0 ∧ st' 1 7 = st 18 7 ∧ st' 1 9 = st 18 9 ∧ st' 1 11 = st 18 11) ∧ (∀ k, k < 9 → st' 2 k = st 19 k ∧ st' 3 k = st 20 k ∧ st' 4 k = st 21 k ∧ st' 5 k = st 22 k ∧ st' 6 k = st 23 k ∧ st' 7 k = st 24 k) ∧ (∀ j, j < 7 → st' 8 j = st 25 j) ∧ st' 9 0 = st 26 0 ∧ (∀ r, r < 8 → st' 10 r = st 27 r ∧ st' 11 r = st 28 r ∧ st' 12 r = st 29 r ∧ st' 13 r = st 30 r) ∧ (∀ j, j < 200 → st' 14 j = st 31 j) ∧ (∀ r, r < 6 → st' 15 r = st 32 r ∧ st' 16 r = st 33 r)) := by
  refine ⟨_, by rw [cal_aX9_copyFrom (d + 1), eaX9_copyFrom_0, cal_bX5_copyFrom d, ebX5_copyFrom_0]; simp only [m_bd, Option.toList, List.cons_append, List.nil_append]; rw [eaX9_copyFrom_140], ?_, ?_, ?_, ?_, ?_, ?_, ?_, ?_⟩
  · repeat first
      | exact fr_refl _ _
      | refine fr_up ?_ rfl
      | refine fr_cp ?_ rfl
  · refine ⟨?_, ?_, ?_, ?_⟩ <;> simp [cp_app, up_ap2]
  · intro k hk
    simp [cp_app, up_ap2, hk]
  · intro k hk
    simp [cp_app, up_ap2, hk]
  · simp [cp_app, up_ap2]
  · intro k hk
    simp [cp_app, up_ap2, hk]
  · intro k hk
    simp [cp_app, up_ap2, hk]
  · intro k hk
    simp [cp_app, up_ap2, hk]

theorem s_cpVb (d : Nat) (st : zS) : RT (m_evc (d + 2) 73 [.ref 18, .ref 1] (SH, st)) none (fun st' => fr [18, 19, 20, 21, 22, 23, 24, 25, 26, 27, 28, 29, 30, 31, 32, 33] st st' ∧ (st' 18 0 = st 1 0 ∧ st' 18 7 = st 1 7 ∧ st' 18 9 = st 1 9 ∧ st' 18 11 = st 1 11) ∧ (∀ k, k < 9 → st' 19 k = st 2 k ∧ st' 20 k = st 3 k ∧ st' 21 k = st 4 k ∧ st' 22 k = st 5 k ∧ st' 23 k = st 6 k ∧ st' 24 k = st 7 k) ∧ (∀ j, j < 7 → st' 25 j = st 8 j) ∧ st' 26 0 = st 9 0 ∧ (∀ r, r < 8 → st' 27 r = st 10 r ∧ st' 28 r = st 11 r ∧ st' 29 r = st 12 r ∧ st' 30 r = st 13 r) ∧ (∀ j, j < 200 → st' 31 j = st 14 j) ∧ (∀ r, r < 6 → st' 32 r = st 15 r ∧ st' 33 r = st 16 r)) := by
  refine ⟨_, by rw [cal_bX9_copyFrom (d + 1), ebX9_copyFrom_0, cal_aX5_copyFrom d, eaX5_copyFrom_0]; simp only [m_bd, Option.toList, List.cons_append, List.nil_append]; rw [ebX9_copyFrom_140], ?_, ?_, ?_, ?_, ?_, ?_, ?_, ?_⟩
  · repeat first
      | exact fr_refl _ _
      | refine fr_up ?_ rfl
      | refine fr_cp ?_ rfl
  · refine ⟨?_, ?_, ?_, ?_⟩ <;> simp [cp_app, up_ap2]
  · intro k hk
    simp [cp_app, up_ap2, hk]
  · intro k hk
    simp [cp_app, up_ap2, hk]
  · simp [cp_app, up_ap2]
  · intro k hk
    simp [cp_app, up_ap2, hk]
  · intro k hk
    simp [cp_app, up_ap2, hk]
  · intro k hk
    simp [cp_app, up_ap2, hk]

theorem r_keep : lw_C Rel 152 264 [] := by
  intro st hR
  obtain ⟨hn, hk, hr, hs, hsh, ht, htp⟩ := hR
  obtain ⟨a, ea, fa, g1, g2, g3, g4, g5, g6, g7⟩ := s_cpVb 2044 st
  have EX : m_evc 2047 152 [.ref 0] (SH, st) = some (some (.int 1), (SH, m_up a 0 2 1)) := by
    rw [cal_X11_keep 2046, eX11_keep_0, ea]
    simp only [m_bd, Option.toList, List.cons_append, List.nil_append]
    rw [eX11_keep_11]
  have L := lp_inv (fun j (c : zS) => m_ev none 2046 264 2 [some (.ref 85), some (.int (Int32.ofNat j))] [] (SH, c)) (fun j c => fr [87] (m_up a 0 2 1) c ∧ ∀ k, k < j → c 87 k = c 86 k) 310 ?_ 310 0 (m_up a 0 2 1) (by omega) ⟨fr_refl _ _, fun k hk => by omega⟩
  · obtain ⟨c, ec, fc, gc⟩ := L
    refine ⟨1, m_up a 0 2 1, m_up c 85 3 1, EX, ?_, ?_⟩
    · rw [cal_X12_keep 2046, eX12_keep_0]
      refine Eq.trans ec ?_
      rw [eX12_keep_2, if_neg (by decide), eX12_keep_27]
    · have F : fr [0, 18, 19, 20, 21, 22, 23, 24, 25, 26, 27, 28, 29, 30, 31, 32, 33, 85, 87] st (m_up c 85 3 1) := fr_up (fr_mono (fr_tr (fr_up (cs := [0, 18, 19, 20, 21, 22, 23, 24, 25, 26, 27, 28, 29, 30, 31, 32, 33]) (fr_mono fa (by decide)) rfl) fc) (by decide)) rfl
      have c0 : c 0 = m_up a 0 2 1 0 := fc 0 rfl
      have c85 : c 85 = st 85 := by rw [fc 85 rfl, up_ne (by decide), fa 85 rfl]
      have z0 : ∀ j, j ≠ 2 → m_up c 85 3 1 0 j = st 0 j := fun j hj => by rw [up_ne (by decide), c0, up_nj hj, fa 0 rfl]
      have z85 : ∀ j, j ≠ 3 → m_up c 85 3 1 85 j = st 85 j := fun j hj => by rw [up_nj hj, c85]
      have cc : ∀ i, 18 ≤ i → i ≤ 33 → m_up c 85 3 1 i = a i := fun i h1 h2 => by rw [up_ne (by omega), fc i (by simp; omega), up_ne (by omega)]
      refine ⟨Rnow_fr F rfl hn, ⟨?_, Or.inr ⟨?_, ?_⟩⟩, Rrows_fr F rfl (z0 8 (by decide)) (z85 15 (by decide)) hr, Rsheet_fr F rfl hs, Rshelf_fr F rfl hsh, Rtrace_fr F rfl (z85 31 (by decide)) ht, Rtape_fr F rfl ?_ (z85 17 (by decide)) htp⟩
      · rw [up_ne (by decide), up_in, c0, up_in]
      · rw [up_ne (by decide), c0, up_in]
      · rw [cc 18 (by omega) (by omega), cc 19 (by omega) (by omega), cc 20 (by omega) (by omega), cc 21 (by omega) (by omega), cc 22 (by omega) (by omega), cc 23 (by omega) (by omega), cc 24 (by omega) (by omega), cc 25 (by omega) (by omega), cc 26 (by omega) (by omega), cc 27 (by omega) (by omega), cc 28 (by omega) (by omega), cc 29 (by omega) (by omega), cc 30 (by omega) (by omega), cc 31 (by omega) (by omega), cc 32 (by omega) (by omega), cc 33 (by omega) (by omega)]
        refine VR_up hn g1 g2 g3 g4 g5 g6 g7 (fun j hj => ?_)
        rw [up_ne (by decide), gc j hj, fc 86 rfl, up_ne (by decide), fa 86 rfl]
      · rw [F 35 rfl]
  · rintro j c hj ⟨f, g⟩
    refine ⟨m_up c 87 j (c 86 j), ?_, fr_up f rfl, fun k hk => ?_⟩
    · rw [eX12_keep_2, if_pos (by rw [show (310 : Int32) = Int32.ofNat 310 from rfl, n_lt (by omega) (by omega)]; exact hj), ix_310 hj]
      simp only [m_ob, n_succ]
    · rw [up_ne (show 86 ≠ 87 by decide)]
      by_cases q : k = j
      · subst q; rw [up_in]
      · rw [up_nj q]; exact g k (by omega)
theorem r_again : lw_C Rel 153 265 [] := by
  intro st hR
  have hR0 := hR
  obtain ⟨hn, ⟨hk, hkv⟩, hr, hs, hsh, ht, htp⟩ := hR
  rcases hkv with h0 | ⟨h1, V⟩
  · refine lw_bad hR0 (r := -3) ?_ ?_
    · rw [cal_X11_again 2046, eX11_again_0, h0, if_pos rfl]
    · rw [cal_X12_again 2046, eX12_again_0, ← hk, h0, if_pos rfl]
  · obtain ⟨a, ea, fa, g1, g2, g3, g4, g5, g6, g7⟩ := s_cpVa 2044 st
    have EX : m_evc 2047 153 [.ref 0] (SH, st) = some (some (.int (a 1 0)), (SH, a)) := by
      rw [cal_X11_again 2046, eX11_again_0, h1, if_neg i_10, eX11_again_10, ea]
      simp only [m_bd, Option.toList, List.cons_append, List.nil_append]
      rw [eX11_again_21]
    have L := lp_inv (fun j (c : zS) => m_ev none 2046 265 12 [some (.ref 85), some (.int (Int32.ofNat j))] [] (SH, c)) (fun j c => fr [86] a c ∧ ∀ k, k < j → c 86 k = c 87 k) 310 ?_ 310 0 a (by omega) ⟨fr_refl _ _, fun k hk => by omega⟩
    · obtain ⟨c, ec, fc, gc⟩ := L
      have a87 : a 87 = st 87 := fa 87 rfl
      have c86 : ∀ j, j < 310 → c 86 j = st 87 j := fun j hj => by rw [gc j hj, fc 87 rfl, a87]
      refine ⟨a 1 0, a, c, EX, ?_, ?_⟩
      · rw [cal_X12_again 2046, eX12_again_0, fa 85 rfl, ← hk, h1, if_neg i_10, eX12_again_10]
        refine Eq.trans ec ?_
        rw [eX12_again_12, if_neg (by decide), eX12_again_37, c86 0 (by omega), g1.1, V.2.2.1.1]
      · have F : fr [1, 2, 3, 4, 5, 6, 7, 8, 9, 10, 11, 12, 13, 14, 15, 16, 86] st c := fr_mono (fr_tr fa fc) (by decide)
        have cc : ∀ i, 1 ≤ i → i ≤ 16 → c i = a i := fun i h1 h2 => fc i (by simp; omega)
        refine Rel_now hR0 ⟨fr_mono F (by decide), by rw [F 85 rfl], by rw [F 85 rfl], by rw [F 85 rfl], by rw [F 85 rfl]⟩ ?_
        unfold Rnow
        rw [cc 1 (by omega) (by omega), cc 2 (by omega) (by omega), cc 3 (by omega) (by omega), cc 4 (by omega) (by omega), cc 5 (by omega) (by omega), cc 6 (by omega) (by omega), cc 7 (by omega) (by omega), cc 8 (by omega) (by omega), cc 9 (by omega) (by omega), cc 10 (by omega) (by omega), cc 11 (by omega) (by omega), cc 12 (by omega) (by omega), cc 13 (by omega) (by omega), cc 14 (by omega) (by omega), cc 15 (by omega) (by omega), cc 16 (by omega) (by omega)]
        exact VR_up V g1 g2 g3 g4 g5 g6 g7 c86
    · rintro j c hj ⟨f, g⟩
      refine ⟨m_up c 86 j (c 87 j), ?_, fr_up f rfl, fun k hk => ?_⟩
      · rw [eX12_again_12, if_pos (by rw [show (310 : Int32) = Int32.ofNat 310 from rfl, n_lt (by omega) (by omega)]; exact hj), ix_310 hj]
        simp only [m_ob, n_succ]
      · rw [up_ne (show 87 ≠ 86 by decide)]
        by_cases q : k = j
        · subst q; rw [up_in]
        · rw [up_nj q]; exact g k (by omega)
