/-! CALLS: rules -/
theorem cl_dr (s : Nat → Int32) : ∀ a m i, a ≤ m → (cl s i m).drop a = cl s (i + a) (m - a)
  | 0, m, i, _ => by rw [List.drop_zero]; rfl
  | a + 1, 0, i, h => by omega
  | a + 1, m + 1, i, h => by
    show (s (110 + i) :: cl s (i + 1) m).drop (a + 1) = _
    rw [List.drop_succ_cons, cl_dr s a m (i + 1) (by omega), show i + 1 + a = i + (a + 1) by omega, show m + 1 - (a + 1) = m - a by omega]
theorem cl_tk (s : Nat → Int32) : ∀ k m i, k ≤ m → (cl s i m).take k = cl s i k
  | 0, m, i, _ => by rw [List.take_zero]; rfl
  | k + 1, 0, i, h => by omega
  | k + 1, m + 1, i, h => by
    show (s (110 + i) :: cl s (i + 1) m).take (k + 1) = s (110 + i) :: cl s (i + 1) k
    rw [List.take_succ_cons, cl_tk s k m (i + 1) (by omega)]
theorem cls_dr (s : Nat → Int32) : ∀ a m i, a ≤ m → (cls s i m).drop a = cls s (i + a) (m - a)
  | 0, m, i, _ => by rw [List.drop_zero]; rfl
  | a + 1, 0, i, h => by omega
  | a + 1, m + 1, i, h => by
    show (s i :: cls s (i + 1) m).drop (a + 1) = _
    rw [List.drop_succ_cons, cls_dr s a m (i + 1) (by omega), show i + 1 + a = i + (a + 1) by omega, show m + 1 - (a + 1) = m - a by omega]
theorem cls_tk (s : Nat → Int32) : ∀ k m i, k ≤ m → (cls s i m).take k = cls s i k
  | 0, m, i, _ => by rw [List.take_zero]; rfl
  | k + 1, 0, i, h => by omega
  | k + 1, m + 1, i, h => by
    show (s i :: cls s (i + 1) m).take (k + 1) = s i :: cls s (i + 1) k
    rw [List.take_succ_cons, cls_tk s k m (i + 1) (by omega)]
theorem cl_seg {s : Nat → Int32} {M : List Int32} {a c : Nat} (h : cl s 0 M.length = M) (h1 : a ≤ c) (h2 : c ≤ M.length) : cl s a (c - a) = seg M a c := by
  have e : seg (cl s 0 M.length) a c = cl s a (c - a) := by
    unfold seg
    rw [cl_dr s a _ 0 (by omega), cl_tk s _ _ _ (by omega), Nat.zero_add]
  rw [h] at e
  exact e.symm
theorem cls_seg {s : Nat → Int32} {M : List Int32} {a c : Nat} (h : cls s 0 M.length = M) (h1 : a ≤ c) (h2 : c ≤ M.length) : cls s a (c - a) = seg M a c := by
  have e : seg (cls s 0 M.length) a c = cls s a (c - a) := by
    unfold seg
    rw [cls_dr s a _ 0 (by omega), cls_tk s _ _ _ (by omega), Nat.zero_add]
  rw [h] at e
  exact e.symm
theorem CBr_RI {bf bk bd bn be bs s : Nat → Int32} {S M : List Int32} {R : List (Int32 × Int32 × Int32 × Nat)} (hI : RI s S M R) (hS : S.length ≤ 200) (hM : M.length ≤ 200) (hm : cl s 0 M.length = M) (h0 : bf 0 = Int32.ofNat R.length) (hs : cls bs 0 S.length = S) (hR : ∀ r k d m e, R[r]? = some (k, d, m, e) → bk r = k ∧ bd r = d ∧ bn r = m ∧ be r = Int32.ofNat e) : CBr bf bk bd bn be bs s ∧ NB s := by
  obtain ⟨h4, h8, cE, mE, c0, m0, cL, mL, g⟩ := hI
  have n4 : (s 4).toNatClampNeg = R.length := by rw [h4, n_nat (by omega)]
  have B : ∀ r, r ≤ R.length → bg s r = mE r := fun r hr => by
    cases r with
    | zero => exact m0.symm
    | succ r =>
      obtain ⟨k, d, m, _, _, _, _, g5, _, _, g8, _⟩ := g r (by omega)
      show (s (81 + 4 * r)).toNatClampNeg = _
      rw [g5, n_nat (by omega)]
  have C : ∀ r, r ≤ R.length → cb be r = cE r := fun r hr => by
    cases r with
    | zero => exact c0.symm
    | succ r =>
      obtain ⟨k, d, m, g1, _, _, _, _, _, g7, _, _⟩ := g r (by omega)
      show (be r).toNatClampNeg = _
      rw [(hR r _ _ _ _ g1).2.2.2, n_nat (by omega)]
  have T : ∀ r, r < R.length → ∀ f, ∃ K : List Bool, K.length ≤ 1 ∧ cev f (cls bs (cb be r) (cb be (r + 1) - cb be r)) [] = some K ∧ mev f (cl s (bg s r) (bg s (r + 1) - bg s r)) [] = some (K.map fun b => bZ (b = true)) := fun r hr f => by
    obtain ⟨k, d, m, _, _, _, _, _, _, g7, g8, g9⟩ := g r hr
    rw [B r (by omega), B (r + 1) hr, C r (by omega), C (r + 1) hr, cls_seg hs g7.1 g7.2, cl_seg hm g8.1 g8.2]
    rcases g9 with ⟨a, e⟩ | z
    · rw [a, e]
      exact ⟨[], Nat.zero_le 1, rfl, rfl⟩
    · obtain ⟨v, a, e⟩ := z f
      exact ⟨[v], Nat.le_refl 1, a [] (by decide), e []⟩
  refine ⟨⟨⟨by rw [n4]; exact h4, by omega, fun r hr => ?_⟩, by rw [h0, h4], fun r hr => ?_⟩, fun r hr => ?_⟩
  · rw [n4] at hr
    obtain ⟨k, d, m, _, _, _, _, g5, _, _, g8, _⟩ := g r hr
    refine ⟨?_, ?_, ?_, fun f => ?_⟩
    · rw [B (r + 1) hr]; exact g5
    · rw [B (r + 1) hr, B r (by omega)]; exact g8.1
    · rw [B (r + 1) hr]; omega
    · obtain ⟨K, k1, _, k3⟩ := T r hr f
      exact ⟨_, by rw [List.length_map]; exact k1, k3⟩
  · rw [n4] at hr
    obtain ⟨k, d, m, g1, g2, g3, g4, _, _, g7, _, _⟩ := g r hr
    obtain ⟨a1, a2, a3, a4⟩ := hR r _ _ _ _ g1
    refine ⟨a1.trans g2.symm, a2.trans g3.symm, a3.trans g4.symm, ?_, ?_, ?_, T r hr⟩
    · rw [C (r + 1) hr]; exact a4
    · rw [C (r + 1) hr, C r (by omega)]; exact g7.1
    · rw [C (r + 1) hr]; omega
  · rw [n4] at hr
    obtain ⟨k, d, m, _, _, _, g4, _, g6, _, _, _⟩ := g r hr
    rw [g4]; exact g6
theorem VR_rules {f1 kd ad dl ml he ca wi bf bk bd bn be bs rt rh s bf' bk' bd' bn' be' bs' s' : Nat → Int32} (h : VR f1 kd ad dl ml he ca wi bf bk bd bn be bs rt rh s) (hj : ∀ j, j < 78 → j ≠ 4 → s' j = s j) (hB : CBr bf' bk' bd' bn' be' bs' s') (hN : NB s') : VR f1 kd ad dl ml he ca wi bf' bk' bd' bn' be' bs' rt rh s' := by
  obtain ⟨⟨v0, vT, vW, vD, _⟩, _, f, t, w, he0, rp0, _⟩ := h
  have et : tn s' = tn s := by unfold tn; rw [hj 0 (by omega) (by omega)]
  have n9 := v0.2
  have r6 := rp0.2.1
  refine ⟨⟨by rw [et, hj 0 (by omega) (by omega)]; exact v0, fun k hk => ?_, fun j h7 => ?_, ?_, hB.1⟩, hB, ⟨by rw [hj 0 (by omega) (by omega)]; exact f.1, by rw [hj 2 (by omega) (by omega)]; exact f.2.1, by rw [hj 3 (by omega) (by omega)]; exact f.2.2⟩, fun k hk => ?_, fun j h7 => ?_, fun k hk => ?_, ?_, hN⟩
  · rw [et] at hk
    rw [hj (12 + 6 * k) (by omega) (by omega), hj (13 + 6 * k) (by omega) (by omega), hj (14 + 6 * k) (by omega) (by omega), hj (15 + 6 * k) (by omega) (by omega)]
    exact vT k hk
  · rw [hj (5 + j) (by omega) (by omega)]; exact vW j h7
  · unfold DG; rw [hj 2 (by omega) (by omega)]; exact vD
  · rw [et] at hk
    rw [hj (12 + 6 * k) (by omega) (by omega), hj (13 + 6 * k) (by omega) (by omega), hj (14 + 6 * k) (by omega) (by omega), hj (15 + 6 * k) (by omega) (by omega)]
    exact t k hk
  · rw [hj (5 + j) (by omega) (by omega)]; exact w j h7
  · rw [et] at hk
    rw [hj (16 + 6 * k) (by omega) (by omega), hj (17 + 6 * k) (by omega) (by omega)]
    exact he0 k hk
  · obtain ⟨a, b', c, e⟩ := rp0
    refine ⟨by rw [hj 1 (by omega) (by omega)]; exact a, by rw [hj 1 (by omega) (by omega)]; exact b', by rw [hj 1 (by omega) (by omega)]; exact c, fun r hr => ?_⟩
    rw [hj 1 (by omega) (by omega)] at hr
    rw [hj (66 + 2 * r) (by omega) (by omega), hj (67 + 2 * r) (by omega) (by omega), et]
    exact e r hr
theorem rn_det {b : Nat → Nat} {n : Nat} {y y' : CS × Nat} : ∀ k k' (x : CS × Nat), rn b n k x = some y → rn b n k' x = some y' → stp b n y = none → stp b n y' = none → y = y'
  | 0, 0, x, h, h', _, _ => by cases h; cases h'; rfl
  | 0, k' + 1, x, h, h', z, _ => by
    have h : some x = some y := h
    have e := Option.some.inj h
    rw [← e] at z
    have h' : (match stp b n x with
      | none => none
      | some y => rn b n k' y) = some y' := h'
    rw [z] at h'; cases h'
  | k + 1, 0, x, h, h', _, z => by
    have h' : some x = some y' := h'
    have e := Option.some.inj h'
    rw [← e] at z
    have h : (match stp b n x with
      | none => none
      | some y => rn b n k y) = some y := h
    rw [z] at h; cases h
  | k + 1, k' + 1, x, h, h', z, z' => by
    have h : (match stp b n x with
      | none => none
      | some y => rn b n k y) = some y := h
    have h' : (match stp b n x with
      | none => none
      | some y => rn b n k' y) = some y' := h'
    cases q : stp b n x with
    | none => rw [q] at h; cases h
    | some w =>
      rw [q] at h h'
      exact rn_det k k' w h h' z z'
theorem rch_det {b : Nat → Nat} {n : Nat} {x y y' : CS × Nat} (h : rch b n x y) (h' : rch b n x y') (z : stp b n y = none) (z' : stp b n y' = none) : y = y' := by
  obtain ⟨k, e⟩ := h
  obtain ⟨k', e'⟩ := h'
  exact rn_det k k' x e e' z z'
theorem bad_u {b : Nat → Nat} {n a a' : Nat} {x : CS × Nat} (h : bad b n x a) (h' : bad b n x a') : a' = a := by
  obtain ⟨y, g1, g2, g3, _⟩ := h
  obtain ⟨y', g1', g2', g3', _⟩ := h'
  have := rch_det g1 g1' g2 g2'
  subst this
  rw [← g3, ← g3']
theorem good_e {b : Nat → Nat} {n p : Nat} {x y : CS} (hn : n ≤ 200) (hL : LI 0 x) (h : rch b n (x, 0) (y, p)) (hp : n ≤ fz b n p) : stp b n (y, p) = none ∧ LI p y ∧ p ≤ n := by
  obtain ⟨k, e⟩ := h
  obtain ⟨l1, l2⟩ := rn_LI hn k x 0 (Nat.zero_le n) hL e
  exact ⟨stp_no (by rw [tk_end hp]; exact ct_end l1), l1, l2⟩
theorem Rtape_0 {st : zS} (a : st 35 0 = 0) (c : st 85 17 = 0) : Rtape st := by
  unfold Rtape
  rw [a, c]
  exact ⟨rfl, rfl, Nat.zero_le 200, fun i hi => by
    have z : (0 : Int32).toNatClampNeg = 0 := rfl
    rw [z] at hi
    omega⟩
theorem s_cpB (d : Nat) (st : zS) : RT (m_evc (d + 1) 34 [.ref 9, .ref 37] (SH, st)) none (fun st' => fr [9, 10, 11, 12, 13, 14] st st' ∧ st' 9 0 = st 37 0 ∧ (∀ r, r < 8 → st' 10 r = st 38 r ∧ st' 11 r = st 39 r ∧ st' 12 r = st 40 r ∧ st' 13 r = st 41 r) ∧ ∀ j, j < 200 → st' 14 j = st 42 j) := by
  refine ⟨_, by rw [cal_cX5_copyFrom d, ecX5_copyFrom_0], ?_, ?_, ?_, ?_⟩
  · repeat first
      | exact fr_refl _ _
      | refine fr_up ?_ rfl
      | refine fr_cp ?_ rfl
  · simp [cp_app, up_ap2]
  · intro k hk
    simp [cp_app, up_ap2, hk]
  · intro k hk
    simp [cp_app, up_ap2, hk]
theorem r_rules : lw_C Rel 92 243 [] := by
  intro st hR
  obtain ⟨h1, h2, h3, h4, h5, h6, h7⟩ := hR
  obtain ⟨t1, t2, t3, t4⟩ := h7
  generalize en : (st 35 0).toNatClampNeg = n at t2 t3 t4
  obtain ⟨b, bx⟩ : ∃ b : Nat → Nat, ∀ i, i < n → st 94 i = Int32.ofNat (b i) ∧ b i ≤ 255 ∧ (st 94 i).toInt = (b i : Int) := by
    refine ⟨fun i => (st 94 i).toNatClampNeg, fun i hi => ?_⟩
    obtain ⟨⟨a1, a2⟩, _⟩ := t4 i hi
    obtain ⟨c1, _, c3⟩ := n_of (x := st 94 i) (by rw [i_le]; exact a1)
    exact ⟨c1, by show (st 94 i).toNatClampNeg ≤ 255; omega, c3⟩
  have hT : TP st b n := ⟨t2, t3, fun i hi => by
    obtain ⟨_, c2, c3⟩ := bx i hi
    refine ⟨c2, ?_⟩
    rw [(t4 i hi).2, c3]
    by_cases q : b i < 128
    · rw [if_pos (by omega), if_pos q]
    · rw [if_neg (by omega), if_neg q]⟩
  have MPa : ∀ a : zS, a 94 = st 94 → a 85 = st 85 → MP a b n := fun a e1 e2 => ⟨by rw [e2, ← t1]; exact t2, t3, fun i hi => by rw [e1]; exact ⟨(bx i hi).1, (bx i hi).2.1⟩⟩
  have L0 : LI 0 (cs0 st) := ⟨by decide, by decide, by decide, by decide⟩
  obtain ⟨s0, _, _, _, _, _, q0⟩ := m_rrun 2021 (MPa st rfl rfl) (st 35 8) (st 35 9) 0 0 0
  rcases q0 with ⟨a, w0, g0⟩ | ⟨lf, sg, kd, dd, nm, S, R, M, p, a0, z0, r0, c0, l0, i0⟩
  · obtain ⟨han, s1, e1, k1⟩ := x_bad 2034 hT g0
    have EX : m_evc 2047 92 [.ref 0] (SH, st) = some (some (.int ((-100) - Int32.ofNat a)), (SH, m_up s1 35 0 0)) := by
      rw [cal_X11_rules 2046, eX11_rules_0, e1]
      simp only [m_bd, Option.toList, List.cons_append, List.nil_append]
      rw [eX11_rules_7, if_neg (fun z => by
        have : (Int32.ofNat a).toInt = (-1 : Int32).toInt := by rw [z]
        rw [n_int (by omega), show (-1 : Int32).toInt = -1 from rfl] at this
        omega)]
    have f1 : fr [35, 37, 38, 39, 40, 41, 42, 43] st (m_up s1 35 0 0) := fr_up k1.1 rfl
    obtain ⟨s2, e2, f2, g2, p2, o2, q2⟩ := m_rrun 2021 (MPa (m_up s1 35 0 0) (f1 94 rfl) (f1 85 rfl)) (st 35 8) (st 35 9) 0 0 0
    have w2 : WR s2 b n a := by
      rcases q2 with ⟨a', w, g⟩ | ⟨lf, sg, kd, dd, nm, S, R, M, p, a0, z0, r0, c0, l0, i0⟩
      · rw [bad_u g0 g] at w; exact w
      · exfalso
        obtain ⟨y, y1, y2, y3, y4⟩ := g0
        have := rch_det y1 r0 y2 (good_e t3 L0 r0 z0).1
        subst this
        exact y4 ⟨rfl, by rw [← y3]; exact z0⟩
    obtain ⟨s3, e3, f3, v3, u3⟩ := s_back 2045 (m_up s2 85 17 0)
    have F : fr [35, 37, 38, 39, 40, 41, 42, 43, 85, 86, 88] st s3 := fr_mono (fr_tr (fr_tr f1 (fr_up (cs := [85, 86, 88]) f2 rfl)) f3) (by decide)
    have e86 : s3 86 = st 86 := funext fun j => by
      by_cases hj : j < 310
      · rw [v3 j hj, up_ne (by decide), o2 j hj, f1 86 rfl]
      · rw [u3 j (by omega), up_ne (by decide), p2 j (by omega) (Or.inr (by omega)), f1 86 rfl]
    have F' : fr [35, 37, 38, 39, 40, 41, 42, 43, 85, 88] st s3 := fun i hi => by
      by_cases q : i = 86
      · subst q; exact e86
      · refine F i ?_
        simp at hi ⊢
        omega
    have k85 : ∀ j, j ≠ 17 → j ≠ 18 → j ≠ 19 → j ≠ 20 → j ≠ 21 → j ≠ 22 → j ≠ 23 → s3 85 j = st 85 j := fun j j1 j2 j3 j4 j5 j6 j7 => by
      rw [f3 85 rfl, up_nj j1, g2 j j2 j3 j4 j5 j6 j7, f1 85 rfl]
    refine ⟨(-100) - Int32.ofNat a, m_up s1 35 0 0, s3, EX, ?_, ?_⟩
    · refine Eq.trans e2 ?_
      rw [eX12_rules_60, w2.2.2.2.2, if_neg i_10, e3]
      simp only [m_bd, Option.toList, List.cons_append, List.nil_append]
      rw [eX12_rules_76, f3 85 rfl, up_nj (by decide), w2.2.2.1]
    · refine ⟨Rnow_fr F' rfl h1, Rkept_fr F' rfl (by rw [F' 0 rfl]) (k85 3 (by decide) (by decide) (by decide) (by decide) (by decide) (by decide) (by decide)) h2, Rrows_fr F' rfl (by rw [F' 0 rfl]) (k85 15 (by decide) (by decide) (by decide) (by decide) (by decide) (by decide) (by decide)) h3, Rsheet_fr F' rfl h4, Rshelf_fr F' rfl h5, Rtrace_fr F' rfl (k85 31 (by decide) (by decide) (by decide) (by decide) (by decide) (by decide) (by decide)) h6, Rtape_0 ?_ ?_⟩
      · rw [f3 35 rfl, up_ne (by decide), f2 35 rfl, up_in]
      · rw [f3 85 rfl, up_in]
  · obtain ⟨st0, l1, l2⟩ := good_e t3 L0 r0 z0
    obtain ⟨s1, e1, k1, x1⟩ := x_good 2034 hT r0 rfl z0
    obtain ⟨_, _, _, hC, _, _⟩ := x1
    have lS : S.length + ([] : List Int32).length ≤ p := l1.1
    simp only [List.length_nil] at lS
    have f1 : fr [35, 37, 38, 39, 40, 41, 42, 43] st (m_up s1 35 0 0) := fr_up k1.1 rfl
    obtain ⟨s2, e2, f2, b0, b8, b200⟩ := s_cpB 2045 (m_up s1 35 0 0)
    have EX : m_evc 2047 92 [.ref 0] (SH, st) = some (some (.int (Int32.ofNat R.length)), (SH, s2)) := by
      rw [cal_X11_rules 2046, eX11_rules_0, e1]
      simp only [m_bd, Option.toList, List.cons_append, List.nil_append]
      rw [eX11_rules_7, if_pos rfl, eX11_rules_26, e2]
      simp only [m_bd, Option.toList, List.cons_append, List.nil_append]
      rw [eX11_rules_43, b0, up_ne (by decide), hC.2.2.2.1]
    have f12 : fr [35, 37, 38, 39, 40, 41, 42, 43, 9, 10, 11, 12, 13, 14] st s2 := fr_tr f1 f2
    obtain ⟨s3, e3, f3, g3, p3, o3, q3⟩ := m_rrun 2021 (MPa s2 (f12 94 rfl) (f12 85 rfl)) (st 35 8) (st 35 9) 0 0 0
    rcases q3 with ⟨a, w, g⟩ | ⟨lf', sg', kd', dd', nm', S', R', M', p', a3, z3, r3, c3, l3, i3⟩
    · exfalso
      obtain ⟨y, y1, y2, y3, y4⟩ := g
      have := rch_det y1 r0 y2 st0
      subst this
      exact y4 ⟨rfl, by rw [← y3]; exact z0⟩
    · have hh := rch_det r0 r3 st0 (good_e t3 L0 r3 z3).1
      cases hh
      have R8 := i3.2.1
      have k85 : ∀ j, j ≠ 17 → j ≠ 18 → j ≠ 19 → j ≠ 20 → j ≠ 21 → j ≠ 22 → j ≠ 23 → m_up s3 85 17 0 85 j = st 85 j := fun j j1 j2 j3 j4 j5 j6 j7 => by
        rw [up_nj j1, g3 j j2 j3 j4 j5 j6 j7, f12 85 rfl]
      have F : fr [35, 37, 38, 39, 40, 41, 42, 43, 9, 10, 11, 12, 13, 14, 85, 86, 88] st (m_up s3 85 17 0) := fr_tr f12 (fr_up (cs := [85, 86, 88]) f3 rfl)
      have z86 : m_up s3 85 17 0 86 = s3 86 := up_ne (by decide)
      have CB' : CBr (m_up s3 85 17 0 9) (m_up s3 85 17 0 10) (m_up s3 85 17 0 11) (m_up s3 85 17 0 12) (m_up s3 85 17 0 13) (m_up s3 85 17 0 14) (s3 86) ∧ NB (s3 86) := by
        have cc : ∀ i, 9 ≤ i → i ≤ 14 → m_up s3 85 17 0 i = s2 i := fun i i1 i2 => by rw [up_ne (by omega), f3 i (by simp; omega)]
        rw [cc 9 (by omega) (by omega), cc 10 (by omega) (by omega), cc 11 (by omega) (by omega), cc 12 (by omega) (by omega), cc 13 (by omega) (by omega), cc 14 (by omega) (by omega)]
        refine CBr_RI i3 (by omega) (by omega) c3.2 ?_ ?_ fun r k d m e q => ?_
        · rw [b0, up_ne (by decide)]; exact hC.2.2.2.1
        · have e : cls (s2 14) 0 S.length = cls (s1 42) 0 S.length := cls_up (fun j hj => by rw [b200 j hj, up_ne (by decide)]) _ _ (by omega)
          rw [e]; exact hC.2.2.2.2.2.1
        · obtain ⟨hr, _⟩ := List.getElem?_eq_some_iff.mp q
          obtain ⟨d1, d2, d3, d4⟩ := b8 r (by omega)
          obtain ⟨c1, c2, c3, c4⟩ := hC.2.2.2.2.2.2 r k d m e q
          rw [d1, d2, d3, d4, up_ne (by decide), up_ne (by decide), up_ne (by decide), up_ne (by decide)]
          exact ⟨c1, c2, c3, c4⟩
      refine ⟨Int32.ofNat R.length, s2, m_up s3 85 17 0, EX, ?_, ?_⟩
      · refine Eq.trans e3 ?_
        rw [eX12_rules_60, a3.2.2.2.2, if_pos rfl, eX12_rules_84, z86, i3.1]
      · refine ⟨?_, Rkept_fr F rfl (by rw [F 0 rfl]) (k85 3 (by decide) (by decide) (by decide) (by decide) (by decide) (by decide) (by decide)) h2, Rrows_fr F rfl (by rw [F 0 rfl]) (k85 15 (by decide) (by decide) (by decide) (by decide) (by decide) (by decide) (by decide)) h3, Rsheet_fr F rfl h4, Rshelf_fr F rfl h5, Rtrace_fr F rfl (k85 31 (by decide) (by decide) (by decide) (by decide) (by decide) (by decide) (by decide)) h6, Rtape_0 ?_ (up_in _ _ _ _)⟩
        · unfold Rnow at h1 ⊢
          rw [z86, F 1 rfl, F 2 rfl, F 3 rfl, F 4 rfl, F 5 rfl, F 6 rfl, F 7 rfl, F 8 rfl, F 15 rfl, F 16 rfl]
          refine VR_rules h1 (fun j j1 j2 => ?_) CB'.1 CB'.2
          rw [p3 j j2 (Or.inl j1), f12 86 rfl]
        · rw [up_ne (by decide), f3 35 rfl, f2 35 rfl, up_in]
