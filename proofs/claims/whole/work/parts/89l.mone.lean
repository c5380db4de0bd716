/-! THE TAPE IN THE MODEL: one, all, condition -/
theorem OUT_p {m : Option mF} {st s1 : zS} {b : Nat → Nat} {n : Nat} {x y : CS × Nat} {ok1 ok2 : CS → Nat → zS → Prop} (f : fC st s1) (g : rch b n x y) (h : OUT m s1 b n y ok1) (k : ∀ z p s, ok1 z p s → ok2 z p s) : OUT m st b n x ok2 := by
  obtain ⟨s', e, f', q⟩ := h
  refine ⟨s', e, fC_t f f', ?_⟩
  rcases q with ⟨a, w, q⟩ | ⟨z, p, a, r, q⟩
  · exact Or.inl ⟨a, w, bad_s g q⟩
  · exact Or.inr ⟨z, p, a, rch_t g r, k _ _ _ q⟩
theorem opd_2 {t : Nat × Nat} (h : t.1 = 2) : opd t < 0 := by
  have w0 : wd t = 0 := by unfold wd; rw [if_neg (by rw [h]; decide)]
  unfold opd
  rw [if_neg (by rw [h]; decide), w0]
  decide
theorem one_of {b : Nat → Nat} {n k : Nat} (hc : ∀ k', k = k' + 1 → pCOND b n k') : pONE b n k := by
  intro d st0 p0 M lf sg o W S R kd dd nm h0 hM0 hl0 h21 hok
  have hn := h0.1.2.1
  have FIN : ∀ (j p : Nat) (st s' : zS), M.length + (if j % 2 = 1 then 1 else 0) ≤ p → OU st s' b n ((2, lf, sg, o, nots j ++ W, S, R, kd, dd, nm), p) (fun y p' st' => ∃ lf' sg' A E, y = (5, lf', sg', o, nots j ++ W, S ++ A, R, kd, dd, nm) ∧ MC st' (M ++ E) ∧ E.length + p ≤ p' ∧ den (2 * k + 1) A E) → OUT (m_ev none (d + 4 * k + 9) 239 128 [some (.ref 85), some (.int (if j % 2 = 1 then 1 else 0))] [] (SH, s')) st b n ((2, lf, sg, o, nots j ++ W, S, R, kd, dd, nm), p) (oneOK k M o W S R kd dd nm (if j % 2 = 1 then 1 else 0) p) := by
    rintro j p st s' hl ⟨f, q⟩
    by_cases z : j % 2 = 1
    · simp only [if_pos z] at hl ⊢
      rw [eX12_one_128, if_neg i_10]
      rcases q with ⟨a, w, g⟩ | ⟨y, p', a, r, lf', sg', A, E, rfl, hM', hl', hd⟩
      · rw [m_wrW (d + 4 * k + 8) w]
        simp only [m_bd, Option.toList, List.cons_append, List.nil_append]
        rw [eX12_one_138]
        exact ⟨s', rfl, OU_w f w g⟩
      · have hp' := a.2.1
        have ml : (M ++ E).length = M.length + E.length := List.length_append
        obtain ⟨s2, e2, f2, a2, m2⟩ := m_wr (d + 4 * k + 8) a hM' (by omega) (-20)
        rw [e2]
        simp only [m_bd, Option.toList, List.cons_append, List.nil_append]
        rw [eX12_one_138]
        have dn := den_nots hd j
        rw [if_pos z] at dn
        refine ⟨s2, rfl, OU_o (fC_t f f2) a2 r ⟨lf', sg', A, nots j, E ++ [-20], rfl, nots_2 j, by rw [← List.append_assoc]; exact m2, ?_, dn⟩⟩
        simp only [List.length_append, List.length_cons, List.length_nil]; omega
    · simp only [if_neg z] at hl ⊢
      rw [eX12_one_128, if_pos rfl, eX12_one_138]
      rcases q with ⟨a, w, g⟩ | ⟨y, p', a, r, lf', sg', A, E, rfl, hM', hl', hd⟩
      · exact ⟨s', rfl, OU_w f w g⟩
      · have dn := den_nots hd j
        rw [if_neg z, List.append_nil] at dn
        exact ⟨s', rfl, OU_o f a r ⟨lf', sg', A, nots j, E, rfl, nots_2 j, hM', hl', dn⟩⟩
  have END : ∀ (j p : Nat) (st : zS), MA st b n p → MC st M → M.length + (if j % 2 = 1 then 1 else 0) ≤ p → st 85 21 = Int32.ofNat o → wd (tk b n (fz b n p)) ≠ 14836 → OUT (m_ev none (d + 4 * k + 9) 239 31 [some (.ref 85), some (.int (if j % 2 = 1 then 1 else 0))] [] (SH, st)) st b n ((2, lf, sg, o, nots j ++ W, S, R, kd, dd, nm), p) (oneOK k M o W S R kd dd nm (if j % 2 = 1 then 1 else 0) p) := by
    intro j p st h hM hl h21 hw
    have hp := h.2.1
    have g1 := fz_ge b n p
    have fl := fz_le (b := b) hp
    have hl0 : M.length ≤ p := by omega
    have fin := FIN j p st
    have k40 : ((if fz b n p < n then Int32.ofNat (b (fz b n p)) else -1) = 40) ↔ ((tk b n (fz b n p)).1 = 2 ∧ (tk b n (fz b n p)).2 = 40) := tk_c h.1 (c := 40) (by omega)
    have c2 : ct (tk b n (fz b n p)) (2, lf, sg, o, nots j ++ W, S, R, kd, dd, nm) = if ((tk b n (fz b n p)).1 = 2 ∧ (tk b n (fz b n p)).2 = 40) ∧ o < 3 then some (2, lf, sg, o + 1, 0 :: (nots j ++ W), S, R, kd, dd, nm) else if opd (tk b n (fz b n p)) < 0 then none else some (3, opd (tk b n (fz b n p)), sg, o, nots j ++ W, S, R, kd, dd, nm) := by
      show (if wd (tk b n (fz b n p)) = 14836 then some (2, lf, sg, o, 3 :: (nots j ++ W), S, R, kd, dd, nm) else if ((tk b n (fz b n p)).1 = 2 ∧ (tk b n (fz b n p)).2 = 40) ∧ o < 3 then some (2, lf, sg, o + 1, 0 :: (nots j ++ W), S, R, kd, dd, nm) else if opd (tk b n (fz b n p)) < 0 then none else some (3, opd (tk b n (fz b n p)), sg, o, nots j ++ W, S, R, kd, dd, nm)) = _
      rw [if_neg hw]
    generalize (if j % 2 = 1 then 1 else 0 : Int32) = x1 at fin ⊢
    generalize (if j % 2 = 1 then 1 else 0 : Nat) = cj at fin hl ⊢
    have fin := fun s' => fin s' hl
    rw [eX12_one_31, h.2.2.2.2, if_pos rfl, h.2.2.1, m_byt (d + 4 * k + 8) h.1 (by omega)]
    simp only [m_bd, Option.toList, List.cons_append, List.nil_append]
    rw [eX12_one_46]
    by_cases par : (tk b n (fz b n p)).1 = 2 ∧ (tk b n (fz b n p)).2 = 40
    · rw [if_pos (k40.mpr par), h21]
      by_cases ho : o < 3
      · obtain ⟨k', rfl⟩ : ∃ k', k = k' + 1 := ⟨k - 1, by omega⟩
        rw [if_pos ⟨par, ho⟩] at c2
        have st1 := stp_of c2
        have lt1 : fz b n p < n := tk_lt (by rw [par.1]; decide)
        have gt1 := ez_gt (b := b) hn lt1
        obtain ⟨s1, e1, a1, f1⟩ := m_need1 (d + 4 * (k' + 1) + 5) h
        rw [if_pos (by rw [show (3 : Int32) = Int32.ofNat 3 from rfl, n_lt (by omega) (by omega)]; exact ho), eX12_one_65, e1]
        simp only [m_bd, Option.toList, List.cons_append, List.nil_append]
        generalize ez b n (fz b n p) = p1 at st1 gt1 a1
        have s121 : s1 85 21 = Int32.ofNat o := by rw [f1.2 21 (by decide) (by decide) (by decide)]; exact h21
        have aC : MA (m_up s1 85 21 (Int32.ofNat (o + 1))) b n p1 := MA_e a1 (up_ne (by decide)) fun j hj => up_nj (by omega)
        have mC : MC (m_up s1 85 21 (Int32.ofNat (o + 1))) M := by
          unfold MC
          rw [up_nj (by decide), up_ne (by decide)]
          exact MC_T hM f1
        obtain ⟨s2, e2, f2, q2⟩ := hc k' rfl (d + 1) _ p1 M lf sg (o + 1) (0 :: (nots j ++ W)) S R kd dd nm aC mC (by omega) (up_in _ _ _ _) (by omega) (fun x W' e => by cases e; decide)
        rw [show d + 1 + 4 * k' + 12 = d + 4 * (k' + 1) + 9 by omega] at e2
        have f3 := fC_21 f2 s121
        have s221 : s2 85 21 = Int32.ofNat (o + 1) := by rw [fC_a f2, up_in]
        rw [eX12_one_68, s121, n_succ, e2]
        simp only [m_bd, Option.toList, List.cons_append, List.nil_append]
        rw [eX12_one_82]
        rcases q2 with ⟨a, w, q⟩ | ⟨z, p2, a2, r, lf2, sg2, A, X, E, ez2, hX, hM2, hl2, hd2, w1, w2⟩
        · have w3 : WR (m_up s2 85 21 (Int32.ofNat o)) b n a := WR_e w (up_ne (by decide)) fun j hj => up_nj (by omega)
          rw [w.2.2.2.2, if_neg i_10, s221, n_pred, eX12_one_117, eX12_one_118, m_needW (d + 4 * (k' + 1) + 8) w3]
          simp only [m_bd, Option.toList, List.cons_append, List.nil_append]
          rw [eX12_one_121]
          exact fin _ (OU_w (fC_t (fC_T f1) f3) w3 (bad_t st1 q))
        · subst ez2
          have hp2 := a2.2.1
          have g2 := fz_ge b n p2
          have fl2 := fz_le (b := b) hp2
          have a3 : MA (m_up s2 85 21 (Int32.ofNat o)) b n p2 := MA_e a2 (up_ne (by decide)) fun j hj => up_nj (by omega)
          have m3 : MC (m_up s2 85 21 (Int32.ofNat o)) (M ++ E) := by
            unfold MC
            rw [up_nj (by decide), up_ne (by decide)]
            exact hM2
          have k41 : ((if fz b n p2 < n then Int32.ofNat (b (fz b n p2)) else -1) = 41) ↔ ((tk b n (fz b n p2)).1 = 2 ∧ (tk b n (fz b n p2)).2 = 41) := tk_c a3.1 (c := 41) (by omega)
          rw [a2.2.2.2.2, if_pos rfl, s221, n_pred, a2.2.2.1, m_byt (d + 4 * (k' + 1) + 8) a3.1 (by omega)]
          simp only [m_bd, Option.toList, List.cons_append, List.nil_append]
          rw [eX12_one_108]
          have c5 : ct (tk b n (fz b n p2)) (5, lf2, sg2, o + 1, X ++ (0 :: (nots j ++ W)), S ++ A, R, kd, dd, nm) = if ((tk b n (fz b n p2)).1 = 2 ∧ (tk b n (fz b n p2)).2 = 41) ∧ 0 < o + 1 then some (5, lf2, sg2, o, nots j ++ W, S ++ A ++ X, R, kd, dd, nm) else none := by
            show (if wd (tk b n (fz b n p2)) = 498 then some (2, lf2, sg2, o + 1, 1 :: (awx 1 (X ++ (0 :: (nots j ++ W))) (S ++ A)).1, (awx 1 (X ++ (0 :: (nots j ++ W))) (S ++ A)).2, R, kd, dd, nm) else if wd (tk b n (fz b n p2)) = 1476 then some (2, lf2, sg2, o + 1, 2 :: (awx 2 (X ++ (0 :: (nots j ++ W))) (S ++ A)).1, (awx 2 (X ++ (0 :: (nots j ++ W))) (S ++ A)).2, R, kd, dd, nm) else if ((tk b n (fz b n p2)).1 = 2 ∧ (tk b n (fz b n p2)).2 = 41) ∧ 0 < o + 1 then some (5, lf2, sg2, o + 1 - 1, (awx 1 (X ++ (0 :: (nots j ++ W))) (S ++ A)).1.tail, (awx 1 (X ++ (0 :: (nots j ++ W))) (S ++ A)).2, R, kd, dd, nm) else cdeed (tk b n (fz b n p2)) lf2 sg2 (o + 1) (X ++ (0 :: (nots j ++ W))) (S ++ A) R kd nm) = _
            have nd : cdeed (tk b n (fz b n p2)) lf2 sg2 (o + 1) (X ++ (0 :: (nots j ++ W))) (S ++ A) R kd nm = none := by
              unfold cdeed
              rw [if_pos (Or.inr (Or.inl (by omega)))]
            rw [if_neg w2, if_neg w1, nd, awx_X X (0 :: (nots j ++ W)) (S ++ A) hX (fun x W' e => by cases e; decide)]
            rfl
          by_cases cls : (tk b n (fz b n p2)).1 = 2 ∧ (tk b n (fz b n p2)).2 = 41
          · rw [if_pos ⟨cls, by omega⟩] at c5
            have gt2 := ez_ge (b := b) (n := n) (a := fz b n p2)
            obtain ⟨s4, e4, a4, f4⟩ := m_need1 (d + 4 * (k' + 1) + 5) a3
            rw [if_pos (k41.mpr cls), eX12_one_118, e4]
            simp only [m_bd, Option.toList, List.cons_append, List.nil_append]
            rw [eX12_one_121]
            exact fin _ (OU_o (fC_t (fC_t (fC_T f1) f3) (fC_T f4)) a4 (rch_t (rch_s st1 r) (rch_s (stp_of c5) (rch_0 _))) ⟨lf2, sg2, A ++ X, E, by rw [List.append_assoc], MC_T m3 f4, by omega, den_m hd2 (by omega)⟩)
          · rw [if_neg (fun z => cls z.1)] at c5
            obtain ⟨s4, e4, w4, f4⟩ := m_need0 (d + 4 * (k' + 1) + 8) a3
            rw [if_neg (fun z => cls (k41.mp z)), eX12_one_117, eX12_one_118, e4]
            simp only [m_bd, Option.toList, List.cons_append, List.nil_append]
            rw [eX12_one_121]
            exact fin _ (OU_w (fC_t (fC_t (fC_T f1) f3) (fC_T f4)) w4 (bad_t st1 (bad_s r (bad_of c5 (Or.inl (show (5 : Nat) ≠ 0 by decide))))))
      · rw [if_neg (fun z => ho z.2), if_pos (opd_2 par.1)] at c2
        obtain ⟨s1, e1, w1, f1⟩ := m_need0 (d + 4 * k + 8) h
        have s121 : s1 85 21 = Int32.ofNat o := by rw [f1.2 21 (by decide) (by decide) (by decide)]; exact h21
        have w2 : WR (m_up s1 85 21 (Int32.ofNat (o + 1))) b n (fz b n p) := WR_e w1 (up_ne (by decide)) fun j hj => up_nj (by omega)
        rw [if_neg (by rw [show (3 : Int32) = Int32.ofNat 3 from rfl, n_lt (by omega) (by omega)]; exact ho), eX12_one_64, eX12_one_65, e1]
        simp only [m_bd, Option.toList, List.cons_append, List.nil_append]
        rw [eX12_one_68, s121, n_succ, condW (d + 4 * k + 8) w2]
        simp only [m_bd, Option.toList, List.cons_append, List.nil_append]
        rw [eX12_one_82, w2.2.2.2.2, if_neg i_10, up_in, n_pred, up_up, up_same s121, eX12_one_117, eX12_one_118, m_needW (d + 4 * k + 8) w1]
        simp only [m_bd, Option.toList, List.cons_append, List.nil_append]
        rw [eX12_one_121]
        exact fin _ (OU_w (fC_T f1) w1 (bad_of c2 (Or.inl (show (2 : Nat) ≠ 0 by decide))))
    · obtain ⟨s1, e1, f1, q1⟩ := m_comp (d + 4 * k + 2) h hM hl0 (lf := lf) (sg := sg) (o := o) (W := nots j ++ W) (S := S) (R := R) (kd := kd) (dd := dd) (nm := nm) hw (fun z => par z.1)
      rw [if_neg (fun z => par (k40.mp z)), eX12_one_124, e1]
      simp only [m_bd, Option.toList, List.cons_append, List.nil_append]
      refine fin _ ⟨f1, ?_⟩
      rcases q1 with q | ⟨y, p', a, r, lf', sg', A, E, z1, z2, z3, z4⟩
      · exact Or.inl q
      · exact Or.inr ⟨y, p', a, r, lf', sg', A, E, z1, z2, z3, den_m z4 (by omega)⟩
  have L : ∀ m j p (st : zS), n - p ≤ m → MA st b n p → MC st M → M.length + (if j % 2 = 1 then 1 else 0) ≤ p → st 85 21 = Int32.ofNat o → OUT (m_ev none (d + 4 * k + 9) 239 2 [some (.ref 85), some (.int (if j % 2 = 1 then 1 else 0))] [] (SH, st)) st b n ((2, lf, sg, o, nots j ++ W, S, R, kd, dd, nm), p) (oneOK k M o W S R kd dd nm (if j % 2 = 1 then 1 else 0) p) := by
    intro m
    induction m with
    | zero =>
      intro j p st hm h hM hl h21
      have g1 := fz_ge b n p
      have nw : ¬ wd (tk b n (fz b n p)) = 14836 := fun z => by
        have := wd_lt (b := b) (n := n) (a := fz b n p) (by omega)
        omega
      have k1 : (lg_cmp (Int64.ofNat (wd (tk b n (fz b n p)))) 14836 = 0) = (wd (tk b n (fz b n p)) = 14836) := l_eq (c := 14836) wd_top (by omega)
      rw [eX12_one_2, m_wordA (d + 4 * k + 5) h]
      simp only [m_bd, Option.toList, List.cons_append, List.nil_append]
      rw [eX12_one_6]
      simp only [k1]
      rw [if_neg nw]
      exact END j p st h hM hl h21 nw
    | succ m ih =>
      intro j p st hm h hM hl h21
      have hp := h.2.1
      have g1 := fz_ge b n p
      have k1 : (lg_cmp (Int64.ofNat (wd (tk b n (fz b n p)))) 14836 = 0) = (wd (tk b n (fz b n p)) = 14836) := l_eq (c := 14836) wd_top (by omega)
      rw [eX12_one_2, m_wordA (d + 4 * k + 5) h]
      simp only [m_bd, Option.toList, List.cons_append, List.nil_append]
      rw [eX12_one_6]
      simp only [k1]
      by_cases nw : wd (tk b n (fz b n p)) = 14836
      · have lt := wd_lt (b := b) (n := n) (a := fz b n p) (by omega)
        have gt := ez_gt (b := b) hn lt
        have c2 : ct (tk b n (fz b n p)) (2, lf, sg, o, nots j ++ W, S, R, kd, dd, nm) = some (2, lf, sg, o, nots (j + 1) ++ W, S, R, kd, dd, nm) := by
          show (if wd (tk b n (fz b n p)) = 14836 then some (2, lf, sg, o, 3 :: (nots j ++ W), S, R, kd, dd, nm) else if ((tk b n (fz b n p)).1 = 2 ∧ (tk b n (fz b n p)).2 = 40) ∧ o < 3 then some (2, lf, sg, o + 1, 0 :: (nots j ++ W), S, R, kd, dd, nm) else if opd (tk b n (fz b n p)) < 0 then none else some (3, opd (tk b n (fz b n p)), sg, o, nots j ++ W, S, R, kd, dd, nm)) = _
          rw [if_pos nw]; rfl
        have st1 := stp_of c2
        obtain ⟨s1, e1, a1, f1⟩ := m_need1 (d + 4 * k + 5) h
        rw [if_pos nw]
        have A : (if (if j % 2 = 1 then 1 else 0 : Int32) = 0 then m_ev none (d + 4 * k + 9) 239 22 [some (.ref 85), some (.int (if j % 2 = 1 then 1 else 0))] [.int 1] (SH, st) else m_ev none (d + 4 * k + 9) 239 21 [some (.ref 85), some (.int (if j % 2 = 1 then 1 else 0))] [] (SH, st)) = m_ev none (d + 4 * k + 9) 239 2 [some (.ref 85), some (.int (if (j + 1) % 2 = 1 then 1 else 0))] [] (SH, s1) := by
          by_cases z : j % 2 = 1
          · have z2 : ¬ (j + 1) % 2 = 1 := by omega
            simp only [if_pos z, if_neg z2]
            rw [if_neg i_10, eX12_one_21, eX12_one_22, e1]
            simp only [m_bd, Option.toList, List.cons_append, List.nil_append]
            rw [eX12_one_28]
          · have z2 : (j + 1) % 2 = 1 := by omega
            simp only [if_neg z, if_pos z2]
            rw [if_pos trivial, eX12_one_22, e1]
            simp only [m_bd, Option.toList, List.cons_append, List.nil_append]
            rw [eX12_one_28]
        rw [A]
        generalize ez b n (fz b n p) = p1 at st1 gt a1
        have hc1 : (if (j + 1) % 2 = 1 then 1 else 0 : Nat) ≤ 1 := by split <;> omega
        refine OUT_p (fC_T f1) (rch_s st1 (rch_0 _)) (ih (j + 1) p1 s1 (by omega) a1 (MC_T hM f1) (by omega) (by rw [f1.2 21 (by decide) (by decide) (by decide)]; exact h21)) ?_
        rintro z p' s ⟨lf', sg', A, X, E, z1, z2, z3, z4, z5⟩
        exact ⟨lf', sg', A, X, E, z1, z2, z3, by omega, z5⟩
      · rw [if_neg nw]
        exact END j p st h hM hl h21 nw
  have := L n 0 p0 st0 (by omega) h0 hM0 (by show M.length + 0 ≤ p0; omega) h21
  rw [cal_X12_one, eX12_one_0]
  exact this
theorem all_of {b : Nat → Nat} {n k : Nat} (h1 : pONE b n k) : pALL b n k := by
  intro d st0 p0 M lf sg o W S R kd dd nm h0 hM0 hl0 h21 hok hW
  have hn := h0.1.2.1
  have wr : ∀ (s : zS) (a : Nat), WR s b n a → m_ev none (d + 4 * k + 10) 240 4 [some (.ref 85)] [] (SH, s) = some (none, (SH, s)) := by
    intro s a w
    rw [eX12_all_4, m_wordW (d + 4 * k + 9) w]
    simp only [m_bd, Option.toList, List.cons_append, List.nil_append]
    rw [eX12_all_8, if_neg (by decide), eX12_all_33]
  have L : ∀ m (st : zS) (p : Nat) (lf sg : Int32) (A X E : List Int32), n - p ≤ m → MA st b n p → MC st (M ++ E) → E.length + p0 ≤ p → (∀ x, x ∈ X → ¬ x < 2) → den (2 * k + 2) (A ++ X) E → st 85 21 = Int32.ofNat o → OUT (m_ev none (d + 4 * k + 10) 240 4 [some (.ref 85)] [] (SH, st)) st b n ((5, lf, sg, o, X ++ W, S ++ A, R, kd, dd, nm), p) (fun y p' st' => ∃ lf' sg' A X E, y = (5, lf', sg', o, X ++ W, S ++ A, R, kd, dd, nm) ∧ (∀ x, x ∈ X → ¬ x < 2) ∧ MC st' (M ++ E) ∧ E.length + p0 ≤ p' ∧ den (2 * k + 2) (A ++ X) E ∧ wd (tk b n (fz b n p')) ≠ 1476) := by
    intro m
    induction m with
    | zero =>
      intro st p lf sg A X E hm h hM hl hX hd h21
      have g1 := fz_ge b n p
      have nw : ¬ wd (tk b n (fz b n p)) = 1476 := fun z => by
        have := wd_lt (b := b) (n := n) (a := fz b n p) (by omega)
        omega
      have k1 : (lg_cmp (Int64.ofNat (wd (tk b n (fz b n p)))) 1476 = 0) = (wd (tk b n (fz b n p)) = 1476) := l_eq (c := 1476) wd_top (by omega)
      rw [eX12_all_4, m_wordA (d + 4 * k + 6) h]
      simp only [m_bd, Option.toList, List.cons_append, List.nil_append]
      rw [eX12_all_8]
      simp only [k1]
      rw [if_neg nw, eX12_all_33]
      exact ⟨st, rfl, OU_o (fC_0 st) h (rch_0 _) ⟨lf, sg, A, X, E, rfl, hX, hM, hl, hd, nw⟩⟩
    | succ m ih =>
      intro st p lf sg A X E hm h hM hl hX hd h21
      have g1 := fz_ge b n p
      have k1 : (lg_cmp (Int64.ofNat (wd (tk b n (fz b n p)))) 1476 = 0) = (wd (tk b n (fz b n p)) = 1476) := l_eq (c := 1476) wd_top (by omega)
      rw [eX12_all_4, m_wordA (d + 4 * k + 6) h]
      simp only [m_bd, Option.toList, List.cons_append, List.nil_append]
      rw [eX12_all_8]
      simp only [k1]
      by_cases nw : wd (tk b n (fz b n p)) = 1476
      · have lt := wd_lt (b := b) (n := n) (a := fz b n p) (by omega)
        have gt := ez_gt (b := b) hn lt
        have c5 : ct (tk b n (fz b n p)) (5, lf, sg, o, X ++ W, S ++ A, R, kd, dd, nm) = some (2, lf, sg, o, 2 :: W, S ++ A ++ X, R, kd, dd, nm) := by
          show (if wd (tk b n (fz b n p)) = 498 then some (2, lf, sg, o, 1 :: (awx 1 (X ++ W) (S ++ A)).1, (awx 1 (X ++ W) (S ++ A)).2, R, kd, dd, nm) else if wd (tk b n (fz b n p)) = 1476 then some (2, lf, sg, o, 2 :: (awx 2 (X ++ W) (S ++ A)).1, (awx 2 (X ++ W) (S ++ A)).2, R, kd, dd, nm) else if ((tk b n (fz b n p)).1 = 2 ∧ (tk b n (fz b n p)).2 = 41) ∧ 0 < o then some (5, lf, sg, o - 1, (awx 1 (X ++ W) (S ++ A)).1.tail, (awx 1 (X ++ W) (S ++ A)).2, R, kd, dd, nm) else cdeed (tk b n (fz b n p)) lf sg o (X ++ W) (S ++ A) R kd nm) = _
          rw [if_neg (by omega), if_pos nw, awx_X X W (S ++ A) hX hW]
        have st1 := stp_of c5
        obtain ⟨s1, e1, a1, f1⟩ := m_need1 (d + 4 * k + 6) h
        rw [if_pos nw, e1]
        simp only [m_bd, Option.toList, List.cons_append, List.nil_append]
        generalize ez b n (fz b n p) = p1 at st1 gt a1
        have hp1 := a1.2.1
        have M1 := MC_T hM f1
        have ml : (M ++ E).length = M.length + E.length := List.length_append
        obtain ⟨s2, e2, f2, q2⟩ := h1 d s1 p1 (M ++ E) lf sg o (2 :: W) (S ++ A ++ X) R kd dd nm a1 M1 (by omega) (by rw [f1.2 21 (by decide) (by decide) (by decide)]; exact h21) hok
        have f12 := fC_t (fC_T f1) f2
        rw [eX12_all_20, e2]
        simp only [m_bd, Option.toList, List.cons_append, List.nil_append]
        rw [eX12_all_24]
        rcases q2 with ⟨a, w, q⟩ | ⟨z, p2, a2, r, lf2, sg2, A2, X2, E2, ez2, hX2, hM2, hl2, hd2⟩
        · rw [m_wrW (d + 4 * k + 9) w]
          simp only [m_bd, Option.toList, List.cons_append, List.nil_append]
          rw [eX12_all_30, wr s2 a w]
          exact ⟨s2, rfl, OU_w f12 w (bad_t st1 q)⟩
        · subst ez2
          have hp2 := a2.2.1
          have ml2 : (M ++ E ++ E2).length = M.length + E.length + E2.length := by rw [List.length_append, ml]
          obtain ⟨s3, e3, f3, a3, m3⟩ := m_wr (d + 4 * k + 9) a2 hM2 (by omega) (-21)
          rw [e3]
          simp only [m_bd, Option.toList, List.cons_append, List.nil_append]
          rw [eX12_all_30]
          have ex : X2 ++ (2 :: W) = (X2 ++ [2]) ++ W := by rw [List.append_assoc]; rfl
          have es : S ++ A ++ X ++ A2 = S ++ (A ++ X ++ A2) := by rw [List.append_assoc, List.append_assoc, List.append_assoc]
          have em : M ++ E ++ E2 ++ [-21] = M ++ (E ++ E2 ++ [-21]) := by rw [List.append_assoc, List.append_assoc, List.append_assoc]
          rw [em] at m3
          rw [ex, es] at r
          refine OUT_p (fC_t f12 f3) (rch_s st1 r) (ih s3 p2 lf2 sg2 (A ++ X ++ A2) (X2 ++ [2]) (E ++ E2 ++ [-21]) (by omega) a3 m3 ?_ ?_ ?_ ?_) (fun _ _ _ q => q)
          · simp only [List.length_append, List.length_cons, List.length_nil]; omega
          · intro x hx
            rcases List.mem_append.mp hx with hx | hx
            · exact hX2 x hx
            · rcases List.mem_cons.mp hx with rfl | hx
              · decide
              · cases hx
          · have := (den_2 (h := 2 * k + 2) hd hd2 (by omega) (by omega)).2
            rw [show A ++ X ++ A2 ++ (X2 ++ [2]) = A ++ X ++ (A2 ++ X2) ++ [2] by simp only [List.append_assoc]]
            exact this
          · rw [fC_a f3, fC_a f12]; exact h21
      · rw [if_neg nw, eX12_all_33]
        exact ⟨st, rfl, OU_o (fC_0 st) h (rch_0 _) ⟨lf, sg, A, X, E, rfl, hX, hM, hl, hd, nw⟩⟩
  obtain ⟨s1, e1, f1, q1⟩ := h1 d st0 p0 M lf sg o W S R kd dd nm h0 hM0 hl0 h21 hok
  rw [cal_X12_all, eX12_all_0, e1]
  simp only [m_bd, Option.toList, List.cons_append, List.nil_append]
  rcases q1 with ⟨a, w, q⟩ | ⟨z, p1, a1, r, lf1, sg1, A, X, E, ez1, hX, hM, hl, hd⟩
  · rw [wr s1 a w]
    exact ⟨s1, rfl, OU_w f1 w q⟩
  · subst ez1
    exact OUT_p f1 r (L n s1 p1 lf1 sg1 A X E (by omega) a1 hM hl hX (den_m hd (by omega)) (by rw [fC_a f1]; exact h21)) (fun _ _ _ q => q)
theorem cond_of {b : Nat → Nat} {n k : Nat} (h1 : pALL b n k) : pCOND b n k := by
  intro d st0 p0 M lf sg o W S R kd dd nm h0 hM0 hl0 h21 hok hW
  have hn := h0.1.2.1
  have wr : ∀ (s : zS) (a : Nat), WR s b n a → m_ev none (d + 4 * k + 11) 241 12 [some (.ref 85)] [] (SH, s) = some (none, (SH, s)) := by
    intro s a w
    rw [eX12_condition_12, m_wordW (d + 4 * k + 10) w]
    simp only [m_bd, Option.toList, List.cons_append, List.nil_append]
    rw [eX12_condition_16, if_neg (by decide), eX12_condition_41]
  have h1W : hdW 2 (1 :: W) := fun x W' e => by cases e; decide
  have L : ∀ m (st : zS) (p : Nat) (lf sg : Int32) (A X E : List Int32), n - p ≤ m → MA st b n p → MC st (M ++ E) → E.length + p0 ≤ p → (∀ x, x ∈ X → ¬ x < 1) → den (2 * k + 3) (A ++ X) E → wd (tk b n (fz b n p)) ≠ 1476 → st 85 21 = Int32.ofNat o → OUT (m_ev none (d + 4 * k + 11) 241 12 [some (.ref 85)] [] (SH, st)) st b n ((5, lf, sg, o, X ++ W, S ++ A, R, kd, dd, nm), p) (fun y p' st' => ∃ lf' sg' A X E, y = (5, lf', sg', o, X ++ W, S ++ A, R, kd, dd, nm) ∧ (∀ x, x ∈ X → ¬ x < 1) ∧ MC st' (M ++ E) ∧ E.length + p0 ≤ p' ∧ den (2 * k + 3) (A ++ X) E ∧ wd (tk b n (fz b n p')) ≠ 1476 ∧ wd (tk b n (fz b n p')) ≠ 498) := by
    intro m
    induction m with
    | zero =>
      intro st p lf sg A X E hm h hM hl hX hd hw2 h21
      have g1 := fz_ge b n p
      have nw : ¬ wd (tk b n (fz b n p)) = 498 := fun z => by
        have := wd_lt (b := b) (n := n) (a := fz b n p) (by omega)
        omega
      have k1 : (lg_cmp (Int64.ofNat (wd (tk b n (fz b n p)))) 498 = 0) = (wd (tk b n (fz b n p)) = 498) := l_eq (c := 498) wd_top (by omega)
      rw [eX12_condition_12, m_wordA (d + 4 * k + 7) h]
      simp only [m_bd, Option.toList, List.cons_append, List.nil_append]
      rw [eX12_condition_16]
      simp only [k1]
      rw [if_neg nw, eX12_condition_41]
      exact ⟨st, rfl, OU_o (fC_0 st) h (rch_0 _) ⟨lf, sg, A, X, E, rfl, hX, hM, hl, hd, hw2, nw⟩⟩
    | succ m ih =>
      intro st p lf sg A X E hm h hM hl hX hd hw2 h21
      have g1 := fz_ge b n p
      have k1 : (lg_cmp (Int64.ofNat (wd (tk b n (fz b n p)))) 498 = 0) = (wd (tk b n (fz b n p)) = 498) := l_eq (c := 498) wd_top (by omega)
      rw [eX12_condition_12, m_wordA (d + 4 * k + 7) h]
      simp only [m_bd, Option.toList, List.cons_append, List.nil_append]
      rw [eX12_condition_16]
      simp only [k1]
      by_cases nw : wd (tk b n (fz b n p)) = 498
      · have lt := wd_lt (b := b) (n := n) (a := fz b n p) (by omega)
        have gt := ez_gt (b := b) hn lt
        have c5 : ct (tk b n (fz b n p)) (5, lf, sg, o, X ++ W, S ++ A, R, kd, dd, nm) = some (2, lf, sg, o, 1 :: W, S ++ A ++ X, R, kd, dd, nm) := by
          show (if wd (tk b n (fz b n p)) = 498 then some (2, lf, sg, o, 1 :: (awx 1 (X ++ W) (S ++ A)).1, (awx 1 (X ++ W) (S ++ A)).2, R, kd, dd, nm) else if wd (tk b n (fz b n p)) = 1476 then some (2, lf, sg, o, 2 :: (awx 2 (X ++ W) (S ++ A)).1, (awx 2 (X ++ W) (S ++ A)).2, R, kd, dd, nm) else if ((tk b n (fz b n p)).1 = 2 ∧ (tk b n (fz b n p)).2 = 41) ∧ 0 < o then some (5, lf, sg, o - 1, (awx 1 (X ++ W) (S ++ A)).1.tail, (awx 1 (X ++ W) (S ++ A)).2, R, kd, dd, nm) else cdeed (tk b n (fz b n p)) lf sg o (X ++ W) (S ++ A) R kd nm) = _
          rw [if_pos nw, awx_X X W (S ++ A) hX hW]
        have st1 := stp_of c5
        obtain ⟨s1, e1, a1, f1⟩ := m_need1 (d + 4 * k + 7) h
        rw [if_pos nw, e1]
        simp only [m_bd, Option.toList, List.cons_append, List.nil_append]
        generalize ez b n (fz b n p) = p1 at st1 gt a1
        have hp1 := a1.2.1
        have M1 := MC_T hM f1
        have ml : (M ++ E).length = M.length + E.length := List.length_append
        obtain ⟨s2, e2, f2, q2⟩ := h1 d s1 p1 (M ++ E) lf sg o (1 :: W) (S ++ A ++ X) R kd dd nm a1 M1 (by omega) (by rw [f1.2 21 (by decide) (by decide) (by decide)]; exact h21) hok h1W
        have f12 := fC_t (fC_T f1) f2
        rw [eX12_condition_28, e2]
        simp only [m_bd, Option.toList, List.cons_append, List.nil_append]
        rw [eX12_condition_32]
        rcases q2 with ⟨a, w, q⟩ | ⟨z, p2, a2, r, lf2, sg2, A2, X2, E2, ez2, hX2, hM2, hl2, hd2, hw3⟩
        · rw [m_wrW (d + 4 * k + 10) w]
          simp only [m_bd, Option.toList, List.cons_append, List.nil_append]
          rw [eX12_condition_38, wr s2 a w]
          exact ⟨s2, rfl, OU_w f12 w (bad_t st1 q)⟩
        · subst ez2
          have hp2 := a2.2.1
          have ml2 : (M ++ E ++ E2).length = M.length + E.length + E2.length := by rw [List.length_append, ml]
          obtain ⟨s3, e3, f3, a3, m3⟩ := m_wr (d + 4 * k + 10) a2 hM2 (by omega) (-22)
          rw [e3]
          simp only [m_bd, Option.toList, List.cons_append, List.nil_append]
          rw [eX12_condition_38]
          have ex : X2 ++ (1 :: W) = (X2 ++ [1]) ++ W := by rw [List.append_assoc]; rfl
          have es : S ++ A ++ X ++ A2 = S ++ (A ++ X ++ A2) := by rw [List.append_assoc, List.append_assoc, List.append_assoc]
          have em : M ++ E ++ E2 ++ [-22] = M ++ (E ++ E2 ++ [-22]) := by rw [List.append_assoc, List.append_assoc, List.append_assoc]
          rw [em] at m3
          rw [ex, es] at r
          refine OUT_p (fC_t f12 f3) (rch_s st1 r) (ih s3 p2 lf2 sg2 (A ++ X ++ A2) (X2 ++ [1]) (E ++ E2 ++ [-22]) (by omega) a3 m3 ?_ ?_ ?_ hw3 ?_) (fun _ _ _ q => q)
          · simp only [List.length_append, List.length_cons, List.length_nil]; omega
          · intro x hx
            rcases List.mem_append.mp hx with hx | hx
            · have := hX2 x hx
              intro y
              rw [i_lt] at this y
              have e1 : (1 : Int32).toInt = 1 := rfl
              have e2 : (2 : Int32).toInt = 2 := rfl
              omega
            · rcases List.mem_cons.mp hx with rfl | hx
              · decide
              · cases hx
          · have := (den_2 (h := 2 * k + 3) hd hd2 (by omega) (by omega)).1
            rw [show A ++ X ++ A2 ++ (X2 ++ [1]) = A ++ X ++ (A2 ++ X2) ++ [1] by simp only [List.append_assoc]]
            exact this
          · rw [fC_a f3, fC_a f12]; exact h21
      · rw [if_neg nw, eX12_condition_41]
        exact ⟨st, rfl, OU_o (fC_0 st) h (rch_0 _) ⟨lf, sg, A, X, E, rfl, hX, hM, hl, hd, hw2, nw⟩⟩
  have hW2 : hdW 2 W := fun x W' e => by
    have := hW x W' e
    rw [i_lt] at this ⊢
    have e1 : (1 : Int32).toInt = 1 := rfl
    have e2 : (2 : Int32).toInt = 2 := rfl
    omega
  obtain ⟨s1, e1, f1, q1⟩ := h1 d st0 p0 M lf sg o W S R kd dd nm h0 hM0 hl0 h21 hok hW2
  rw [cal_X12_condition, eX12_condition_0, h0.2.2.2.2, if_pos rfl, eX12_condition_8, e1]
  simp only [m_bd, Option.toList, List.cons_append, List.nil_append]
  rcases q1 with ⟨a, w, q⟩ | ⟨z, p1, a1, r, lf1, sg1, A, X, E, ez1, hX, hM, hl, hd, hw⟩
  · rw [wr s1 a w]
    exact ⟨s1, rfl, OU_w f1 w q⟩
  · subst ez1
    refine OUT_p f1 r (L n s1 p1 lf1 sg1 A X E (by omega) a1 hM hl (fun x hx y => ?_) (den_m hd (by omega)) hw (by rw [fC_a f1]; exact h21)) (fun _ _ _ q => q)
    have := hX x hx
    rw [i_lt] at this y
    have e1 : (1 : Int32).toInt = 1 := rfl
    have e2 : (2 : Int32).toInt = 2 := rfl
    omega
theorem m_cond {b : Nat → Nat} {n : Nat} : ∀ k, pCOND b n k
  | 0 => cond_of (all_of (one_of fun k' h => by omega))
  | k + 1 => cond_of (all_of (one_of fun k' h => by
    have h : k = k' := by omega
    subst h; exact m_cond k))
