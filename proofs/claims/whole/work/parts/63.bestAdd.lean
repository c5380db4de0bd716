/-! bestAdd, of the class and of the model -/
theorem i_sb (b : Bool) : (bZ (b = true) = 0 ∨ bZ (b = true) = 1) := bE b
theorem x_takeU (d : Nat) {st : zS} {s : Nat → Int32} (hN : CN st s) (hV : VN s) {k fm : Nat} (hk : k < tn s) (hf : fm < tn s) {t : Int32} (ht : TG t) : RT (m_evc (d + 8) 124 [.ref 0, .int (Int32.ofNat k), .int (Int32.ofNat fm), .int t] (SH, st)) (some (.int (bZ (lp (anB (bB s fm t k)) 7 0 false = true)))) (fun st' => fr [17, 44, 45, 46, 47, 48, 54, 55] st st' ∧ ∀ e, e < 7 → st' 54 e = bZ ((bB s fm t k e).isSome = true) ∧ ∀ c g, bB s fm t k e = some (c, g) → st' 55 e = g - c - ads (sd s e) k) := by
  have h9 := hV.1.2
  have L := lp_inv (fun j (a : zS × Bool) => m_ev none (d + 7) 124 6 [some (.ref 0), some (.int (Int32.ofNat k)), some (.int (Int32.ofNat fm)), some (.int t), some (.int (bZ (a.2 = true))), some (.int (Int32.ofNat j))] [] (SH, a.1)) (fun j a => fr [17, 44, 45, 46, 47, 48, 54, 55] st a.1 ∧ a.2 = lp (anB (bB s fm t k)) j 0 false ∧ ∀ e, e < j → a.1 54 e = bZ ((bB s fm t k e).isSome = true) ∧ ∀ c g, bB s fm t k e = some (c, g) → a.1 55 e = g - c - ads (sd s e) k) 7 ?_ 7 0 (st, false) (by omega) ⟨fr_refl _ _, rfl, fun e he => by omega⟩
  · obtain ⟨⟨st1, b⟩, e, f1, hb, g1⟩ := L
    have hb : b = _ := hb
    refine ⟨st1, ?_, f1, g1⟩
    rw [cal_X11_takeUnaddedOffs, eX11_takeUnaddedOffs_0]
    have e : m_ev none (d + 7) 124 6 [some (.ref 0), some (.int (Int32.ofNat k)), some (.int (Int32.ofNat fm)), some (.int t), some (.int 0), some (.int 0)] [] (SH, st) = _ := e
    rw [e]
    simp only
    rw [eX11_takeUnaddedOffs_6, if_neg (by decide), eX11_takeUnaddedOffs_99, if_pos (bE b), hb]
  · rintro j ⟨a, b⟩ hj ⟨f, hb, g⟩
    have hb : b = _ := hb
    have f : fr [17, 44, 45, 46, 47, 48, 54, 55] st a := f
    obtain ⟨st1, e1, f1, D1⟩ := ya_takeD (d + 1) a (CN_fr hN f rfl) hV hj
    obtain ⟨st2, e2, f2, D2, r2⟩ := ya_goBoth (d + 3) st1 D1 ht (fm := fm) (by rw [tn_sd]; exact hf)
    rw [tn_sd] at r2
    have r2 : rp (-9) (st2 47) (st2 48) (bth (sd s j) fm t) (tn s) := r2
    have hbb : fb (bth (sd s j) fm t) (tn s) := by
      have := fb_bth (VN_sd hV hj) (fm := fm) (by rw [tn_sd]; exact hf) ht
      rw [tn_sd] at this; exact this
    have f12 : fr [17, 44, 45, 46, 47, 48] a st2 := fr_mono (fr_tr f1 f2) (by decide)
    have hads : st2 45 k = ads (sd s j) k := (D2.2.2.2.2 k (by rw [tn_sd]; exact hk)).1
    refine ⟨(m_up (m_up st2 54 j (bZ ((bB s fm t k j).isSome = true))) 55 j (st2 48 k - st2 47 k - ads (sd s j) k), anB (bB s fm t k) j b), ?_, fr_up (fr_up (fr_mono (fr_tr f f12) (by decide)) rfl) rfl, ?_, ?_⟩
    · simp only
      rw [eX11_takeUnaddedOffs_6, if_pos (by rw [show (7 : Int32) = Int32.ofNat 7 from rfl, n_lt (by omega) (by omega)]; exact hj), e1]
      simp only [m_bd, Option.toList, List.cons_append, List.nil_append]
      rw [eX11_takeUnaddedOffs_22, e2]
      simp only [m_bd, Option.toList, List.cons_append, List.nil_append]
      rw [eX11_takeUnaddedOffs_31, ya_rch _ st2 r2 hbb hk h9]
      simp only [m_bd, Option.toList, List.cons_append, List.nil_append]
      rw [eX11_takeUnaddedOffs_45, ix_7 hj]
      simp only [m_ob]
      rw [nar_b, cal_X0_offOf, eX0_offOf_0, ix_9 (show k < 9 by omega)]
      simp only [m_ob, m_bd, Option.toList, List.cons_append, List.nil_append]
      rw [eX11_takeUnaddedOffs_60, ix_9 (show k < 9 by omega), ix_7 hj]
      simp only [m_ob]
      have q48 : m_up st2 54 j (bZ ((bth (sd s j) fm t k).isSome = true)) 48 = st2 48 := up_ne (by decide)
      have q47 : m_up st2 54 j (bZ ((bth (sd s j) fm t k).isSome = true)) 47 = st2 47 := up_ne (by decide)
      have q45 : m_up st2 54 j (bZ ((bth (sd s j) fm t k).isSome = true)) 45 = st2 45 := up_ne (by decide)
      have q54 : m_up st2 54 j (bZ ((bth (sd s j) fm t k).isSome = true)) 54 j = bZ ((bth (sd s j) fm t k).isSome = true) := up_in _ _ _ _
      rw [q48, q47, q45, q54, hads]
      unfold anB bB
      cases b with
      | true =>
        rw [if_neg (by rw [bZ_t rfl]; exact i_10), eX11_takeUnaddedOffs_86, eX11_takeUnaddedOffs_91, n_succ]
        rfl
      | false =>
        rw [if_pos (bZ_f (by decide))]
        cases hs : (bth (sd s j) fm t k).isSome with
        | true => rw [if_neg (by rw [bZ_t rfl]; exact i_10), eX11_takeUnaddedOffs_86, eX11_takeUnaddedOffs_91, n_succ]; rfl
        | false => rw [if_pos (bZ_f (by decide)), eX11_takeUnaddedOffs_90, eX11_takeUnaddedOffs_91, n_succ]; rfl
    · show anB (bB s fm t k) j b = _
      rw [lp_last, Nat.zero_add, ← hb]
    · intro e he
      show m_up (m_up st2 54 j (bZ ((bB s fm t k j).isSome = true))) 55 j (st2 48 k - st2 47 k - ads (sd s j) k) 54 e = _ ∧ ∀ c g, _ → m_up (m_up st2 54 j (bZ ((bB s fm t k j).isSome = true))) 55 j (st2 48 k - st2 47 k - ads (sd s j) k) 55 e = _
      rw [up_ne (show 54 ≠ 55 by decide)]
      by_cases q : e = j
      · subst q
        rw [up_in, up_in]
        refine ⟨rfl, fun c g z => ?_⟩
        obtain ⟨w1, w2⟩ := rp_at r2 hk z
        rw [w1, w2]
      · rw [up_nj q, up_nj q, up_ne (show 55 ≠ 54 by decide), f12 54 rfl, f12 55 rfl]
        exact g e (by omega)
theorem x_farD (d : Nat) {st : zS} {s : Nat → Int32} (hN : CN st s) (hV : VN s) {k : Nat} (hk : k < tn s) {D : Nat → cH} (h54 : ∀ e, e < 7 → st 54 e = bZ ((D e).isSome = true)) (h55 : ∀ e, e < 7 → ∀ c g, D e = some (c, g) → st 55 e + ads (sd s e) k = g - c) : RT (m_evc (d + 6) 125 [.ref 0, .int (Int32.ofNat k)] (SH, st)) (some (.int (lp (faX D) 7 0 0))) (fr [17] st) := by
  have h9 := hV.1.2
  have L := lp_inv (fun j (a : zS × (Int32 × Option Value)) => m_ev none (d + 5) 125 4 [some (.ref 0), some (.int (Int32.ofNat k)), some (.int a.2.1), some (.int (Int32.ofNat j)), a.2.2] [] (SH, a.1)) (fun j a => fr [17] st a.1 ∧ a.2.1 = lp (faX D) j 0 0) 7 ?_ 7 0 (st, (0, none)) (by omega) ⟨fr_refl _ _, rfl⟩
  · obtain ⟨⟨st1, w, x4⟩, e, f1, hw⟩ := L
    have hw : w = _ := hw
    refine ⟨st1, ?_, f1⟩
    rw [cal_X11_farthestOverDays, eX11_farthestOverDays_0]
    refine Eq.trans e ?_
    simp only
    rw [eX11_farthestOverDays_4, if_neg (by decide), eX11_farthestOverDays_62, hw]
  · rintro j ⟨a, w, x4⟩ hj ⟨f, hw⟩
    have hw : w = _ := hw
    have f : fr [17] st a := f
    have hNa := CN_fr hN f rfl
    have e54 : a 54 j = bZ ((D j).isSome = true) := by rw [f 54 rfl]; exact h54 j hj
    have hnext : faX D j w = lp (faX D) (j + 1) 0 0 := by rw [lp_last, Nat.zero_add, ← hw]
    cases e : D j with
    | none =>
      refine ⟨(a, (faX D j w, x4)), ?_, f, hnext⟩
      have : faX D j w = w := by unfold faX; rw [e]
      rw [this]
      simp only
      rw [eX11_farthestOverDays_4, if_pos (by rw [show (7 : Int32) = Int32.ofNat 7 from rfl, n_lt (by omega) (by omega)]; exact hj), ix_7 hj]
      simp only [m_ob]
      rw [e54, e, if_pos (bZ_f iN), eX11_farthestOverDays_56, n_succ]
    | some ch =>
      obtain ⟨c, g⟩ := ch
      have h5 := h55 j hj c g e
      obtain ⟨st1, e1, f1⟩ := s_ruleFor (d + 1) a hNa hk hj
      have ho : ∀ q, rof (sd s j) k = some q → q < (s 4).toNatClampNeg := by
        intro q hq
        have := rof_lt hq
        rw [sd_ne (show 4 ≠ 2 by omega)] at this
        exact this
      refine ⟨(st1, (faX D j w, some (.int (ads (sd s j) k)))), ?_, fr_mono (fr_tr f f1) (by decide), hnext⟩
      simp only
      rw [eX11_farthestOverDays_4, if_pos (by rw [show (7 : Int32) = Int32.ofNat 7 from rfl, n_lt (by omega) (by omega)]; exact hj), ix_7 hj]
      simp only [m_ob]
      rw [e54, e, if_neg (by rw [bZ_t iS]; exact i_10), e1]
      simp only [m_bd, Option.toList, List.cons_append, List.nil_append]
      rw [eX11_farthestOverDays_32, s_addedBy (d + 3) st1 (CN_fr hNa f1 rfl) hk hj ho]
      simp only [m_bd, Option.toList, List.cons_append, List.nil_append]
      rw [eX11_farthestOverDays_37, ix_7 hj]
      simp only [m_ob]
      have e55 : st1 55 j + aw (sd s j) k (ab (sd s j) k (rof (sd s j) k)) = g - c := by rw [f1 55 rfl, f 55 rfl]; exact h5
      rw [e55, ab1_X, eX11_farthestOverDays_56, n_succ]
      unfold faX
      rw [e]
      rfl
theorem x_bestAdd (d : Nat) {st : zS} (hR : Rel st) (x1 x2 x3 : Int32) : RT (m_evc (d + 9) 101 [.ref 0, .int x1, .int x2, .int x3] (SH, st)) (some (.int (a_bestAdd x1 x2 x3 (st 86)))) (scr st) := by
  obtain ⟨hN, hV, h7, e0⟩ := Rel_x hR
  have h9 := hV.1.2
  unfold a_bestAdd
  rw [cal_X11_bestAdd, eX11_bestAdd_0, s_isTowX _ st e0 hV.1]
  simp only [m_bd, Option.toList, List.cons_append, List.nil_append]
  rw [eX11_bestAdd_8, bZ_if]
  by_cases h1 : gT (st 86) x1
  · rw [if_pos h1, s_isCry _ st e0 hV.1]
    simp only [m_bd, Option.toList, List.cons_append, List.nil_append]
    rw [eX11_bestAdd_17, bZ_if]
    by_cases h2 : gT (st 86) x2 ∧ TG x3
    · rw [if_pos h2]
      by_cases h4 : x1 = x2
      · rw [if_pos h4, if_neg (fun z => z.2 h4), eX11_bestAdd_25]
        exact ⟨st, rfl, scr_refl st⟩
      rw [if_neg h4, if_pos ⟨⟨h2.1, h2.2, h1⟩, h4⟩]
      obtain ⟨k, hk, rfl⟩ := gT_e h1
      obtain ⟨fm, hf, rfl⟩ := gT_e h2.1
      have hkf : k ≠ fm := fun z => h4 (by rw [z])
      obtain ⟨st1, e1, f1, g1⟩ := x_takeU d hN hV hk hf h2.2
      rw [eX11_bestAdd_27, ix_9 (show k < 9 by omega), n_nat (show k < 2147483648 by omega), n_nat (show fm < 2147483648 by omega)]
      simp only [m_ob]
      rw [e1]
      simp only [m_bd, Option.toList, List.cons_append, List.nil_append]
      rw [eX11_bestAdd_52, bZ_if]
      -- the end: what he added stands again
      have fin : ∀ (b : zS) (w : Int32) (x6 : Int32) (x7 x8 : Option Value), fr [3, 17, 44, 45, 46, 47, 48, 54, 55] st b → (∀ i, i ≠ k → b 3 i = st 3 i) → RT (m_ev none (d + 8) 101 111 [some (.ref 0), some (.int (Int32.ofNat k)), some (.int (Int32.ofNat fm)), some (.int x3), some (.int (st 3 k)), some (.int w), some (.int x6), x7, x8] [] (SH, b)) (some (.int w)) (scr st) := by
        intro b w x6 x7 x8 f g
        have row : m_up b 3 k (st 3 k) 3 = st 3 := by
          funext i
          rw [up_app]
          by_cases q : i = k
          · rw [if_pos q, q]
          · rw [if_neg q]; exact g i q
        refine ⟨m_up b 3 k (st 3 k), ?_, scr_fr (fr_drop (i := 3) (fr_up f rfl) row) rfl⟩
        rw [eX11_bestAdd_111, ix_9 (show k < 9 by omega)]
        simp only [m_ob]
      by_cases hany : lp (anB (bB (st 86) fm x3 k)) 7 0 false = true
      · rw [if_pos hany, if_pos hany]
        have L := lp_inv (fun j (a : zS × ((Int32 × Int32) × Option Value)) => m_ev none (d + 8) 101 58 [some (.ref 0), some (.int (Int32.ofNat k)), some (.int (Int32.ofNat fm)), some (.int x3), some (.int (st 3 k)), some (.int a.2.1.1), some (.int a.2.1.2), some (.int (Int32.ofNat j)), a.2.2] [] (SH, a.1)) (fun j a => (fr [3, 17, 44, 45, 46, 47, 48, 54, 55] st a.1 ∧ (∀ i, i ≠ k → a.1 3 i = st 3 i) ∧ a.1 54 = st1 54 ∧ a.1 55 = st1 55) ∧ a.2.1 = lp (bX (fun v => lp (faX (bD (st 86) fm x3 k v)) 7 0 0)) j 0 (-3, 0)) 100 ?_ 100 0 (st1, ((-3, 0), none)) (by omega) ⟨⟨fr_mono f1 (by decide), fun i _ => by show st1 3 i = st 3 i; rw [f1 3 rfl], rfl, rfl⟩, rfl⟩
        · obtain ⟨⟨b, w, x8⟩, e, ⟨f, g, _, _⟩, hw⟩ := L
          have hw : w = _ := hw
          have e58 : m_ev none (d + 8) 101 58 [some (.ref 0), some (.int (Int32.ofNat k)), some (.int (Int32.ofNat fm)), some (.int x3), some (.int (st 3 k)), some (.int (-3)), some (.int 0), some (.int 0), none] [] (SH, st1) = _ := e
          rw [eX11_bestAdd_58] at e
          simp only at e
          rw [e58, ← hw]
          simp only
          rw [eX11_bestAdd_58, if_pos (by decide)]
          exact fin b w.1 w.2 _ _ f g
        · rintro j ⟨a, w, x8⟩ hj ⟨⟨f, g, g54, g55⟩, hw⟩
          have hw : w = _ := hw
          have f : fr [3, 17, 44, 45, 46, 47, 48, 54, 55] st a := f
          have g : ∀ i, i ≠ k → a 3 i = st 3 i := g
          have g54 : a 54 = st1 54 := g54
          have g55 : a 55 = st1 55 := g55
          have hv : 0 ≤ (Int32.ofNat j).toInt ∧ (Int32.ofNat j).toInt ≤ 99 := by rw [n_int (by omega)]; omega
          have hVj := VN_add hV k hv (show k < 9 by omega)
          have ht : tn (chg (st 86) (13 + 6 * k) (Int32.ofNat j)) = tn (st 86) := tn_chg (by omega) _
          have hC : CN (m_up a 3 k (Int32.ofNat j)) (chg (st 86) (13 + 6 * k) (Int32.ofNat j)) := by
            refine CN_mk hN hVj (fun i h1 h2 => ?_) (by rw [up_ne (by decide), f 1 rfl]) (chg_ne (by omega)) (chg_ne (by omega)) (fun j hj => (chg_ne (by omega)).symm) (fun i hi => ?_) (fun i hi => ?_)
            · rw [up_ne (by omega)]
              exact fr_of f (fun c => Nat.ble 9 c && Nat.ble c 14) rfl i (by simp; omega)
            · obtain ⟨p1, p2, p3, p4⟩ := hN.2.2.2.1 i hi
              rw [up_ne (show 2 ≠ 3 by decide), up_ne (show 4 ≠ 3 by decide), up_ne (show 5 ≠ 3 by decide), f 2 rfl, f 4 rfl, f 5 rfl, chg_ne (show 12 + 6 * i ≠ 13 + 6 * k by omega), chg_ne (show 14 + 6 * i ≠ 13 + 6 * k by omega), chg_ne (show 15 + 6 * i ≠ 13 + 6 * k by omega)]
              refine ⟨p1, ?_, p3, p4⟩
              by_cases q : i = k
              · subst q; rw [chg_at, up_in]
              · rw [chg_ne (by omega), up_nj q, g i q]; exact p2
            · rw [up_ne (by decide), f 8 rfl, chg_ne (by omega)]; exact hN.2.2.2.2.1 i hi
          have hk' : k < tn (chg (st 86) (13 + 6 * k) (Int32.ofNat j)) := by rw [ht]; exact hk
          obtain ⟨st2, e2, f2⟩ := x_farD (d + 2) hC hVj hk' (D := bD (st 86) fm x3 k j) (fun e he => by
            obtain ⟨o, o1, o2⟩ := bBD (s := st 86) (v := j) (show k < 9 by omega) he hkf x3
            rw [up_ne (by decide), g54, (g1 e he).1, o1, o2, addo_s, addo_s]) (fun e he c gg z => by
            obtain ⟨o, o1, o2⟩ := bBD (s := st 86) (v := j) (show k < 9 by omega) he hkf x3
            rw [o2] at z
            cases o with
            | none => cases z
            | some ch =>
              simp only [addo, Option.some.injEq, Prod.mk.injEq] at z
              rw [up_ne (by decide), g55, (g1 e he).2 ch.1 (ch.2 + ads (sd (st 86) e) k) o1, ← z.1, ← z.2]
              exact i_ring _ _ _ _)
          have hnext : bX (fun v => lp (faX (bD (st 86) fm x3 k v)) 7 0 0) j w = lp (bX (fun v => lp (faX (bD (st 86) fm x3 k v)) 7 0 0)) (j + 1) 0 (-3, 0) := by rw [lp_last, Nat.zero_add, ← hw]
          refine ⟨(st2, (bX (fun v => lp (faX (bD (st 86) fm x3 k v)) 7 0 0) j w, some (.int (lp (faX (bD (st 86) fm x3 k j)) 7 0 0)))), ?_, ⟨fr_mono (fr_tr (fr_up f rfl) f2) (by decide), fun i hi => ?_, ?_, ?_⟩, hnext⟩
          · simp only
            rw [eX11_bestAdd_58, if_neg (by rw [show (99 : Int32) = Int32.ofNat 99 from rfl, n_lt (by omega) (by omega)]; omega), ix_9 (show k < 9 by omega)]
            simp only [m_ob]
            rw [e2]
            simp only [m_bd, Option.toList, List.cons_append, List.nil_append]
            rw [eX11_bestAdd_81]
            unfold bX
            by_cases q1 : w.1 = -3
            · rw [if_pos q1, eX11_bestAdd_97, eX11_bestAdd_105, n_succ]
              simp only [if_pos (show w.1 = -3 ∨ lp (faX (bD (st 86) fm x3 k j)) 7 0 0 < w.2 from Or.inl q1)]
            · rw [if_neg q1]
              by_cases q2 : lp (faX (bD (st 86) fm x3 k j)) 7 0 0 < w.2
              · rw [if_pos q2, eX11_bestAdd_97, eX11_bestAdd_105, n_succ]
                simp only [if_pos (show w.1 = -3 ∨ lp (faX (bD (st 86) fm x3 k j)) 7 0 0 < w.2 from Or.inr q2)]
              · rw [if_neg q2, eX11_bestAdd_105, n_succ]
                simp only [if_neg (show ¬ (w.1 = -3 ∨ lp (faX (bD (st 86) fm x3 k j)) 7 0 0 < w.2) from fun z => z.elim q1 q2)]
          · show st2 3 i = st 3 i
            rw [f2 3 rfl, up_nj hi]; exact g i hi
          · show st2 54 = st1 54
            rw [f2 54 rfl, up_ne (by decide)]; exact g54
          · show st2 55 = st1 55
            rw [f2 55 rfl, up_ne (by decide)]; exact g55
      · rw [if_neg hany, if_neg hany]
        exact fin st1 _ _ _ _ (fr_mono f1 (by decide)) (fun i _ => by rw [f1 3 rfl])
    · rw [if_neg h2, if_neg (fun z => h2 ⟨z.1.1, z.1.2.1⟩), eX11_bestAdd_25]
      exact ⟨st, rfl, scr_refl st⟩
  · rw [if_neg h1, if_neg (fun z => h1 z.1.2.2), eX11_bestAdd_25]
    exact ⟨st, rfl, scr_refl st⟩
theorem m_far (d : Nat) {st : zS} (hV : VN (st 86)) {k fm : Nat} (hk : k < tn (st 86)) (hf : fm < tn (st 86)) {t : Int32} (ht : TG t) : RT (m_evc (d + 8) 193 [.ref 85, .int (Int32.ofNat k), .int (Int32.ofNat fm), .int t] (SH, st)) (some (.int (lp (faM (fun d => bth (sd (st 86) d) fm t k)) 7 0 (-1)))) (fun st' => fM6 st st' ∧ st' 86 = st 86) := by
  have h9 := hV.1.2
  have L := lp_inv (fun j (a : zS × (Int32 × Option Value)) => m_ev none (d + 7) 193 14 [some (.ref 85), some (.int (Int32.ofNat k)), some (.int (Int32.ofNat fm)), some (.int t), some (.int (st 86 2)), some (.int a.2.1), some (.int (Int32.ofNat j)), a.2.2] [] (SH, a.1)) (fun j a => (fM6 st a.1 ∧ ∀ i, i ≠ 2 → a.1 86 i = st 86 i) ∧ a.2.1 = lp (faM (fun d => bth (sd (st 86) d) fm t k)) j 0 (-1)) 7 ?_ 7 0 (st, (-1, none)) (by omega) ⟨⟨fM6_refl _, fun _ _ => rfl⟩, rfl⟩
  · obtain ⟨⟨st1, w, x7⟩, e, ⟨f1, g1⟩, hw⟩ := L
    have hw : w = _ := hw
    have f1 : fM6 st st1 := f1
    have e86 : m_up st1 86 2 (st 86 2) 86 = st 86 := by
      funext i
      rw [up_app]
      by_cases q : i = 2
      · rw [if_pos q, q]
      · rw [if_neg q]; exact g1 i q
    refine ⟨m_up st1 86 2 (st 86 2), ?_, fM6_up f1 _ _, e86⟩
    rw [cal_X12_farthest, eX12_farthest_0]
    refine Eq.trans e ?_
    simp only
    rw [eX12_farthest_14, if_neg (by decide), eX12_farthest_80, hw]
  · rintro j ⟨a, w, x7⟩ hj ⟨⟨f, g⟩, hw⟩
    have hw : w = _ := hw
    have f : fM6 st a := f
    have g : ∀ i, i ≠ 2 → a 86 i = st 86 i := g
    have es := sd_up g j
    obtain ⟨st2, e2, f2, r2⟩ := s_both d (st := m_up a 86 2 (Int32.ofNat j)) (by rw [es]; exact VN_sd hV hj) (t := t) (fm := fm) (by rw [es, tn_sd]; exact hf)
    rw [es, tn_sd] at r2
    have r2 : rp (-1) (st2 90) (st2 91) (bth (sd (st 86) j) fm t) (tn (st 86)) := r2
    have hb : fb (bth (sd (st 86) j) fm t) (tn (st 86)) := by
      have := fb_bth (VN_sd hV hj) (fm := fm) (by rw [tn_sd]; exact hf) ht
      rw [tn_sd] at this; exact this
    have q := rp_neg r2 hb hk
    have inv2 : fM6 st st2 ∧ ∀ i, i ≠ 2 → st2 86 i = st 86 i := ⟨fM6_tr (fM6_up f _ _) f2, fun i hi => by rw [f2.1 86 rfl, es, sd_ne hi]⟩
    have hnext : faM (fun d => bth (sd (st 86) d) fm t k) j w = lp (faM (fun d => bth (sd (st 86) d) fm t k)) (j + 1) 0 (-1) := by rw [lp_last, Nat.zero_add, ← hw]
    have fin : ∀ far : Int32, far = dsO (bth (sd (st 86) j) fm t k) → m_ev none (d + 7) 193 56 [some (.ref 85), some (.int (Int32.ofNat k)), some (.int (Int32.ofNat fm)), some (.int t), some (.int (st 86 2)), some (.int w), some (.int (Int32.ofNat j)), x7] [.int far] (SH, st2) = m_ev none (d + 7) 193 14 [some (.ref 85), some (.int (Int32.ofNat k)), some (.int (Int32.ofNat fm)), some (.int t), some (.int (st 86 2)), some (.int (faM (fun d => bth (sd (st 86) d) fm t k) j w)), some (.int (Int32.ofNat (j + 1))), some (.int far)] [] (SH, st2) := by
      intro far hfar
      rw [eX12_farthest_56]
      unfold faM
      simp only
      rw [← hfar]
      by_cases z : w < far
      · rw [if_pos z, if_pos z, eX12_farthest_72, n_succ]
      · rw [if_neg z, if_neg z, eX12_farthest_70, eX12_farthest_72, n_succ]
    cases e : bth (sd (st 86) j) fm t k with
    | none =>
      refine ⟨(st2, (faM (fun d => bth (sd (st 86) d) fm t k) j w, some (.int (-1)))), ?_, inv2, hnext⟩
      simp only
      rw [eX12_farthest_14, if_pos (by rw [show (7 : Int32) = Int32.ofNat 7 from rfl, n_lt (by omega) (by omega)]; exact hj), e2]
      simp only [m_bd, Option.toList, List.cons_append, List.nil_append]
      rw [eX12_farthest_35, ix_9 (show k < 9 by omega)]
      simp only [m_ob]
      rw [if_pos (q.mpr e)]
      exact fin _ (by rw [e]; rfl)
    | some ch =>
      refine ⟨(st2, (faM (fun d => bth (sd (st 86) d) fm t k) j w, some (.int (ab1 (ch.2 - ch.1))))), ?_, inv2, hnext⟩
      simp only
      rw [eX12_farthest_14, if_pos (by rw [show (7 : Int32) = Int32.ofNat 7 from rfl, n_lt (by omega) (by omega)]; exact hj), e2]
      simp only [m_bd, Option.toList, List.cons_append, List.nil_append]
      rw [eX12_farthest_35, ix_9 (show k < 9 by omega)]
      simp only [m_ob]
      obtain ⟨c, g⟩ := ch
      rw [if_neg (fun z => by rw [q.mp z] at e; cases e), eX12_farthest_48, m_off _ st2 r2 hk h9 e]
      simp only [m_bd, Option.toList, List.cons_append, List.nil_append]
      rw [eX12_farthest_53, m_size]
      simp only [m_bd, Option.toList, List.cons_append, List.nil_append]
      exact fin _ (by rw [e]; rfl)
theorem mc_bestAdd (d : Nat) {st : zS} (hR : Rel st) (x1 x2 x3 : Int32) : RT (m_evc (d + 9) 194 [.ref 85, .int x1, .int x2, .int x3] (SH, st)) (some (.int (a_bestAdd x1 x2 x3 (st 86)))) (scr st) := by
  obtain ⟨hN, hV, h7, e0⟩ := Rel_x hR
  have hB : NB (st 86) := hR.1.2.2.2.2.2.2.2
  have h9 := hV.1.2
  unfold a_bestAdd
  rw [cal_X12_bestAdd, eX12_bestAdd_0, s_isAsk _ st hV]
  simp only [m_bd, Option.toList, List.cons_append, List.nil_append]
  rw [eX12_bestAdd_7, bZ_if]
  by_cases h : gT (st 86) x2 ∧ TG x3 ∧ gT (st 86) x1
  · rw [if_pos h]
    by_cases h4 : x1 = x2
    · rw [if_pos h4, if_neg (fun z => z.2 h4), eX12_bestAdd_15]
      exact ⟨st, rfl, scr_refl st⟩
    rw [if_neg h4, if_pos ⟨h, h4⟩]
    obtain ⟨k, hk, rfl⟩ := gT_e h.2.2
    obtain ⟨fm, hf, rfl⟩ := gT_e h.1
    have hkf : k ≠ fm := fun z => h4 (by rw [z])
    rw [eX12_bestAdd_17, s_its1 _ _ (show k < 9 by omega), n_nat (show k < 2147483648 by omega), n_nat (show fm < 2147483648 by omega)]
    simp only [m_bd, Option.toList, List.cons_append, List.nil_append]
    rw [eX12_bestAdd_23]
    have L := lp_inv (fun j (a : zS × ((Int32 × Int32) × Option Value)) => m_ev none (d + 8) 194 34 [some (.ref 85), some (.int (Int32.ofNat k)), some (.int (Int32.ofNat fm)), some (.int x3), some (.int (st 86 (13 + 6 * k))), some (.int a.2.1.1), some (.int a.2.1.2), some (.int (Int32.ofNat j)), a.2.2] [] (SH, a.1)) (fun j a => (fM6 st a.1 ∧ ∀ i, i ≠ 13 + 6 * k → a.1 86 i = st 86 i) ∧ a.2.1 = lp (bM (fun v => lp (faM (bD (st 86) fm x3 k v)) 7 0 (-1))) j 0 (-1, 0)) 100 ?_ 100 0 (st, ((-1, 0), none)) (by omega) ⟨⟨fM6_refl _, fun _ _ => rfl⟩, rfl⟩
    · obtain ⟨⟨st1, w, x8⟩, e, ⟨f1, g1⟩, hw⟩ := L
      have hw : w = _ := hw
      have f1 : fM6 st st1 := f1
      have g1 : ∀ i, i ≠ 13 + 6 * k → st1 86 i = st 86 i := g1
      have e86 : m_up st1 86 (13 + 6 * k) (st 86 (13 + 6 * k)) 86 = st 86 := by
        funext i
        rw [up_app]
        by_cases q : i = 13 + 6 * k
        · rw [if_pos q, q]
        · rw [if_neg q]; exact g1 i q
      refine ⟨m_up st1 86 (13 + 6 * k) (st 86 (13 + 6 * k)), ?_, fM6_end (fM6_up f1 _ _) e86⟩
      refine Eq.trans e ?_
      have ans : (if w.1 < 0 then (-3 : Int32) else w.1) = (if lp (anB (bB (st 86) fm x3 k)) 7 0 false = true then (lp (bX (fun v => lp (faX (bD (st 86) fm x3 k v)) 7 0 0)) 100 0 (-3, 0)).1 else -3) := by
        have hfa : ∀ v, v < 100 → ∀ i, 0 ≤ i → i < 0 + 7 → ∀ ch, bD (st 86) fm x3 k v i = some ch → 0 ≤ (ab1 (ch.2 - ch.1)).toInt ∧ (ab1 (ch.2 - ch.1)).toInt ≤ 50000 := by
          intro v hv i _ hi ch z
          have hvv : 0 ≤ (Int32.ofNat v).toInt ∧ (Int32.ofNat v).toInt ≤ 99 := by rw [n_int (by omega)]; omega
          exact bth_db (VN_sd (VN_add hV k hvv (show k < 9 by omega)) (by omega)) (NB_sd (NB_chg hB (by omega) (by omega) _) i) (by rw [tn_sd, tn_chg (by omega)]; exact hf) h.2.1 (by rw [tn_sd, tn_chg (by omega)]; exact hk) (c := ch.1) (h := ch.2) z
        have hEq : ∀ v, v < 100 → _ := fun v hv => fa_eq (bD (st 86) fm x3 k v) 7 0 0 (-1) (hfa v hv) (by decide) (by rw [if_pos n_neg1])
        have hsome : ∀ v i, i < 7 → (bD (st 86) fm x3 k v i).isSome = (bB (st 86) fm x3 k i).isSome := fun v i hi => by
          obtain ⟨o, o1, o2⟩ := bBD (s := st 86) (v := v) (show k < 9 by omega) hi hkf x3
          rw [o1, o2, addo_s, addo_s]
        by_cases hany : lp (anB (bB (st 86) fm x3 k)) 7 0 false = true
        · rw [if_pos hany]
          obtain ⟨i, i0, i7, is⟩ := ((an_iff (bB (st 86) fm x3 k) 7 0 false).mp hany).resolve_left (by decide)
          have hpos : ∀ v, v < 100 → 0 ≤ (lp (faM (bD (st 86) fm x3 k v)) 7 0 (-1)).toInt := fun v hv => (hEq v hv).2.2.1 (Or.inr ⟨i, i0, i7, by rw [hsome v i (by omega)]; exact is⟩)
          have hXM : ∀ v, v < 100 → lp (faX (bD (st 86) fm x3 k v)) 7 0 0 = lp (faM (bD (st 86) fm x3 k v)) 7 0 (-1) := fun v hv => by
            rw [(hEq v hv).1, if_neg (by rw [i_lt, t_0]; have := hpos v hv; omega)]
          have hl : lp (bX (fun v => lp (faX (bD (st 86) fm x3 k v)) 7 0 0)) 100 0 (-3, 0) = lp (bX (fun v => lp (faM (bD (st 86) fm x3 k v)) 7 0 (-1))) 100 0 (-3, 0) := lp_cg _ _ _ (fun v a _ hv => by
            unfold bX
            simp only
            rw [hXM v (by omega)])
          rw [hl, hw]
          exact bX_eq (fun v => lp (faM (bD (st 86) fm x3 k v)) 7 0 (-1)) 100 0 (-3, 0) (-1, 0) (by omega) (fun v _ hv => ⟨hpos v (by omega), (hEq v (by omega)).2.1.2⟩) (Or.inl ⟨rfl, rfl⟩)
        · rw [if_neg hany]
          have hno : ∀ i, i < 7 → (bB (st 86) fm x3 k i).isSome = false := fun i hi => by
            cases z : (bB (st 86) fm x3 k i).isSome with
            | false => rfl
            | true => exact absurd ((an_iff (bB (st 86) fm x3 k) 7 0 false).mpr (Or.inr ⟨i, by omega, by omega, z⟩)) hany
          have hl : lp (bM (fun v => lp (faM (bD (st 86) fm x3 k v)) 7 0 (-1))) 100 0 (-1, 0) = (-1, 0) := bM_no _ _ _ _ (fun v _ hv => by
            show lp (faM (bD (st 86) fm x3 k v)) 7 0 (-1) < 0
            rw [(hEq v (by omega)).2.2.2 ⟨rfl, fun i _ hi => by
              have := hsome v i (by omega)
              rw [hno i (by omega)] at this
              exact Option.not_isSome_iff_eq_none.mp (by rw [this]; decide)⟩]
            exact n_neg1)
          rw [hw, hl, if_pos n_neg1]
      simp only
      rw [eX12_bestAdd_34, if_neg (by decide), eX12_bestAdd_93, cal_X12_at, eX12_at_0]
      simp only [m_bd, Option.toList, List.cons_append, List.nil_append]
      rw [eX12_bestAdd_102, ix_T1 (show k < 9 by omega), ← ans]
      simp only [m_ob]
      by_cases q : w.1 < 0
      · rw [if_pos q, if_pos q, eX12_bestAdd_117]
      · rw [if_neg q, if_neg q, eX12_bestAdd_115, eX12_bestAdd_117]
    · rintro j ⟨a, w, x8⟩ hj ⟨⟨f, g⟩, hw⟩
      have hw : w = _ := hw
      have f : fM6 st a := f
      have g : ∀ i, i ≠ 13 + 6 * k → a 86 i = st 86 i := g
      have es : m_up a 86 (13 + 6 * k) (Int32.ofNat j) 86 = chg (st 86) (13 + 6 * k) (Int32.ofNat j) := by
        funext i
        rw [up_app]
        unfold chg
        by_cases q : i = 13 + 6 * k
        · rw [if_pos q, if_pos q]
        · rw [if_neg q, if_neg q]; exact g i q
      have hv : 0 ≤ (Int32.ofNat j).toInt ∧ (Int32.ofNat j).toInt ≤ 99 := by rw [n_int (by omega)]; omega
      have hVj := VN_add hV k hv (show k < 9 by omega)
      have ht : tn (chg (st 86) (13 + 6 * k) (Int32.ofNat j)) = tn (st 86) := tn_chg (by omega) _
      obtain ⟨st2, e2, f2, g2⟩ := m_far d (st := m_up a 86 (13 + 6 * k) (Int32.ofNat j)) (by rw [es]; exact hVj) (k := k) (fm := fm) (by rw [es, ht]; exact hk) (by rw [es, ht]; exact hf) h.2.1
      rw [es] at e2 g2
      have hnext : bM (fun v => lp (faM (bD (st 86) fm x3 k v)) 7 0 (-1)) j w = lp (bM (fun v => lp (faM (bD (st 86) fm x3 k v)) 7 0 (-1))) (j + 1) 0 (-1, 0) := by rw [lp_last, Nat.zero_add, ← hw]
      have f6 : fM6 st st2 := ⟨fr_mono (fr_tr (fM6_up f (13 + 6 * k) (Int32.ofNat j)).1 f2.1) (by decide), fun i i5 i6 => by rw [f2.2 i i5 i6, (fM6_up f (13 + 6 * k) (Int32.ofNat j)).2 i i5 i6]⟩
      refine ⟨(st2, (bM (fun v => lp (faM (bD (st 86) fm x3 k v)) 7 0 (-1)) j w, some (.int (lp (faM (bD (st 86) fm x3 k j)) 7 0 (-1))))), ?_, ⟨f6, fun i hi => ?_⟩, hnext⟩
      · simp only
        have e2 : m_evc (d + 8) 193 [.ref 85, .int (Int32.ofNat k), .int (Int32.ofNat fm), .int x3] (SH, m_up a 86 (13 + 6 * k) (Int32.ofNat j)) = some (some (.int (lp (faM (bD (st 86) fm x3 k j)) 7 0 (-1))), (SH, st2)) := e2
        rw [eX12_bestAdd_34, if_pos (by rw [show (100 : Int32) = Int32.ofNat 100 from rfl, n_lt (by omega) (by omega)]; exact hj), cal_X12_at, eX12_at_0]
        simp only [m_bd, Option.toList, List.cons_append, List.nil_append]
        rw [eX12_bestAdd_50, ix_T1 (show k < 9 by omega)]
        simp only [m_ob]
        rw [e2]
        simp only [m_bd, Option.toList, List.cons_append, List.nil_append]
        rw [eX12_bestAdd_60]
        unfold bM
        simp only
        have yes : m_ev none (d + 8) 194 79 [some (.ref 85), some (.int (Int32.ofNat k)), some (.int (Int32.ofNat fm)), some (.int x3), some (.int (st 86 (13 + 6 * k))), some (.int w.1), some (.int w.2), some (.int (Int32.ofNat j)), some (.int (lp (faM (bD (st 86) fm x3 k j)) 7 0 (-1)))] [] (SH, st2) = m_ev none (d + 8) 194 34 [some (.ref 85), some (.int (Int32.ofNat k)), some (.int (Int32.ofNat fm)), some (.int x3), some (.int (st 86 (13 + 6 * k))), some (.int (Int32.ofNat j)), some (.int (lp (faM (bD (st 86) fm x3 k j)) 7 0 (-1))), some (.int (Int32.ofNat (j + 1))), some (.int (lp (faM (bD (st 86) fm x3 k j)) 7 0 (-1)))] [] (SH, st2) := by
          rw [eX12_bestAdd_79, eX12_bestAdd_87, n_succ]
        by_cases q0 : lp (faM (bD (st 86) fm x3 k j)) 7 0 (-1) < 0
        · rw [if_pos q0, if_pos q0, eX12_bestAdd_87, n_succ]
        · rw [if_neg q0, if_neg q0]
          by_cases q1 : w.1 < 0
          · rw [if_pos q1, if_pos (show w.1 < 0 ∨ lp (faM (bD (st 86) fm x3 k j)) 7 0 (-1) < w.2 from Or.inl q1), yes]
          · rw [if_neg q1]
            by_cases q2 : lp (faM (bD (st 86) fm x3 k j)) 7 0 (-1) < w.2
            · rw [if_pos q2, if_pos (show w.1 < 0 ∨ lp (faM (bD (st 86) fm x3 k j)) 7 0 (-1) < w.2 from Or.inr q2), yes]
            · rw [if_neg q2, if_neg (show ¬ (w.1 < 0 ∨ lp (faM (bD (st 86) fm x3 k j)) 7 0 (-1) < w.2) from fun z => z.elim q1 q2), eX12_bestAdd_87, n_succ]
      · show st2 86 i = st 86 i
        rw [g2, chg_ne hi]
  · rw [if_neg h, if_neg (fun z => h z.1), eX12_bestAdd_15]
    exact ⟨st, rfl, scr_refl st⟩
