/-! fits, liar, of the class and of the model -/
def gF (s : Nat → Int32) (fm j : Nat) : Nat → Bool := rf (bth s fm (Int32.ofNat j)) s
abbrev i3 : Type := Int32 × Int32 × Int32
def ftX (G : Nat → Nat → Bool) (n j : Nat) (a : i3) : i3 := if wrI (G j) n = 0 then (a.1 + 1, (if a.2.1 = -3 then Int32.ofNat j else a.2.1), Int32.ofNat j) else a
def ftM (G : Nat → Nat → Bool) (n j : Nat) (a : i3) : i3 := if fitB (G j) (-1) n = true then (a.1 + 1, (if a.1 = 0 then Int32.ofNat j else a.2.1), Int32.ofNat j) else a
theorem ft_eq (G : Nat → Nat → Bool) {n : Nat} (hn : n ≤ 6) : ∀ (m j : Nat) (a b : i3) (c : Nat), j + m ≤ 1440 → a.1 = Int32.ofNat c → b.1 = Int32.ofNat c → c ≤ j → (c = 0 → a.2 = (-3, -3)) → (c ≠ 0 → a.2 = b.2 ∧ a.2.1 ≠ -3) → ∃ c', (lp (ftX G n) m j a).1 = Int32.ofNat c' ∧ (lp (ftM G n) m j b).1 = Int32.ofNat c' ∧ c' ≤ j + m ∧ (c' = 0 → (lp (ftX G n) m j a).2 = (-3, -3)) ∧ (c' ≠ 0 → (lp (ftX G n) m j a).2 = (lp (ftM G n) m j b).2) ∧ (c' = 0 → c = 0 ∧ ∀ i, j ≤ i → i < j + m → ¬ wrI (G i) n = 0)
  | 0, j, a, b, c, hj, h1, h2, h3, h4, h5 => ⟨c, h1, h2, h3, h4, fun z => (h5 z).1, fun z => ⟨z, fun i i1 i2 => by omega⟩⟩
  | m + 1, j, a, b, c, hj, h1, h2, h3, h4, h5 => by
    show ∃ c', (lp (ftX G n) m (j + 1) (ftX G n j a)).1 = Int32.ofNat c' ∧ (lp (ftM G n) m (j + 1) (ftM G n j b)).1 = Int32.ofNat c' ∧ c' ≤ j + (m + 1) ∧ (c' = 0 → (lp (ftX G n) m (j + 1) (ftX G n j a)).2 = (-3, -3)) ∧ (c' ≠ 0 → (lp (ftX G n) m (j + 1) (ftX G n j a)).2 = (lp (ftM G n) m (j + 1) (ftM G n j b)).2) ∧ (c' = 0 → c = 0 ∧ ∀ i, j ≤ i → i < j + (m + 1) → ¬ wrI (G i) n = 0)
    by_cases q : wrI (G j) n = 0
    · have q2 := (fit_wr (G j) hn).mp q
      have ea : ftX G n j a = (a.1 + 1, (if a.2.1 = -3 then Int32.ofNat j else a.2.1), Int32.ofNat j) := by unfold ftX; rw [if_pos q]
      have eb : ftM G n j b = (b.1 + 1, (if b.1 = 0 then Int32.ofNat j else b.2.1), Int32.ofNat j) := by unfold ftM; rw [if_pos q2]
      have hjn : Int32.ofNat j ≠ -3 := by
        intro z
        have h := congrArg Int32.toInt z
        rw [n_int (by omega), show (-3 : Int32).toInt = -3 from rfl] at h
        omega
      have hfirst : (if a.2.1 = -3 then Int32.ofNat j else a.2.1) = (if b.1 = 0 then Int32.ofNat j else b.2.1) ∧ (if a.2.1 = -3 then Int32.ofNat j else a.2.1) ≠ -3 := by
        by_cases c0 : c = 0
        · have := h4 c0
          rw [if_pos (show a.2.1 = -3 by rw [this]), if_pos (show b.1 = 0 by rw [h2, c0]; rfl)]
          exact ⟨rfl, hjn⟩
        · obtain ⟨g1, g2⟩ := h5 c0
          rw [if_neg g2, if_neg (show ¬ b.1 = 0 by rw [h2, ← n_00, n_eq (by omega) (by omega)]; exact c0), g1]
          exact ⟨rfl, by rw [← g1]; exact g2⟩
      obtain ⟨c', r1, r2, r3, r4, r5, r6⟩ := ft_eq G hn m (j + 1) (ftX G n j a) (ftM G n j b) (c + 1) (by omega) (by rw [ea, h1, ← n_succ]) (by rw [eb, h2, ← n_succ]) (by omega) (fun z => by omega) (fun _ => by
        rw [ea, eb]
        exact ⟨by rw [hfirst.1], hfirst.2⟩)
      exact ⟨c', r1, r2, by omega, r4, r5, fun z => by have := (r6 z).1; omega⟩
    · have q2 : ¬ fitB (G j) (-1) n = true := fun z => q ((fit_wr (G j) hn).mpr z)
      have ea : ftX G n j a = a := by unfold ftX; rw [if_neg q]
      have eb : ftM G n j b = b := by unfold ftM; rw [if_neg q2]
      rw [ea, eb]
      obtain ⟨c', r1, r2, r3, r4, r5, r6⟩ := ft_eq G hn m (j + 1) a b c (by omega) h1 h2 (by omega) h4 h5
      refine ⟨c', r1, r2, by omega, r4, r5, fun z => ⟨(r6 z).1, fun i i1 i2 => ?_⟩⟩
      by_cases w : i = j
      · subst w; exact q
      · exact (r6 z).2 i (by omega) (by omega)
def a_fits (x1 x2 : Int32) (s : Nat → Int32) : Int32 := if gT s x1 ∧ gR 0 2 x2 then (if x2 = 0 then (lp (ftX (gF s x1.toNatClampNeg) (s 1).toNatClampNeg) 1440 0 (0, -3, -3)).1 else if x2 = 1 then (lp (ftX (gF s x1.toNatClampNeg) (s 1).toNatClampNeg) 1440 0 (0, -3, -3)).2.1 else (lp (ftX (gF s x1.toNatClampNeg) (s 1).toNatClampNeg) 1440 0 (0, -3, -3)).2.2) else -1
theorem Rel_rp {st : zS} (h : Rel st) : rpR (st 1) (st 15) (st 16) (st 86) := h.1.2.2.2.2.2.2.1
theorem Rel_PG {st : zS} (h : Rel st) : PG (st 86) := by
  obtain ⟨a, b, c, e⟩ := Rel_rp h
  exact ⟨a, b, fun r hr => (e r hr).2.2⟩
theorem not1439 {j : Nat} (h : j < 1440) : ¬ (1439 : Int32) < Int32.ofNat j := by
  rw [show (1439 : Int32) = Int32.ofNat 1439 from rfl, n_lt (by omega) (by omega)]; omega
theorem x_fits (d : Nat) {st : zS} (hR : Rel st) (x1 x2 : Int32) : RT (m_evc (d + 8) 128 [.ref 0, .int x1, .int x2] (SH, st)) (some (.int (a_fits x1 x2 (st 86)))) (scr st) := by
  obtain ⟨hN, hV, h7, e0⟩ := Rel_x hR
  have hP := Rel_rp hR
  have h9 := hV.1.2
  have hd := hV.2.2.2.1
  have t2 : (2 : Int32).toInt = 2 := rfl
  unfold a_fits
  rw [cal_X11_fits, eX11_fits_0, s_isTowX _ st e0 hV.1]
  simp only [m_bd, Option.toList, List.cons_append, List.nil_append]
  rw [eX11_fits_8, bZ_if]
  by_cases h1 : gT (st 86) x1
  · rw [if_pos h1]
    by_cases h2 : gR 0 2 x2
    · rw [if_neg (show ¬ x2 < 0 by rw [i_lt, t_0]; have := h2.1; omega), if_neg (show ¬ (2 : Int32) < x2 by rw [i_lt, t2]; have := h2.2; omega), if_pos ⟨h1, h2⟩]
      obtain ⟨fm, hf, rfl⟩ := gT_e h1
      obtain ⟨st1, e1, f1, D1⟩ := ya_takeD (d + 1) st hN hV hd.2
      rw [sd_self hd] at D1
      rw [eX11_fits_22, h7, hd.1, e1]
      simp only [m_bd, Option.toList, List.cons_append, List.nil_append]
      rw [eX11_fits_36, n_nat (show fm < 2147483648 by omega)]
      have L := lp_inv (fun j (a : zS × i3) => m_ev none (d + 7) 128 49 [some (.ref 0), some (.int (Int32.ofNat fm)), some (.int x2), some (.int a.2.1), some (.int a.2.2.1), some (.int a.2.2.2), some (.int (Int32.ofNat j))] [] (SH, a.1)) (fun j a => (fr [17, 44, 45, 46, 47, 48] st a.1 ∧ ya_D a.1 (st 86)) ∧ a.2 = lp (ftX (gF (st 86) fm) (st 86 1).toNatClampNeg) j 0 (0, -3, -3)) 1440 ?_ 1440 0 (st1, (0, -3, -3)) (by omega) ⟨⟨fr_mono f1 (by decide), D1⟩, rfl⟩
      · obtain ⟨⟨st2, w⟩, e, ⟨f2, _⟩, hw⟩ := L
        have hw : w = _ := hw
        have f2 : fr [17, 44, 45, 46, 47, 48] st st2 := f2
        refine ⟨st2, ?_, scr_fr f2 rfl⟩
        refine Eq.trans e ?_
        simp only
        rw [eX11_fits_49, if_pos (by decide), eX11_fits_103, ← hw]
        by_cases q0 : x2 = 0
        · rw [if_pos q0, if_pos q0, eX11_fits_123]
        · rw [if_neg q0, if_neg q0, eX11_fits_111]
          by_cases q1 : x2 = 1
          · rw [if_pos q1, if_pos q1, eX11_fits_123]
          · rw [if_neg q1, if_neg q1, eX11_fits_121, eX11_fits_123]
      · rintro j ⟨a, w⟩ hj ⟨⟨f, D⟩, hw⟩
        have hw : w = _ := hw
        have f : fr [17, 44, 45, 46, 47, 48] st a := f
        have D : ya_D a (st 86) := D
        have ht : TG (Int32.ofNat j) := TG_n hj
        obtain ⟨b, eb, fb', Db, rb⟩ := ya_goBoth (d + 3) a D ht hf
        have rb : rp (-9) (b 47) (b 48) (bth (st 86) fm (Int32.ofNat j)) (tn (st 86)) := rb
        have hb := fb_bth hV hf ht
        have fab : fr [17, 44, 45, 46, 47, 48] st b := fr_mono (fr_tr f fb') (by decide)
        refine ⟨(b, ftX (gF (st 86) fm) (st 86 1).toNatClampNeg j w), ?_, ⟨fab, Db⟩, by rw [lp_last, Nat.zero_add, ← hw]⟩
        simp only
        rw [eX11_fits_49, if_neg (not1439 hj), eb]
        simp only [m_bd, Option.toList, List.cons_append, List.nil_append]
        rw [eX11_fits_67, x_wrong _ b h9 (by rw [fab 1 rfl, fab 15 rfl, fab 16 rfl]; exact hP) rb hb]
        simp only [m_bd, Option.toList, List.cons_append, List.nil_append]
        rw [eX11_fits_71]
        unfold ftX gF
        by_cases q : wrI (rf (bth (st 86) fm (Int32.ofNat j)) (st 86)) (st 86 1).toNatClampNeg = 0
        · rw [if_pos q, if_pos q]
          by_cases q2 : w.2.1 = -3
          · rw [if_pos q2, if_pos q2, eX11_fits_91, eX11_fits_97, n_succ]
          · rw [if_neg q2, if_neg q2, eX11_fits_89, eX11_fits_91, eX11_fits_97, n_succ]
        · rw [if_neg q, if_neg q, eX11_fits_97, n_succ]
    · rw [if_neg (show ¬ (gT (st 86) x1 ∧ gR 0 2 x2) from fun z => h2 z.2)]
      by_cases q : x2 < 0
      · rw [if_pos q, eX11_fits_20]
        exact ⟨st, rfl, scr_refl st⟩
      · rw [if_neg q, if_pos (show (2 : Int32) < x2 by
          rw [i_lt, t2]
          rw [i_lt, t_0] at q
          by_cases w : 2 < x2.toInt
          · exact w
          · exact absurd ⟨by omega, by omega⟩ h2), eX11_fits_20]
        exact ⟨st, rfl, scr_refl st⟩
  · rw [if_neg h1, if_neg (fun z => h1 z.1), eX11_fits_20]
    exact ⟨st, rfl, scr_refl st⟩
theorem m_find (d : Nat) {st : zS} (hV : VN (st 86)) (hP : PG (st 86)) {fm : Nat} (hf : fm < tn (st 86)) : RT (m_evc (d + 8) 217 [.ref 85, .int (Int32.ofNat fm)] (SH, st)) none (fun a => scr st a ∧ (∃ y z, (a 85 10, a 85 11, a 85 12) = lp (ftM (gF (st 86) fm) (st 86 1).toNatClampNeg) 1440 0 (0, y, z)) ∧ a 85 13 = lp (fun j a => lp (ctF (gF (st 86) fm j) (st 86 1).toNatClampNeg) (st 86 1).toNatClampNeg 0 a) 1440 0 0) := by
  have h9 := hV.1.2
  have sc0 : scr st (m_up (m_up st 85 10 0) 85 13 0) := by
    refine ⟨fr_up (fr_up (fr_refl _ _) rfl) rfl, ?_, ?_, ?_, ?_⟩ <;> rw [up_nj (by decide), up_nj (by decide)]
  have L := lp_inv (fun j (a : zS × Option Value) => m_ev none (d + 7) 217 12 [some (.ref 85), some (.int (Int32.ofNat fm)), some (.int (Int32.ofNat j)), a.2] [] (SH, a.1)) (fun j a => scr st a.1 ∧ (a.1 85 10, a.1 85 11, a.1 85 12) = lp (ftM (gF (st 86) fm) (st 86 1).toNatClampNeg) j 0 (0, st 85 11, st 85 12) ∧ a.1 85 13 = lp (fun j a => lp (ctF (gF (st 86) fm j) (st 86 1).toNatClampNeg) (st 86 1).toNatClampNeg 0 a) j 0 0) 1440 ?_ 1440 0 (m_up (m_up st 85 10 0) 85 13 0, none) (by omega) ⟨sc0, by
      show (m_up (m_up st 85 10 0) 85 13 0 85 10, m_up (m_up st 85 10 0) 85 13 0 85 11, m_up (m_up st 85 10 0) 85 13 0 85 12) = (0, st 85 11, st 85 12)
      rw [up_nj (by decide), up_in, up_nj (by decide), up_nj (by decide), up_nj (by decide), up_nj (by decide)], by
      show m_up (m_up st 85 10 0) 85 13 0 85 13 = 0
      rw [up_in]⟩
  · obtain ⟨⟨st2, x3⟩, e, f2, g2, h2⟩ := L
    refine ⟨st2, ?_, f2, ⟨_, _, g2⟩, h2⟩
    rw [cal_X12_findFits, eX12_findFits_0]
    refine Eq.trans e ?_
    simp only
    rw [eX12_findFits_12, if_pos (by decide), eX12_findFits_115]
  · rintro j ⟨a, x3⟩ hj ⟨f, g, hbut⟩
    have f : scr st a := f
    have g : (a 85 10, a 85 11, a 85 12) = lp (ftM (gF (st 86) fm) (st 86 1).toNatClampNeg) j 0 (0, st 85 11, st 85 12) := g
    have hbut : a 85 13 = _ := hbut
    have e86 : a 86 = st 86 := f.1 86 rfl
    have ht : TG (Int32.ofNat j) := TG_n hj
    obtain ⟨b, eb, fb', rb⟩ := s_both d (st := a) (by rw [e86]; exact hV) (t := Int32.ofNat j) (fm := fm) (by rw [e86]; exact hf)
    rw [e86] at rb
    have rb : rp (-1) (b 90) (b 91) (bth (st 86) fm (Int32.ofNat j)) (tn (st 86)) := rb
    have hb := fb_bth hV hf ht
    have b86 : b 86 = st 86 := by rw [fb'.1 86 rfl, e86]
    have scb : scr st b := scr_tr f (scr_M fb')
    have b10 : b 85 10 = a 85 10 := fb'.2 10 (by decide) (by decide)
    have b11 : b 85 11 = a 85 11 := fb'.2 11 (by decide) (by decide)
    have b12 : b 85 12 = a 85 12 := fb'.2 12 (by decide) (by decide)
    have b13 : b 85 13 = a 85 13 := fb'.2 13 (by decide) (by decide)
    -- what is counted
    have first : ∃ c, scr st c ∧ c 90 = b 90 ∧ c 91 = b 91 ∧ c 85 13 = a 85 13 ∧ (c 85 10, c 85 11, c 85 12) = ftM (gF (st 86) fm) (st 86 1).toNatClampNeg j (a 85 10, a 85 11, a 85 12) ∧ m_ev none (d + 7) 217 30 [some (.ref 85), some (.int (Int32.ofNat fm)), some (.int (Int32.ofNat j)), x3] [.int (bZ (fitB (rf (bth (st 86) fm (Int32.ofNat j)) (st 86)) (-1) (st 86 1).toNatClampNeg = true))] (SH, b) = m_ev none (d + 7) 217 67 [some (.ref 85), some (.int (Int32.ofNat fm)), some (.int (Int32.ofNat j)), x3] [] (SH, c) := by
      rw [eX12_findFits_30, bZ_if]
      unfold ftM gF
      by_cases q : fitB (rf (bth (st 86) fm (Int32.ofNat j)) (st 86)) (-1) (st 86 1).toNatClampNeg = true
      · rw [if_pos q, if_pos q]
        have go : ∀ t : Int32, scr st (m_up (m_up (m_up b 85 11 t) 85 12 (Int32.ofNat j)) 85 10 (b 85 10 + 1)) ∧ m_up (m_up (m_up b 85 11 t) 85 12 (Int32.ofNat j)) 85 10 (b 85 10 + 1) 90 = b 90 ∧ m_up (m_up (m_up b 85 11 t) 85 12 (Int32.ofNat j)) 85 10 (b 85 10 + 1) 91 = b 91 ∧ m_up (m_up (m_up b 85 11 t) 85 12 (Int32.ofNat j)) 85 10 (b 85 10 + 1) 85 13 = a 85 13 ∧ (m_up (m_up (m_up b 85 11 t) 85 12 (Int32.ofNat j)) 85 10 (b 85 10 + 1) 85 10, m_up (m_up (m_up b 85 11 t) 85 12 (Int32.ofNat j)) 85 10 (b 85 10 + 1) 85 11, m_up (m_up (m_up b 85 11 t) 85 12 (Int32.ofNat j)) 85 10 (b 85 10 + 1) 85 12) = (a 85 10 + 1, t, Int32.ofNat j) := by
          intro t
          refine ⟨⟨fr_up (fr_up (fr_up scb.1 rfl) rfl) rfl, ?_, ?_, ?_, ?_⟩, ?_, ?_, ?_, ?_⟩
          · rw [up_nj (by decide), up_nj (by decide), up_nj (by decide)]; exact scb.2.1
          · rw [up_nj (by decide), up_nj (by decide), up_nj (by decide)]; exact scb.2.2.1
          · rw [up_nj (by decide), up_nj (by decide), up_nj (by decide)]; exact scb.2.2.2.1
          · rw [up_nj (by decide), up_nj (by decide), up_nj (by decide)]; exact scb.2.2.2.2
          · rw [up_ne (by decide), up_ne (by decide), up_ne (by decide)]
          · rw [up_ne (by decide), up_ne (by decide), up_ne (by decide)]
          · rw [up_nj (by decide), up_nj (by decide), up_nj (by decide), b13]
          · rw [up_in, up_nj (show 11 ≠ 10 by decide), up_nj (show 11 ≠ 12 by decide), up_in, up_nj (show 12 ≠ 10 by decide), up_in, b10]
        by_cases q2 : a 85 10 = 0
        · obtain ⟨w1, w2, w3, w4, w5⟩ := go (Int32.ofNat j)
          refine ⟨_, w1, w2, w3, w4, by rw [w5, if_pos q2], ?_⟩
          rw [if_pos (by rw [b10]; exact q2), eX12_findFits_49]
        · obtain ⟨w1, w2, w3, w4, w5⟩ := go (b 85 11)
          refine ⟨_, w1, w2, w3, w4, by rw [w5, if_neg q2, b11], ?_⟩
          rw [if_neg (by rw [b10]; exact q2), eX12_findFits_45, eX12_findFits_49]
      · rw [if_neg q, if_neg q]
        exact ⟨b, scb, rfl, rfl, b13, by rw [b10, b11, b12], rfl⟩
    obtain ⟨c, cs, c90, c91, c13, cf, ce⟩ := first
    have c86 : c 86 = st 86 := cs.1 86 rfl
    -- the reports but for one
    have L2 := lp_inv (fun r (e : zS) => m_ev none (d + 7) 217 69 [some (.ref 85), some (.int (Int32.ofNat fm)), some (.int (Int32.ofNat j)), some (.int (Int32.ofNat r))] [] (SH, e)) (fun r e => scr st e ∧ e 90 = c 90 ∧ e 91 = c 91 ∧ (e 85 10, e 85 11, e 85 12) = (c 85 10, c 85 11, c 85 12) ∧ e 85 13 = lp (ctF (gF (st 86) fm j) (st 86 1).toNatClampNeg) r 0 (a 85 13)) (st 86 1).toNatClampNeg ?_ (st 86 1).toNatClampNeg 0 c (by omega) ⟨cs, rfl, rfl, rfl, c13⟩
    · obtain ⟨e, ee, es, e90, e91, ef, e13⟩ := L2
      have ee : m_ev none (d + 7) 217 69 [some (.ref 85), some (.int (Int32.ofNat fm)), some (.int (Int32.ofNat j)), some (.int 0)] [] (SH, c) = _ := ee
      refine ⟨(e, some (.int (Int32.ofNat (st 86 1).toNatClampNeg))), ?_, es, ?_, ?_⟩
      · simp only
        rw [eX12_findFits_12, if_neg (not1439 hj), eb]
        simp only [m_bd, Option.toList, List.cons_append, List.nil_append]
        rw [eX12_findFits_25, m_isFit _ b (by rw [b86]; exact h9) (by rw [b86]; exact hP) (by rw [b86]; exact rb) (by rw [b86]; exact hb), b86]
        simp only [m_bd, Option.toList, List.cons_append, List.nil_append]
        rw [ce, eX12_findFits_67, ee, eX12_findFits_69, es.1 86 rfl, if_neg (by
          intro z
          have := hP.1
          rw [← this] at z
          exact Int32.lt_irrefl z), eX12_findFits_109, n_succ]
      · show (e 85 10, e 85 11, e 85 12) = _
        rw [ef, cf, g, lp_last, Nat.zero_add]
      · show e 85 13 = _
        rw [e13, hbut, lp_last, Nat.zero_add]
    · rintro r e hr ⟨es, e90, e91, ef, e13⟩
      have e86' : e 86 = st 86 := es.1 86 rfl
      have hlt : Int32.ofNat r < e 86 1 := by
        have h6 := hP.2.1
        rw [e86', hP.1, n_lt (by omega) (by omega)]; exact hr
      have re : rp (-1) (e 90) (e 91) (bth (st 86) fm (Int32.ofNat j)) (tn (st 86)) := by rw [e90, e91, c90, c91]; exact rb
      have hnext : ctF (gF (st 86) fm j) (st 86 1).toNatClampNeg r (e 85 13) = lp (ctF (gF (st 86) fm j) (st 86 1).toNatClampNeg) (r + 1) 0 (a 85 13) := by rw [lp_last, Nat.zero_add, ← e13]
      refine ⟨m_up e 85 13 (ctF (gF (st 86) fm j) (st 86 1).toNatClampNeg r (e 85 13)), ?_, ⟨fr_up es.1 rfl, by rw [up_nj (by decide)]; exact es.2.1, by rw [up_nj (by decide)]; exact es.2.2.1, by rw [up_nj (by decide)]; exact es.2.2.2.1, by rw [up_nj (by decide)]; exact es.2.2.2.2⟩, by rw [up_ne (by decide)]; exact e90, by rw [up_ne (by decide)]; exact e91, by rw [up_nj (by decide), up_nj (by decide), up_nj (by decide)]; exact ef, by rw [up_in]; exact hnext⟩
      rw [eX12_findFits_69, if_pos hlt, m_isFit _ e (by rw [e86']; exact h9) (by rw [e86']; exact hP) (by rw [e86']; exact re) (by rw [e86']; exact hb), e86']
      simp only [m_bd, Option.toList, List.cons_append, List.nil_append]
      rw [eX12_findFits_89, bZ_if]
      unfold ctF
      by_cases q : fitB (rf (bth (st 86) fm (Int32.ofNat j)) (st 86)) (Int32.ofNat r) (st 86 1).toNatClampNeg = true
      · rw [if_pos q, if_pos (show fitB (gF (st 86) fm j) (Int32.ofNat r) (st 86 1).toNatClampNeg = true from q), eX12_findFits_99, n_succ]
        rfl
      · rw [if_neg q, if_neg (show ¬ fitB (gF (st 86) fm j) (Int32.ofNat r) (st 86 1).toNatClampNeg = true from q), eX12_findFits_98, eX12_findFits_99, n_succ]
theorem mc_fits (d : Nat) {st : zS} (hR : Rel st) (x1 x2 : Int32) : RT (m_evc (d + 9) 218 [.ref 85, .int x1, .int x2] (SH, st)) (some (.int (a_fits x1 x2 (st 86)))) (scr st) := by
  obtain ⟨hN, hV, h7, e0⟩ := Rel_x hR
  have hP := Rel_PG hR
  have h9 := hV.1.2
  unfold a_fits
  rw [cal_X12_fits, eX12_fits_0, s_isTM0 _ st hV]
  simp only [m_bd, Option.toList, List.cons_append, List.nil_append]
  rw [eX12_fits_5, bZ_if]
  by_cases h1 : gT (st 86) x1
  · rw [if_pos h1, s_inb]
    simp only [m_bd, Option.toList, List.cons_append, List.nil_append]
    rw [eX12_fits_17, bZ_if]
    by_cases h2 : gR 0 2 x2
    · rw [if_pos (show (0 : Int64).toInt ≤ x2.toInt ∧ x2.toInt ≤ (2 : Int64).toInt from h2), if_pos ⟨h1, h2⟩]
      obtain ⟨fm, hf, rfl⟩ := gT_e h1
      obtain ⟨a, e1, f1, ⟨y, z, g1⟩, _⟩ := m_find d hV hP hf
      obtain ⟨c, r1, r2, r3, r4, r5, _⟩ := ft_eq (gF (st 86) fm) hP.2.1 1440 0 (0, -3, -3) (0, y, z) 0 (by omega) rfl rfl (by omega) (fun _ => rfl) (fun w => absurd rfl w)
      refine ⟨a, ?_, f1⟩
      rw [eX12_fits_22, e1, n_nat (show fm < 2147483648 by omega)]
      simp only [m_bd, Option.toList, List.cons_append, List.nil_append]
      rw [← g1] at r2 r5
      simp only at r2 r5
      rw [eX12_fits_27, r1, r2]
      by_cases q0 : x2 = 0
      · rw [if_pos q0, if_pos q0, eX12_fits_66]
      · rw [if_neg q0, if_neg q0, eX12_fits_38, r2]
        by_cases c0 : c = 0
        · rw [if_pos (by rw [c0]; rfl), eX12_fits_66, r4 c0]
          by_cases q1 : x2 = 1
          · rw [if_pos q1]
          · rw [if_neg q1]
        · rw [if_neg (by rw [← n_00, n_eq (by omega) (by omega)]; exact c0), eX12_fits_50, r5 c0]
          by_cases q1 : x2 = 1
          · rw [if_pos q1, if_pos q1, eX12_fits_66]
          · rw [if_neg q1, if_neg q1, eX12_fits_62, eX12_fits_66]
    · rw [if_neg (show ¬ ((0 : Int64).toInt ≤ x2.toInt ∧ x2.toInt ≤ (2 : Int64).toInt) from h2), if_neg (fun z => h2 z.2), eX12_fits_20]
      exact ⟨st, rfl, scr_refl st⟩
  · rw [if_neg h1, if_neg (fun z => h1 z.1), eX12_fits_20]
    exact ⟨st, rfl, scr_refl st⟩
/-! liar -/
def srch (L : Int32) : Nat → Nat → Int32
  | 0, _ => -3
  | m + 1, r => if bt L r = true then Int32.ofNat r else srch L m (r + 1)
def lrX (G : Nat → Nat → Bool) (n : Nat) : Nat → Nat → Int32 → Int32
  | 0, _, a => srch a n 0
  | m + 1, j, a => if wrI (G j) n = 0 then -3 else lrX G n m (j + 1) (ctX (G j) n a)
theorem lr_1 (G : Nat → Nat → Bool) (n : Nat) : ∀ (m j : Nat) (a : Int32), (∃ i, j ≤ i ∧ i < j + m ∧ wrI (G i) n = 0) → lrX G n m j a = -3
  | 0, j, a, ⟨i, i1, i2, _⟩ => by omega
  | m + 1, j, a, ⟨i, i1, i2, i3⟩ => by
    unfold lrX
    by_cases q : wrI (G j) n = 0
    · rw [if_pos q]
    · rw [if_neg q]
      exact lr_1 G n m (j + 1) _ ⟨i, by
        by_cases w : i = j
        · subst w; exact absurd i3 q
        · omega, by omega, i3⟩
theorem lr_2 (G : Nat → Nat → Bool) {n : Nat} (hn : n ≤ 6) : ∀ (m j : Nat) (a : Int32), (∀ i, j ≤ i → i < j + m → ¬ wrI (G i) n = 0) → lrX G n m j a = srch (lp (fun j a => lp (ctF (G j) n) n 0 a) m j a) n 0
  | 0, j, a, _ => rfl
  | m + 1, j, a, h => by
    have q := h j (Nat.le_refl j) (by omega)
    unfold lrX
    rw [if_neg q, lr_2 G hn m (j + 1) _ (fun i i1 i2 => h i (by omega) (by omega))]
    show _ = srch (lp (fun j a => lp (ctF (G j) n) n 0 a) m (j + 1) (lp (ctF (G j) n) n 0 a)) n 0
    rw [ct_wr (G j) hn q a]
theorem ct_64 (g : Nat → Bool) {n : Nat} (hn : n ≤ 6) (h0 : ¬ wrI g n = 0) {m : Nat} (hm : m < 64) : ∃ q, q < 64 ∧ lp (ctF g n) n 0 (Int32.ofNat m) = Int32.ofNat q := by
  rw [ct_wr g hn h0]
  unfold ctX
  split
  · obtain ⟨k, hk, e⟩ := wr_64 g hn
    rw [e, n_or]
    exact ⟨_, Nat.or_lt_two_pow (n := 6) hm hk, rfl⟩
  · exact ⟨m, hm, rfl⟩
theorem lp_64 (G : Nat → Nat → Bool) {n : Nat} (hn : n ≤ 6) : ∀ (m j k : Nat), k < 64 → (∀ i, j ≤ i → i < j + m → ¬ wrI (G i) n = 0) → ∃ q, q < 64 ∧ lp (fun j a => lp (ctF (G j) n) n 0 a) m j (Int32.ofNat k) = Int32.ofNat q
  | 0, j, k, hk, _ => ⟨k, hk, rfl⟩
  | m + 1, j, k, hk, h => by
    obtain ⟨q, hq, e⟩ := ct_64 (G j) hn (h j (Nat.le_refl j) (by omega)) hk
    show ∃ q, q < 64 ∧ lp (fun j a => lp (ctF (G j) n) n 0 a) m (j + 1) (lp (ctF (G j) n) n 0 (Int32.ofNat k)) = Int32.ofNat q
    rw [e]
    exact lp_64 G hn m (j + 1) q hq (fun i i1 i2 => h i (by omega) (by omega))
def a_liar (x1 : Int32) (s : Nat → Int32) : Int32 := if gT s x1 then lrX (gF s x1.toNatClampNeg) (s 1).toNatClampNeg 1440 0 0 else -1
theorem x_srch (d : Nat) (st : zS) {n : Nat} (hn : n ≤ 6) (h11 : st 1 11 = Int32.ofNat n) (x1 L : Int32) (x4 : Option Value) : ∀ (m r : Nat), r + m = n → m_ev none d 129 83 [some (.ref 0), some (.int x1), some (.int L), some (.int (Int32.ofNat r)), x4] [] (SH, st) = some (some (.int (srch L m r)), (SH, st))
  | 0, r, h => by
    rw [eX11_liar_83, h11, if_neg (by rw [n_lt (by omega) (by omega)]; omega), eX11_liar_111]
    rfl
  | m + 1, r, h => by
    rw [eX11_liar_83, h11, if_pos (by rw [n_lt (by omega) (by omega)]; omega)]
    unfold srch
    by_cases q : bt L r = true
    · rw [if_pos q, if_pos (show ((L : Int32).toUInt32 >>> ((Int32.ofNat r : Int32).toUInt32 &&& Int32.toUInt32 31)).toInt32 &&& 1 = 1 from beq_iff_eq.mp q)]
    · rw [if_neg q, if_neg (show ¬ ((L : Int32).toUInt32 >>> ((Int32.ofNat r : Int32).toUInt32 &&& Int32.toUInt32 31)).toInt32 &&& 1 = 1 from fun z => q (beq_iff_eq.mpr z)), eX11_liar_105, n_succ]
      exact x_srch d st hn h11 x1 L x4 m (r + 1) (by omega)
theorem x_liar_r (d : Nat) {s : Nat → Int32} (h9 : tn s ≤ 9) {fm : Nat} (hf : fm < tn s) : ∀ (m j : Nat) (st : zS) (a : Int32) (x4 : Option Value), j + m = 1440 → ya_D st s → rpR (st 1) (st 15) (st 16) s → RT (m_ev none (d + 7) 129 31 [some (.ref 0), some (.int (Int32.ofNat fm)), some (.int a), some (.int (Int32.ofNat j)), x4] [] (SH, st)) (some (.int (lrX (gF s fm) (s 1).toNatClampNeg m j a))) (fr [17, 44, 45, 46, 47, 48] st)
  | 0, j, st, a, x4, hj, hD, hP => by
    have : j = 1440 := by omega
    subst this
    refine ⟨st, ?_, fr_refl _ _⟩
    rw [eX11_liar_31, if_pos (by decide), eX11_liar_81]
    exact x_srch _ st hP.2.1 (by rw [hP.2.2.1]; exact hP.1) _ a x4 (s 1).toNatClampNeg 0 (by omega)
  | m + 1, j, st, a, x4, hj, hD, hP => by
    have ht : TG (Int32.ofNat j) := TG_n (by omega)
    obtain ⟨b, eb, fb', Db, rb⟩ := ya_goBoth (d + 3) st hD ht hf
    have rb : rp (-9) (b 47) (b 48) (bth s fm (Int32.ofNat j)) (tn s) := rb
    have hb := fb_bth hD.2.1 hf ht
    have hPb : rpR (b 1) (b 15) (b 16) s := by rw [fb' 1 rfl, fb' 15 rfl, fb' 16 rfl]; exact hP
    rw [eX11_liar_31, if_neg (not1439 (by omega)), eb]
    simp only [m_bd, Option.toList, List.cons_append, List.nil_append]
    rw [eX11_liar_47, x_wrong _ b h9 hPb rb hb]
    simp only [m_bd, Option.toList, List.cons_append, List.nil_append]
    rw [eX11_liar_51]
    unfold lrX
    by_cases q : wrI (gF s fm j) (s 1).toNatClampNeg = 0
    · rw [if_pos (show wrI (rf (bth s fm (Int32.ofNat j)) s) (s 1).toNatClampNeg = 0 from q), if_pos q]
      exact ⟨b, rfl, fr_mono fb' (by decide)⟩
    · rw [if_neg (show ¬ wrI (rf (bth s fm (Int32.ofNat j)) s) (s 1).toNatClampNeg = 0 from q), if_neg q, eX11_liar_61, s_bc]
      simp only [m_bd, Option.toList, List.cons_append, List.nil_append]
      rw [eX11_liar_66]
      obtain ⟨c, ec, fc⟩ := x_liar_r d h9 hf m (j + 1) b (ctX (gF s fm j) (s 1).toNatClampNeg a) (some (.int (wrI (gF s fm j) (s 1).toNatClampNeg))) (by omega) Db hPb
      refine ⟨c, ?_, fr_mono (fr_tr fb' fc) (by decide)⟩
      refine Eq.trans ?_ ec
      unfold ctX
      by_cases q2 : bcx (wrI (gF s fm j) (s 1).toNatClampNeg) = 1
      · rw [if_pos (show bcx (wrI (rf (bth s fm (Int32.ofNat j)) s) (s 1).toNatClampNeg) = 1 from q2), if_pos q2, eX11_liar_75, n_succ]
        rfl
      · rw [if_neg (show ¬ bcx (wrI (rf (bth s fm (Int32.ofNat j)) s) (s 1).toNatClampNeg) = 1 from q2), if_neg q2, eX11_liar_75, n_succ]
        rfl
theorem x_liar (d : Nat) {st : zS} (hR : Rel st) (x1 : Int32) : RT (m_evc (d + 8) 129 [.ref 0, .int x1] (SH, st)) (some (.int (a_liar x1 (st 86)))) (scr st) := by
  obtain ⟨hN, hV, h7, e0⟩ := Rel_x hR
  have hP := Rel_rp hR
  have h9 := hV.1.2
  have hd := hV.2.2.2.1
  unfold a_liar
  rw [cal_X11_liar, eX11_liar_0, s_isTowX _ st e0 hV.1]
  simp only [m_bd, Option.toList, List.cons_append, List.nil_append]
  rw [eX11_liar_8, bZ_if]
  by_cases h1 : gT (st 86) x1
  · rw [if_pos h1, if_pos h1]
    obtain ⟨fm, hf, rfl⟩ := gT_e h1
    obtain ⟨st1, e1, f1, D1⟩ := ya_takeD (d + 1) st hN hV hd.2
    rw [sd_self hd] at D1
    obtain ⟨st2, e2, f2⟩ := x_liar_r d h9 hf 1440 0 st1 0 none (by omega) D1 (by rw [f1 1 rfl, f1 15 rfl, f1 16 rfl]; exact hP)
    refine ⟨st2, ?_, scr_fr (fr_tr f1 f2) (by decide)⟩
    rw [eX11_liar_13, h7, hd.1, e1]
    simp only [m_bd, Option.toList, List.cons_append, List.nil_append]
    rw [eX11_liar_27, n_nat (show fm < 2147483648 by omega)]
    exact e2
  · rw [if_neg h1, if_neg h1]
    exact ⟨st, rfl, scr_refl st⟩
theorem mc_liar (d : Nat) {st : zS} (hR : Rel st) (x1 : Int32) : RT (m_evc (d + 9) 219 [.ref 85, .int x1] (SH, st)) (some (.int (a_liar x1 (st 86)))) (scr st) := by
  obtain ⟨hN, hV, h7, e0⟩ := Rel_x hR
  have hP := Rel_PG hR
  have h9 := hV.1.2
  unfold a_liar
  rw [cal_X12_liar, eX12_liar_0, s_isTM0 _ st hV]
  simp only [m_bd, Option.toList, List.cons_append, List.nil_append]
  rw [eX12_liar_5, bZ_if]
  by_cases h1 : gT (st 86) x1
  · rw [if_pos h1, if_pos h1]
    obtain ⟨fm, hf, rfl⟩ := gT_e h1
    obtain ⟨a, e1, f1, ⟨y, z, g1⟩, g13⟩ := m_find d hV hP hf
    obtain ⟨c, r1, r2, r3, r4, r5, r6⟩ := ft_eq (gF (st 86) fm) hP.2.1 1440 0 (0, -3, -3) (0, y, z) 0 (by omega) rfl rfl (by omega) (fun _ => rfl) (fun w => absurd rfl w)
    have e86 : a 86 = st 86 := f1.1 86 rfl
    rw [← g1] at r2
    have r2 : a 85 10 = Int32.ofNat c := r2
    refine ⟨a, ?_, f1⟩
    rw [eX12_liar_10, e1, n_nat (show fm < 2147483648 by omega)]
    simp only [m_bd, Option.toList, List.cons_append, List.nil_append]
    rw [eX12_liar_15]
    by_cases c0 : c = 0
    · have hno := (r6 c0).2
      obtain ⟨q, hq, eq⟩ := lp_64 (gF (st 86) fm) hP.2.1 1440 0 0 (by omega) hno
      rw [lr_2 (gF (st 86) fm) hP.2.1 1440 0 0 hno]
      have eq' : lp (fun j a => lp (ctF (gF (st 86) fm j) (st 86 1).toNatClampNeg) (st 86 1).toNatClampNeg 0 a) 1440 0 0 = Int32.ofNat q := eq
      rw [eq'] at g13 ⊢
      have run : ∀ (m r : Nat), r + m = (st 86 1).toNatClampNeg → m_ev none (d + 8) 219 17 [some (.ref 85), some (.int (Int32.ofNat fm)), some (.int (Int32.ofNat r))] [] (SH, a) = some (some (.int (srch (Int32.ofNat q) m r)), (SH, a)) := by
        intro m
        have h6 := hP.2.1
        induction m with
        | zero =>
          intro r hr
          rw [eX12_liar_17, if_neg (by
            rw [e86, hP.1, n_lt (by omega) (by omega)]; omega), eX12_liar_53]
          rfl
        | succ m ih =>
          intro r hr
          rw [eX12_liar_17, if_pos (by
            rw [e86, hP.1, n_lt (by omega) (by omega)]; omega), if_pos (by rw [r2, c0]; rfl), g13, s_has, bt_m ⟨q, by omega⟩ ⟨r, by omega⟩]
          simp only [m_bd, Option.toList, List.cons_append, List.nil_append]
          rw [eX12_liar_42, bZ_if]
          unfold srch
          by_cases w : bt (Int32.ofNat q) r = true
          · rw [if_pos w, if_pos w]
          · rw [if_neg w, if_neg w, eX12_liar_47, n_succ]
            exact ih (r + 1) (by omega)
      exact run (st 86 1).toNatClampNeg 0 (by omega)
    · have hex : ∃ i, 0 ≤ i ∧ i < 0 + 1440 ∧ wrI (gF (st 86) fm i) (st 86 1).toNatClampNeg = 0 := by
        by_cases w : ∃ i, 0 ≤ i ∧ i < 0 + 1440 ∧ wrI (gF (st 86) fm i) (st 86 1).toNatClampNeg = 0
        · exact w
        · exfalso
          have e := lp_cg (f := ftM (gF (st 86) fm) (st 86 1).toNatClampNeg) (g := fun _ a => a) 1440 0 (0, y, z) (fun i a i1 i2 => by
            unfold ftM
            rw [if_neg (fun v => w ⟨i, i1, i2, (fit_wr _ hP.2.1).mpr v⟩)])
          have id0 : ∀ (m j : Nat) (a : i3), lp (fun (_ : Nat) (a : i3) => a) m j a = a := by
            intro m
            induction m with
            | zero => intro j a; rfl
            | succ m ih => intro j a; exact ih (j + 1) a
          rw [e, id0] at g1
          have : a 85 10 = 0 := by
            have := congrArg Prod.fst g1
            exact this
          rw [this, ← n_00, n_eq (by omega) (by omega)] at r2
          exact c0 r2.symm
      rw [lr_1 (gF (st 86) fm) (st 86 1).toNatClampNeg 1440 0 0 hex]
      have run : ∀ (m r : Nat), r + m = (st 86 1).toNatClampNeg → m_ev none (d + 8) 219 17 [some (.ref 85), some (.int (Int32.ofNat fm)), some (.int (Int32.ofNat r))] [] (SH, a) = some (some (.int (-3)), (SH, a)) := by
        intro m
        have h6 := hP.2.1
        induction m with
        | zero =>
          intro r hr
          rw [eX12_liar_17, if_neg (by
            rw [e86, hP.1, n_lt (by omega) (by omega)]; omega), eX12_liar_53]
        | succ m ih =>
          intro r hr
          rw [eX12_liar_17, if_pos (by
            rw [e86, hP.1, n_lt (by omega) (by omega)]; omega), if_neg (by rw [r2, ← n_00, n_eq (by omega) (by omega)]; exact c0), eX12_liar_47, n_succ]
          exact ih (r + 1) (by omega)
      exact run (st 86 1).toNatClampNeg 0 (by omega)
  · rw [if_neg h1, if_neg h1]
    exact ⟨st, rfl, scr_refl st⟩
