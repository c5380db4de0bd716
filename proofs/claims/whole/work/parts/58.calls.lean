/-! CALLS: crossed, waits -/
def crP (f g : Nat → cH) (j : Nat) : Bool := match f j with
  | none => false
  | some a => match g j with
    | none => false
    | some b => !decide (a.1 < b.1)
def crs (f g : Nat → cH) : Nat → Nat → Int32
  | 0, _ => -3
  | m + 1, j => if crP f g j = true then Int32.ofNat j else crs f g m (j + 1)
def a_crossed (x1 x2 : Int32) (s : Nat → Int32) : Int32 := if TG x1 ∧ TG x2 then crs (wst s (isb 0) nob x1) (eas s (tn s - 1) x2) (tn s) 0 else -1
theorem bth_l {s : Nat → Int32} {n k : Nat} {t : Int32} (hk : k < n) : bth s (n - 1) t k = eas s (n - 1) t k := by
  unfold bth
  by_cases q : n - 1 ≤ k
  · have : k = n - 1 := by omega
    subst this
    rw [if_pos q]
    unfold eas wes
    rw [wst_at (isb_at _), if_pos (Nat.le_refl _), Nat.sub_self]
    rfl
  · rw [if_neg q]
theorem fb_eas {s : Nat → Int32} (hV : VN s) {fm : Nat} (hf : fm < tn s) {t : Int32} (ht : TG t) : fb (eas s fm t) (tn s) := fun k hk c h e => by
  unfold eas at e
  split at e
  · have := est_b hV hf ht (fm - k) (by omega) c h e
    have := ht.1
    omega
  · cases e
theorem crs_X (d : Nat) {st : zS} {n : Nat} {f g : Nat → cH} (h9 : n ≤ 9) (en : st 1 0 = Int32.ofNat n) (r1 : rp (-9) (st 47) (st 48) f n) (b1 : fb f n) (r2 : rp (-9) (st 52) (st 53) g n) (b2 : fb g n) (x1 x2 : Int32) : ∀ (m j : Nat), j + m = n → m_ev none (d + 1) 104 68 [some (.ref 0), some (.int x1), some (.int x2), some (.int (Int32.ofNat j))] [] (SH, st) = some (some (.int (crs f g m j)), (SH, st))
  | 0, j, h => by
    rw [eX11_crossed_68, en, if_neg (by rw [n_lt (by omega) (by omega)]; omega), eX11_crossed_130]
    rfl
  | m + 1, j, h => by
    have hj : j < n := by omega
    have ih := crs_X d h9 en r1 b1 r2 b2 x1 x2 m (j + 1) (by omega)
    rw [eX11_crossed_68, en, if_pos (by rw [n_lt (by omega) (by omega)]; omega), ya_rch _ st r1 b1 hj h9]
    simp only [m_bd, Option.toList, List.cons_append, List.nil_append]
    rw [eX11_crossed_87, bZ_if]
    unfold crs crP
    cases e : f j with
    | none => rw [if_neg iN, eX11_crossed_124, n_succ]; exact ih
    | some a =>
      rw [if_pos iS, yb_rch _ st r2 b2 hj h9]
      simp only [m_bd, Option.toList, List.cons_append, List.nil_append]
      rw [eX11_crossed_98, bZ_if]
      cases e2 : g j with
      | none => rw [if_neg iN, eX11_crossed_124, n_succ]; exact ih
      | some b =>
        obtain ⟨a1, a2⟩ := a
        obtain ⟨b1, b2⟩ := b
        rw [if_pos iS, ix_9 (show j < 9 by omega)]
        simp only [m_ob]
        rw [(rp_at r1 hj e).1, (rp_at r2 hj e2).1]
        by_cases q : a1 < b1
        · simp only [if_pos q]
          rw [eX11_crossed_124, n_succ, ih]
          simp [q]
        · simp only [if_neg q]
          simp [q]
theorem x_crossed (d : Nat) {st : zS} (hR : Rel st) (x1 x2 : Int32) : RT (m_evc (d + 8) 104 [.ref 0, .int x1, .int x2] (SH, st)) (some (.int (a_crossed x1 x2 (st 86)))) (scr st) := by
  obtain ⟨hN, hV, h7, e0⟩ := Rel_x hR
  have h9 := hV.1.2
  unfold a_crossed
  rw [cal_X11_crossed, eX11_crossed_0, s_isTX]
  simp only [m_bd, Option.toList, List.cons_append, List.nil_append]
  rw [eX11_crossed_4, bZ_if]
  by_cases h1 : TG x1
  · rw [if_pos h1, s_isTX]
    simp only [m_bd, Option.toList, List.cons_append, List.nil_append]
    rw [eX11_crossed_11, bZ_if]
    by_cases h2 : TG x2
    · rw [if_pos h2, if_pos ⟨h1, h2⟩, eX11_crossed_16, e0, hV.1.1]
      by_cases h0 : tn (st 86) = 0
      · rw [if_pos (by rw [h0]; rfl), h0]
        exact ⟨st, rfl, scr_refl st⟩
      · have hz : ¬ Int32.ofNat (tn (st 86)) = 0 := by rw [← n_00, n_eq (by omega) (by omega)]; exact h0
        rw [if_neg hz]
        have hd := hV.2.2.2.1
        obtain ⟨st1, e1, f1, D1, r1⟩ := s_cry0 d st hN hV h7 h1 (by omega)
        have h71 : st1 1 7 = st 86 2 := by rw [f1 1 rfl]; exact h7
        have h01 : st1 1 0 = st 86 0 := by rw [f1 1 rfl]; exact e0
        obtain ⟨st2, e2, f2, D2⟩ := yb_takeD (d + 1) st1 (CN_fr hN f1 rfl) hV hd.2
        rw [sd_self hd] at D2
        have h02 : st2 1 0 = st 86 0 := by rw [f2 1 rfl]; exact h01
        obtain ⟨st3, e3, f3, D3, r3⟩ := yb_goBoth (d + 3) st2 D2 h2 (fm := tn (st 86) - 1) (by omega)
        have h03 : st3 1 0 = st 86 0 := by rw [f3 1 rfl]; exact h02
        have q1 : rp (-9) (st3 47) (st3 48) (wst (st 86) (isb 0) nob x1) (tn (st 86)) := by
          rw [f3 47 rfl, f3 48 rfl, f2 47 rfl, f2 48 rfl]; exact r1
        have q2 : rp (-9) (st3 52) (st3 53) (eas (st 86) (tn (st 86) - 1) x2) (tn (st 86)) := fun k hk => by
          have := r3 k hk
          rw [bth_l hk] at this; exact this
        refine ⟨st3, ?_, scr_fr (fr_tr (fr_tr f1 f2) f3) (by decide)⟩
        rw [eX11_crossed_29, e1]
        simp only [m_bd, Option.toList, List.cons_append, List.nil_append]
        rw [eX11_crossed_35, h71, hd.1, e2]
        simp only [m_bd, Option.toList, List.cons_append, List.nil_append]
        have ep : Int32.ofNat (tn (st 86)) - 1 = Int32.ofNat (tn (st 86) - 1) := by
          conv => lhs; rw [show tn (st 86) = (tn (st 86) - 1) + 1 by omega]
          rw [n_pred]
        rw [eX11_crossed_49, h02, hV.1.1, ep, e3]
        simp only [m_bd, Option.toList, List.cons_append, List.nil_append]
        rw [eX11_crossed_66]
        exact crs_X (d + 6) h9 (by rw [h03]; exact hV.1.1) q1 (fb_wst hV h1) q2 (fb_eas hV (by omega) h2) x1 x2 (tn (st 86)) 0 (by omega)
    · rw [if_neg h2, if_neg (fun z => h2 z.2), eX11_crossed_14]
      exact ⟨st, rfl, scr_refl st⟩
  · rw [if_neg h1, if_neg (fun z => h1 z.1), eX11_crossed_14]
    exact ⟨st, rfl, scr_refl st⟩
theorem n_m3n : (-3 : Int32) < 0 := by decide
theorem crs_M (d : Nat) {st : zS} {n : Nat} {f g : Nat → cH} {hd1 : Nat → Int32} (h9 : n ≤ 9) (r1 : rp (-1) (st 92) hd1 f n) (b1 : fb f n) (r2 : rp (-1) (st 90) (st 91) g n) (b2 : fb g n) (x1 x2 : Int32) : ∀ (m j : Nat), j + m = n → m_ev none d 199 95 [some (.ref 85), some (.int x1), some (.int x2), some (.int (Int32.ofNat n)), some (.int (-1)), some (.int (Int32.ofNat j))] [] (SH, st) = some (some (.int (crs f g m j)), (SH, st))
  | 0, j, h => by
    rw [eX12_crossed_95, if_neg (by rw [n_lt (by omega) (by omega)]; omega), eX12_crossed_157, if_pos n_neg1, eX12_crossed_169]
    rfl
  | m + 1, j, h => by
    have hj : j < n := by omega
    have ih := crs_M d h9 r1 b1 r2 b2 x1 x2 m (j + 1) (by omega)
    have p1 := rp_neg r1 b1 hj
    have p2 := rp_neg r2 b2 hj
    have no : m_ev none d 199 148 [some (.ref 85), some (.int x1), some (.int x2), some (.int (Int32.ofNat n)), some (.int (-1)), some (.int (Int32.ofNat j))] [] (SH, st) = some (some (.int (crs f g m (j + 1))), (SH, st)) := by
      rw [eX12_crossed_148, eX12_crossed_149, n_succ]; exact ih
    rw [eX12_crossed_95, if_pos (by rw [n_lt (by omega) (by omega)]; omega), if_pos n_neg1, ix_9 (show j < 9 by omega)]
    simp only [m_ob]
    unfold crs crP
    cases e2 : g j with
    | none =>
      rw [if_pos (p2.mpr e2), no]
      cases f j with
      | none => rfl
      | some a => rfl
    | some b =>
      rw [if_neg (fun z => by rw [p2.mp z] at e2; cases e2)]
      cases e : f j with
      | none => rw [if_pos (p1.mpr e), no]; rfl
      | some a =>
        rw [if_neg (fun z => by rw [p1.mp z] at e; cases e)]
        obtain ⟨a1, a2⟩ := a
        obtain ⟨b1, b2⟩ := b
        rw [(rp_at r1 hj e).1, (rp_at r2 hj e2).1]
        by_cases q : a1 < b1
        · rw [if_pos q, no]
          simp [q]
        · rw [if_neg q, eX12_crossed_149]
          have hn : ¬ Int32.ofNat j < 0 := by rw [n_pos _ (by omega)]; exact id
          have fin : m_ev none d 199 157 [some (.ref 85), some (.int x1), some (.int x2), some (.int (Int32.ofNat n)), some (.int (Int32.ofNat j)), some (.int (Int32.ofNat j + 1))] [] (SH, st) = some (some (.int (Int32.ofNat j)), (SH, st)) := by
            rw [eX12_crossed_157, if_neg hn, eX12_crossed_167, eX12_crossed_169]
          rw [eX12_crossed_95, if_neg hn, fin]
          simp [q]
theorem mc_crossed (d : Nat) {st : zS} (hR : Rel st) (x1 x2 : Int32) : RT (m_evc (d + 8) 199 [.ref 85, .int x1, .int x2] (SH, st)) (some (.int (a_crossed x1 x2 (st 86)))) (scr st) := by
  obtain ⟨hN, hV, h7, e0⟩ := Rel_x hR
  have h9 := hV.1.2
  unfold a_crossed
  rw [cal_X12_crossed, eX12_crossed_0, s_isTM]
  simp only [m_bd, Option.toList, List.cons_append, List.nil_append]
  rw [eX12_crossed_4, bZ_if]
  by_cases h1 : TG x1
  · rw [if_pos h1, s_isTM]
    simp only [m_bd, Option.toList, List.cons_append, List.nil_append]
    rw [eX12_crossed_11, bZ_if]
    by_cases h2 : TG x2
    · rw [if_pos h2, if_pos ⟨h1, h2⟩, eX12_crossed_16, hV.1.1]
      obtain ⟨sa, ea, fa, ga⟩ := s_quiets (d + 6) st
      have fMa : fM st sa := ⟨fr_mono fa (by decide), fun j _ _ => by rw [fa 85 rfl]⟩
      rw [ea]
      simp only [m_bd, Option.toList, List.cons_append, List.nil_append]
      -- the first cry, if there is a tower
      have first : ∃ sb, fM st sb ∧ rp (-1) (sb 90) (sb 91) (wst (st 86) (isb 0) nob x1) (tn (st 86)) ∧ m_ev none (d + 7) 199 27 [some (.ref 85), some (.int x1), some (.int x2), some (.int (Int32.ofNat (tn (st 86)))), none, none] [] (SH, sa) = m_ev none (d + 7) 199 40 [some (.ref 85), some (.int x1), some (.int x2), some (.int (Int32.ofNat (tn (st 86)))), none, none] [] (SH, sb) := by
        by_cases h0 : tn (st 86) = 0
        · refine ⟨sa, fMa, fun k hk => by omega, ?_⟩
          rw [eX12_crossed_27, if_neg (by rw [h0]; decide)]
        · have e86 : sa 86 = st 86 := fa 86 rfl
          obtain ⟨sb, eb, fb1, kb, rb⟩ := s_goW1 (d + 1) (st := sa) (by rw [e86]; exact hV) (t := x1) (fm := 0) (by rw [e86]; omega) (mute := -1) nob_q ga
          rw [e86] at rb
          refine ⟨sb, fM_tr fMa fb1, rb, ?_⟩
          rw [n_00] at eb
          rw [eX12_crossed_27, if_pos (by rw [← n_00, n_lt (by omega) (by omega)]; omega), eb]
          simp only [m_bd, Option.toList, List.cons_append, List.nil_append]
      obtain ⟨sb, fMb, rb, ebb⟩ := first
      rw [ebb, eX12_crossed_40]
      have L := lp_inv (fun j (a : zS) => m_ev none (d + 7) 199 43 [some (.ref 85), some (.int x1), some (.int x2), some (.int (Int32.ofNat (tn (st 86)))), some (.int (Int32.ofNat j)), none] [] (SH, a)) (fun j a => fr [92] sb a ∧ ∀ k, k < j → a 92 k = sb 90 k) 9 ?_ 9 0 sb (by omega) ⟨fr_refl _ _, fun k hk => by omega⟩
      · obtain ⟨sc, ec, fc, gc⟩ := L
        refine RT_mono (Q := scr st) (P := scr st) ?_ (fun _ h => h)
        have ec : m_ev none (d + 7) 199 43 [some (.ref 85), some (.int x1), some (.int x2), some (.int (Int32.ofNat (tn (st 86)))), some (.int 0), none] [] (SH, sb) = _ := ec
        rw [ec, eX12_crossed_43, if_neg (by decide)]
        obtain ⟨sd2, ed, fd, gd⟩ := s_quiets (d + 6) sc
        rw [eX12_crossed_70, ed]
        simp only [m_bd, Option.toList, List.cons_append, List.nil_append]
        have s1 : scr st sd2 := scr_tr (scr_tr (scr_M fMb) (scr_fr fc rfl)) (scr_fr fd rfl)
        have e86 : sd2 86 = st 86 := s1.1 86 rfl
        have r92 : rp (-1) (sd2 92) (sb 91) (wst (st 86) (isb 0) nob x1) (tn (st 86)) := fun k hk => by
          have := rb k hk
          unfold rep1 at this ⊢
          rw [fd 92 rfl, gc k (by omega)]; exact this
        rw [eX12_crossed_74]
        by_cases h0 : tn (st 86) = 0
        · rw [if_neg (by rw [h0]; decide), eX12_crossed_89]
          refine ⟨sd2, ?_, s1⟩
          have := crs_M (d + 7) (st := sd2) (n := tn (st 86)) (g := eas (st 86) (tn (st 86) - 1) x2) h9 r92 (fb_wst hV h1) (fun k hk => by omega) (fun k hk => by omega) x1 x2 (tn (st 86)) 0 (by omega)
          exact this
        · have ep : Int32.ofNat (tn (st 86)) - 1 = Int32.ofNat (tn (st 86) - 1) := by
            conv => lhs; rw [show tn (st 86) = (tn (st 86) - 1) + 1 by omega]
            rw [n_pred]
          obtain ⟨se, ee, fe, ke, re⟩ := s_goE (d + 1) (st := sd2) (by rw [e86]; exact hV) (t := x2) (fm := tn (st 86) - 1) (by rw [e86]; omega) (fun i hi => gd i (by omega))
          rw [e86] at re
          have re2 : rp (-1) (se 90) (se 91) (eas (st 86) (tn (st 86) - 1) x2) (tn (st 86)) := fun k hk => by
            unfold eas
            rw [if_pos (by omega)]
            exact re k (by omega)
          have e92 : se 92 = sd2 92 := fe.1 92 rfl
          rw [if_pos (by rw [← n_00, n_lt (by omega) (by omega)]; omega), ep, ee]
          simp only [m_bd, Option.toList, List.cons_append, List.nil_append]
          rw [eX12_crossed_89]
          refine ⟨se, ?_, scr_tr s1 (scr_M fe)⟩
          exact crs_M (d + 7) (st := se) (n := tn (st 86)) h9 (by rw [e92]; exact r92) (fb_wst hV h1) re2 (fb_eas hV (by omega) h2) x1 x2 (tn (st 86)) 0 (by omega)
      · rintro j a hj ⟨f, g⟩
        have hlt : Int32.ofNat j < 9 := by
          rw [show (9 : Int32) = Int32.ofNat 9 from rfl, n_lt (by omega) (by omega)]; exact hj
        refine ⟨m_up a 92 j (a 90 j), ?_, fr_up f rfl, ?_⟩
        · rw [eX12_crossed_43, if_pos hlt, ix_9 hj]
          simp only [m_ob, n_succ]
        · intro k hk
          by_cases q : k = j
          · subst q; rw [up_in, f 90 rfl]
          · rw [up_nj q]; exact g k (by omega)
    · rw [if_neg h2, if_neg (fun z => h2 z.2), eX12_crossed_14]
      exact ⟨st, rfl, scr_refl st⟩
  · rw [if_neg h1, if_neg (fun z => h1 z.1), eX12_crossed_14]
    exact ⟨st, rfl, scr_refl st⟩
/-! waits -/
def mlF (s : Nat → Int32) (j : Nat) (a : Int32) : Int32 := a + s (15 + 6 * j)
def mlM (s : Nat → Int32) (lo hi : Nat) (j : Nat) (a : Int32) : Int32 := a + (if lo < j ∧ j ≤ hi then s (15 + 6 * j) else 0)
theorem ml_0 (s : Nat → Int32) (lo hi : Nat) : ∀ (m j : Nat) (a : Int32), (∀ i, j ≤ i → i < j + m → ¬ (lo < i ∧ i ≤ hi)) → lp (mlM s lo hi) m j a = a
  | 0, _, _, _ => rfl
  | m + 1, j, a, h => by
    show lp (mlM s lo hi) m (j + 1) (mlM s lo hi j a) = a
    have : mlM s lo hi j a = a := by
      unfold mlM
      rw [if_neg (h j (Nat.le_refl j) (by omega)), Int32.add_zero]
    rw [this]
    exact ml_0 s lo hi m (j + 1) a (fun i i1 i2 => h i (by omega) (by omega))
theorem ml_eq (s : Nat → Int32) {lo hi n : Nat} (h1 : lo < hi) (h2 : hi < n) : lp (mlM s lo hi) (n - 1) 1 0 = lp (mlF s) (hi - lo) (lo + 1) 0 := by
  rw [show n - 1 = lo + ((hi - lo) + (n - 1 - hi)) by omega, lp_split, lp_split, ml_0 s lo hi lo 1 0 (fun i i1 i2 => by omega), ml_0 s lo hi (n - 1 - hi) _ _ (fun i i1 i2 => by omega)]
  rw [show 1 + lo = lo + 1 by omega]
  exact lp_cg _ _ _ (fun i a i1 i2 => by
    unfold mlM mlF
    rw [if_pos ⟨by omega, by omega⟩])
def a_waits (x1 x2 x3 : Int32) (s : Nat → Int32) : Int32 := if (gT s x1 ∧ gT s x2 ∧ ¬ x1 = x2) ∧ TG x3 then (match wst s (isb 0) nob x3 x1.toNatClampNeg with
  | none => -3
  | some a => match wst s (isb 0) nob x3 x2.toNatClampNeg with
    | none => -3
    | some b => (b.1 + 720 - b.2) - (a.1 + 720 - a.2) - 20 * lp (mlF s) (max x1.toNatClampNeg x2.toNatClampNeg - min x1.toNatClampNeg x2.toNatClampNeg) (min x1.toNatClampNeg x2.toNatClampNeg + 1) 0 + 10000) else -1
theorem mx_X {a b : Nat} (ha : a < 9) (hb : b < 9) : (if Int32.ofNat a < Int32.ofNat b then Int32.ofNat b else Int32.ofNat a) = Int32.ofNat (max a b) := by
  by_cases h : a < b
  · rw [if_pos (show Int32.ofNat a < Int32.ofNat b by rw [n_lt (by omega) (by omega)]; omega), Nat.max_eq_right (by omega)]
  · rw [if_neg (show ¬ Int32.ofNat a < Int32.ofNat b by rw [n_lt (by omega) (by omega)]; omega), Nat.max_eq_left (by omega)]
theorem mn_X {a b : Nat} (ha : a < 9) (hb : b < 9) : (if Int32.ofNat b < Int32.ofNat a then Int32.ofNat b else Int32.ofNat a) = Int32.ofNat (min a b) := by
  by_cases h : b < a
  · rw [if_pos (show Int32.ofNat b < Int32.ofNat a by rw [n_lt (by omega) (by omega)]; omega), Nat.min_eq_right (by omega)]
  · rw [if_neg (show ¬ Int32.ofNat b < Int32.ofNat a by rw [n_lt (by omega) (by omega)]; omega), Nat.min_eq_left (by omega)]
theorem x_waits (d : Nat) {st : zS} (hR : Rel st) (x1 x2 x3 : Int32) : RT (m_evc (d + 8) 107 [.ref 0, .int x1, .int x2, .int x3] (SH, st)) (some (.int (a_waits x1 x2 x3 (st 86)))) (scr st) := by
  obtain ⟨hN, hV, h7, e0⟩ := Rel_x hR
  have h9 := hV.1.2
  unfold a_waits
  rw [cal_X11_waits, eX11_waits_0, s_isTowX _ st e0 hV.1]
  simp only [m_bd, Option.toList, List.cons_append, List.nil_append]
  rw [eX11_waits_8, bZ_if]
  by_cases h1 : gT (st 86) x1
  · rw [if_pos h1, s_isTowX _ st e0 hV.1]
    simp only [m_bd, Option.toList, List.cons_append, List.nil_append]
    rw [eX11_waits_19, bZ_if]
    by_cases h2 : gT (st 86) x2
    · rw [if_pos h2]
      by_cases h4 : x1 = x2
      · rw [if_pos h4, if_neg (fun z => z.1.2.2 h4), eX11_waits_34]
        exact ⟨st, rfl, scr_refl st⟩
      rw [if_neg h4, s_isTX]
      simp only [m_bd, Option.toList, List.cons_append, List.nil_append]
      rw [eX11_waits_31, bZ_if]
      by_cases h3 : TG x3
      · rw [if_pos h3, if_pos ⟨⟨h1, h2, h4⟩, h3⟩]
        obtain ⟨a, ha, rfl⟩ := gT_e h1
        obtain ⟨b, hb', rfl⟩ := gT_e h2
        obtain ⟨st1, e1, f1, D1, r1⟩ := s_cry0 d st hN hV h7 h3 (by omega)
        have hb := fb_wst (b := isb 0) (q := nob) hV h3
        refine ⟨st1, ?_, scr_fr f1 rfl⟩
        rw [eX11_waits_36, e1]
        simp only [m_bd, Option.toList, List.cons_append, List.nil_append]
        rw [eX11_waits_42, ya_rch _ st1 r1 hb ha h9, n_nat (show a < 2147483648 by omega), n_nat (show b < 2147483648 by omega)]
        simp only [m_bd, Option.toList, List.cons_append, List.nil_append]
        rw [eX11_waits_50, bZ_if]
        cases ea : wst (st 86) (isb 0) nob x3 a with
        | none => rw [if_neg iN, eX11_waits_64]
        | some ca =>
          obtain ⟨a1, a2⟩ := ca
          rw [if_pos iS, ya_rch _ st1 r1 hb hb' h9]
          simp only [m_bd, Option.toList, List.cons_append, List.nil_append]
          rw [eX11_waits_61, bZ_if]
          cases eb : wst (st 86) (isb 0) nob x3 b with
          | none => rw [if_neg iN, eX11_waits_64]
          | some cb' =>
            obtain ⟨b1, b2⟩ := cb'
            rw [if_pos iS, eX11_waits_67, mn_X (show a < 9 by omega) (show b < 9 by omega), n_succ]
            have hmm : min a b ≤ max a b := Nat.le_trans (Nat.min_le_left a b) (Nat.le_max_left a b)
            have hmx : max a b < tn (st 86) := Nat.max_lt.mpr ⟨ha, hb'⟩
            have hN1 := CN_fr hN f1 rfl
            have L := lp_ev (fun j (acc : Int32) => m_ev none (d + 7) 107 79 [some (.ref 0), some (.int (Int32.ofNat a)), some (.int (Int32.ofNat b)), some (.int x3), some (.int acc), some (.int (Int32.ofNat j))] [] (SH, st1)) (mlF (st 86)) (max a b + 1) (fun acc => some (some (.int ((b1 + 720 - b2) - (a1 + 720 - a2) - 20 * acc + 10000)), (SH, st1))) ?_ ?_ (max a b - min a b) (min a b + 1) 0 (by omega)
            · exact L
            · intro j acc hj
              rw [eX11_waits_79, mx_X (show a < 9 by omega) (show b < 9 by omega), if_neg (by rw [n_lt (by omega) (by omega)]; omega), ix_9 (show j < 9 by omega)]
              simp only [m_ob]
              rw [(hN1.2.2.2.1 j (by omega)).2.2.2, n_succ]
              rfl
            · intro acc
              rw [eX11_waits_79, mx_X (show a < 9 by omega) (show b < 9 by omega), if_pos (by rw [n_lt (by omega) (by omega)]; omega), eX11_waits_110, ya_noon _ st1 r1 hb' h9 eb]
              simp only [m_bd, Option.toList, List.cons_append, List.nil_append]
              rw [eX11_waits_118, ya_noon _ st1 r1 ha h9 ea]
              simp only [m_bd, Option.toList, List.cons_append, List.nil_append]
              rw [eX11_waits_126, Int32.sub_sub (b1 + 720 - b2)]
      · rw [if_neg h3, if_neg (fun z => h3 z.2), eX11_waits_34]
        exact ⟨st, rfl, scr_refl st⟩
    · rw [if_neg h2, if_neg (fun z => h2 z.1.2.1), eX11_waits_34]
      exact ⟨st, rfl, scr_refl st⟩
  · rw [if_neg h1, if_neg (fun z => h1 z.1.1), eX11_waits_34]
    exact ⟨st, rfl, scr_refl st⟩
theorem mc_waits (d : Nat) {st : zS} (hR : Rel st) (x1 x2 x3 : Int32) : RT (m_evc (d + 8) 204 [.ref 85, .int x1, .int x2, .int x3] (SH, st)) (some (.int (a_waits x1 x2 x3 (st 86)))) (scr st) := by
  obtain ⟨hN, hV, h7, e0⟩ := Rel_x hR
  have h9 := hV.1.2
  unfold a_waits
  rw [cal_X12_waits, eX12_waits_0, s_isTM0 _ st hV]
  simp only [m_bd, Option.toList, List.cons_append, List.nil_append]
  rw [eX12_waits_5, bZ_if]
  by_cases h1 : gT (st 86) x1
  · rw [if_pos h1, s_isTM0 _ st hV]
    simp only [m_bd, Option.toList, List.cons_append, List.nil_append]
    rw [eX12_waits_13, bZ_if]
    by_cases h2 : gT (st 86) x2
    · rw [if_pos h2]
      by_cases h4 : x1 = x2
      · rw [if_pos h4, if_neg (fun z => z.1.2.2 h4), eX12_waits_28]
        exact ⟨st, rfl, scr_refl st⟩
      rw [if_neg h4, s_isTM]
      simp only [m_bd, Option.toList, List.cons_append, List.nil_append]
      rw [eX12_waits_25, bZ_if]
      by_cases h3 : TG x3
      · rw [if_pos h3, if_pos ⟨⟨h1, h2, h4⟩, h3⟩]
        obtain ⟨a, ha, rfl⟩ := gT_e h1
        obtain ⟨b, hb', rfl⟩ := gT_e h2
        have hab : a ≠ b := fun z => h4 (by rw [z])
        obtain ⟨st1, e1, f1, r1⟩ := s_first d (st := st) hV (t := x3) (by omega) nob_q
        have hb := fb_wst (b := isb 0) (q := nob) hV h3
        have p1 := rp_neg r1 hb ha
        have p2 := rp_neg r1 hb hb'
        have e86 : st1 86 = st 86 := f1.1 86 rfl
        have en : st1 86 0 = Int32.ofNat (tn (st 86)) := by rw [e86]; exact hV.1.1
        refine ⟨st1, ?_, scr_M f1⟩
        rw [eX12_waits_30, e1, n_nat (show a < 2147483648 by omega), n_nat (show b < 2147483648 by omega)]
        simp only [m_bd, Option.toList, List.cons_append, List.nil_append]
        rw [eX12_waits_36, ix_9 (show a < 9 by omega), ix_9 (show b < 9 by omega)]
        simp only [m_ob]
        cases ea : wst (st 86) (isb 0) nob x3 a with
        | none => rw [if_pos (p1.mpr ea), eX12_waits_54]
        | some ca =>
          obtain ⟨a1, a2⟩ := ca
          rw [if_neg (fun z => by rw [p1.mp z] at ea; cases ea)]
          cases eb : wst (st 86) (isb 0) nob x3 b with
          | none => rw [if_pos (p2.mpr eb), eX12_waits_54]
          | some cb' =>
            obtain ⟨b1, b2⟩ := cb'
            rw [if_neg (fun z => by rw [p2.mp z] at eb; cases eb), eX12_waits_57]
            have L := lp_inv (fun j (acc : Int32 × Option Value) => m_ev none (d + 7) 204 63 [some (.ref 85), some (.int (Int32.ofNat a)), some (.int (Int32.ofNat b)), some (.int x3), some (.int acc.1), some (.int (Int32.ofNat j)), acc.2] [] (SH, st1)) (fun j acc => acc.1 = lp (mlM (st 86) (min a b) (max a b)) (j - 1) 1 0 ∧ 1 ≤ j) (tn (st 86)) ?_ (tn (st 86) - 1) 1 (0, none) (by omega) ⟨rfl, Nat.le_refl 1⟩
            · obtain ⟨⟨acc, x6⟩, e, hacc, _⟩ := L
              have hacc : acc = lp (mlM (st 86) (min a b) (max a b)) (tn (st 86) - 1) 1 0 := hacc
              refine Eq.trans e ?_
              simp only
              rw [eX12_waits_63, en, if_neg (by rw [n_lt (by omega) (by omega)]; omega), eX12_waits_145, m_noon _ st1 r1 hb' h9 eb]
              simp only [m_bd, Option.toList, List.cons_append, List.nil_append]
              rw [eX12_waits_150, m_noon _ st1 r1 ha h9 ea]
              simp only [m_bd, Option.toList, List.cons_append, List.nil_append]
              rw [eX12_waits_155, hacc, ml_eq (st 86) (by omega) (Nat.max_lt.mpr ⟨ha, hb'⟩)]
            · rintro j ⟨acc, x6⟩ hj ⟨hI, h1j⟩
              have hI : acc = lp (mlM (st 86) (min a b) (max a b)) (j - 1) 1 0 := hI
              have hnext : mlM (st 86) (min a b) (max a b) j acc = lp (mlM (st 86) (min a b) (max a b)) (j + 1 - 1) 1 0 := by
                rw [hI, show j + 1 - 1 = (j - 1) + 1 by omega, lp_last, show 1 + (j - 1) = j by omega]
              have hnx : ∀ y : Int32, m_ev none (d + 7) 204 136 [some (.ref 85), some (.int (Int32.ofNat a)), some (.int (Int32.ofNat b)), some (.int x3), some (.int acc), some (.int (Int32.ofNat j)), some (.int y)] [.int (if min a b < j ∧ j ≤ max a b then st 86 (15 + 6 * j) else 0), .int acc] (SH, st1) = m_ev none (d + 7) 204 63 [some (.ref 85), some (.int (Int32.ofNat a)), some (.int (Int32.ofNat b)), some (.int x3), some (.int (mlM (st 86) (min a b) (max a b) j acc)), some (.int (Int32.ofNat (j + 1))), some (.int y)] [] (SH, st1) := by
                intro y
                rw [eX12_waits_136, n_succ]
                rfl
              have yes : min a b < j ∧ j ≤ max a b → m_ev none (d + 7) 204 116 [some (.ref 85), some (.int (Int32.ofNat a)), some (.int (Int32.ofNat b)), some (.int x3), some (.int acc), some (.int (Int32.ofNat j)), x6] [.int 1] (SH, st1) = m_ev none (d + 7) 204 63 [some (.ref 85), some (.int (Int32.ofNat a)), some (.int (Int32.ofNat b)), some (.int x3), some (.int (mlM (st 86) (min a b) (max a b) j acc)), some (.int (Int32.ofNat (j + 1))), some (.int 1)] [] (SH, st1) := by
                intro q
                rw [eX12_waits_116, if_neg i_10, s_its3 _ _ (show j < 9 by omega), e86]
                simp only [m_bd, Option.toList, List.cons_append, List.nil_append]
                rw [eX12_waits_132, ← hnx 1, if_pos q]
              have no : ¬ (min a b < j ∧ j ≤ max a b) → m_ev none (d + 7) 204 116 [some (.ref 85), some (.int (Int32.ofNat a)), some (.int (Int32.ofNat b)), some (.int x3), some (.int acc), some (.int (Int32.ofNat j)), x6] [.int 0] (SH, st1) = m_ev none (d + 7) 204 63 [some (.ref 85), some (.int (Int32.ofNat a)), some (.int (Int32.ofNat b)), some (.int x3), some (.int (mlM (st 86) (min a b) (max a b) j acc)), some (.int (Int32.ofNat (j + 1))), some (.int 0)] [] (SH, st1) := by
                intro q
                rw [eX12_waits_116, if_pos rfl, eX12_waits_135, ← hnx 0, if_neg q]
              by_cases q : min a b < j ∧ j ≤ max a b
              · refine ⟨(mlM (st 86) (min a b) (max a b) j acc, some (.int 1)), ?_, hnext, by omega⟩
                simp only
                rw [eX12_waits_63, en, if_pos (by rw [n_lt (by omega) (by omega)]; exact hj)]
                by_cases w : a < b
                · rw [Nat.min_eq_left (by omega), Nat.max_eq_right (by omega)] at q
                  rw [if_pos (show Int32.ofNat a < Int32.ofNat b by rw [n_lt (by omega) (by omega)]; omega), if_pos (show Int32.ofNat a < Int32.ofNat j by rw [n_lt (by omega) (by omega)]; omega), if_neg (show ¬ Int32.ofNat b < Int32.ofNat j by rw [n_lt (by omega) (by omega)]; omega)]
                  exact yes (by rw [Nat.min_eq_left (by omega), Nat.max_eq_right (by omega)]; exact q)
                · rw [Nat.min_eq_right (by omega), Nat.max_eq_left (by omega)] at q
                  rw [if_neg (show ¬ Int32.ofNat a < Int32.ofNat b by rw [n_lt (by omega) (by omega)]; omega), eX12_waits_99, if_pos (show Int32.ofNat b < Int32.ofNat j by rw [n_lt (by omega) (by omega)]; omega), if_neg (show ¬ Int32.ofNat a < Int32.ofNat j by rw [n_lt (by omega) (by omega)]; omega)]
                  exact yes (by rw [Nat.min_eq_right (by omega), Nat.max_eq_left (by omega)]; exact q)
              · refine ⟨(mlM (st 86) (min a b) (max a b) j acc, some (.int 0)), ?_, hnext, by omega⟩
                simp only
                rw [eX12_waits_63, en, if_pos (by rw [n_lt (by omega) (by omega)]; exact hj)]
                have no := no q
                by_cases w : a < b
                · rw [Nat.min_eq_left (by omega), Nat.max_eq_right (by omega)] at q
                  rw [if_pos (show Int32.ofNat a < Int32.ofNat b by rw [n_lt (by omega) (by omega)]; omega)]
                  by_cases w2 : a < j
                  · rw [if_pos (show Int32.ofNat a < Int32.ofNat j by rw [n_lt (by omega) (by omega)]; omega), if_pos (show Int32.ofNat b < Int32.ofNat j by rw [n_lt (by omega) (by omega)]; omega), eX12_waits_95]; exact no
                  · rw [if_neg (show ¬ Int32.ofNat a < Int32.ofNat j by rw [n_lt (by omega) (by omega)]; omega), eX12_waits_95]; exact no
                · rw [Nat.min_eq_right (by omega), Nat.max_eq_left (by omega)] at q
                  rw [if_neg (show ¬ Int32.ofNat a < Int32.ofNat b by rw [n_lt (by omega) (by omega)]; omega), eX12_waits_99]
                  by_cases w2 : b < j
                  · rw [if_pos (show Int32.ofNat b < Int32.ofNat j by rw [n_lt (by omega) (by omega)]; omega), if_pos (show Int32.ofNat a < Int32.ofNat j by rw [n_lt (by omega) (by omega)]; omega), eX12_waits_115]; exact no
                  · rw [if_neg (show ¬ Int32.ofNat b < Int32.ofNat j by rw [n_lt (by omega) (by omega)]; omega), eX12_waits_115]; exact no
      · rw [if_neg h3, if_neg (fun z => h3 z.2), eX12_waits_28]
        exact ⟨st, rfl, scr_refl st⟩
    · rw [if_neg h2, if_neg (fun z => h2 z.1.2.1), eX12_waits_28]
      exact ⟨st, rfl, scr_refl st⟩
  · rw [if_neg h1, if_neg (fun z => h1 z.1.1), eX12_waits_28]
    exact ⟨st, rfl, scr_refl st⟩
