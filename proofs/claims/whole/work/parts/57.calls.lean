/-! CALLS: lost, latest, crossed, waits -/
theorem wst_mu {s : Nat → Int32} {t : Int32} {k : Nat} : ∀ i, i ≤ k → wst s (isb 0) (isb k) t i = wst s (isb 0) nob t i
  | 0, _ => rfl
  | i + 1, h => by
    have e1 : (isb k i = true) ↔ (nob i = true) := by
      rw [isb_lt (show i ≠ k by omega)]
      exact ⟨fun z => by (cases z), fun z => by (cases z)⟩
    have ih := wst_mu (s := s) (t := t) (k := k) i (by omega)
    unfold wst
    rw [ih]
    by_cases q : isb 0 (i + 1) = true
    · rw [if_pos q, if_pos q]
    · rw [if_neg q, if_neg q]
      cases wst s (isb 0) nob t i with
      | none => rfl
      | some ch =>
        obtain ⟨c, g⟩ := ch
        show (if _ then _ else _) = (if _ then _ else _)
        by_cases z : (sil s i = true ∧ isb 0 i = false) ∨ nob i = true
        · rw [if_pos z, if_pos (z.imp id e1.mpr)]
        · rw [if_neg z, if_neg (fun w => z (w.imp id e1.mp))]
theorem wst_mu2 {s : Nat → Int32} {t : Int32} {k i : Nat} (h : k < i) : wst s (isb 0) (isb k) t i = none := by
  have h1 : wst s (isb 0) (isb k) t (k + 1) = none := by
    unfold wst
    rw [if_neg (by unfold isb; simp)]
    cases wst s (isb 0) (isb k) t k with
    | none => rfl
    | some ch =>
      obtain ⟨c, g⟩ := ch
      show (if _ then _ else _) = _
      rw [if_pos (Or.inr (isb_at k))]
  exact wst_dn h1 i (by omega) (fun j j1 j2 => isb_lt (by omega))
theorem cnt_add (f : Nat → cH) : ∀ (m j : Nat) (a : Int32), lp (cntF f) m j a = a + lp (cntF f) m j 0
  | 0, j, a => (Int32.add_zero a).symm
  | m + 1, j, a => by
    show lp (cntF f) m (j + 1) (cntF f j a) = a + lp (cntF f) m (j + 1) (cntF f j 0)
    rw [cnt_add f m (j + 1) (cntF f j a), cnt_add f m (j + 1) (cntF f j 0)]
    unfold cntF
    cases f j with
    | none => rw [Int32.zero_add]
    | some ch => rw [Int32.zero_add, Int32.add_assoc]
theorem cnt_no (f : Nat → cH) : ∀ (m j : Nat) (a : Int32), (∀ i, j ≤ i → f i = none) → lp (cntF f) m j a = a
  | 0, j, a, h => rfl
  | m + 1, j, a, h => by
    show lp (cntF f) m (j + 1) (cntF f j a) = a
    have : cntF f j a = a := by unfold cntF; rw [h j (Nat.le_refl j)]
    rw [this]
    exact cnt_no f m (j + 1) a (fun i hi => h i (by omega))
theorem cnt_lost {s : Nat → Int32} {t : Int32} {k n : Nat} (hk : k < n) : lp (cntF (wst s (isb 0) nob t)) n 0 0 - lp (cntF (wst s (isb 0) (isb k) t)) n 0 0 = lp (cntF (wst s (isb 0) nob t)) (n - (k + 1)) (k + 1) 0 := by
  have e : n = (k + 1) + (n - (k + 1)) := by omega
  have h1 : lp (cntF (wst s (isb 0) nob t)) n 0 0 = lp (cntF (wst s (isb 0) nob t)) (k + 1) 0 0 + lp (cntF (wst s (isb 0) nob t)) (n - (k + 1)) (k + 1) 0 := by
    conv => lhs; rw [e, lp_split, Nat.zero_add, cnt_add]
  have h2 : lp (cntF (wst s (isb 0) (isb k) t)) n 0 0 = lp (cntF (wst s (isb 0) nob t)) (k + 1) 0 0 := by
    conv => lhs; rw [e, lp_split, Nat.zero_add]
    rw [cnt_no _ _ _ _ (fun i hi => wst_mu2 (by omega))]
    exact lp_cg (k + 1) 0 0 (fun i a _ hi => by unfold cntF; rw [wst_mu i (by omega)])
  rw [h1, h2, Int32.add_comm, Int32.add_sub_cancel]
def a_lost (x1 x2 : Int32) (s : Nat → Int32) : Int32 := if gT s x1 ∧ TG x2 then lp (cntF (wst s (isb 0) nob x2)) (tn s - (x1.toNatClampNeg + 1)) (x1.toNatClampNeg + 1) 0 else -1
theorem x_lost (d : Nat) {st : zS} (hR : Rel st) (x1 x2 : Int32) : RT (m_evc (d + 8) 114 [.ref 0, .int x1, .int x2] (SH, st)) (some (.int (a_lost x1 x2 (st 86)))) (scr st) := by
  obtain ⟨hN, hV, h7, e0⟩ := Rel_x hR
  have h9 := hV.1.2
  unfold a_lost
  rw [cal_X11_lost, eX11_lost_0, s_isTowX _ st e0 hV.1]
  simp only [m_bd, Option.toList, List.cons_append, List.nil_append]
  rw [eX11_lost_8, bZ_if]
  by_cases h1 : gT (st 86) x1
  · rw [if_pos h1, s_isTX]
    simp only [m_bd, Option.toList, List.cons_append, List.nil_append]
    rw [eX11_lost_15, bZ_if]
    by_cases h2 : TG x2
    · rw [if_pos h2, if_pos ⟨h1, h2⟩]
      obtain ⟨k, hk, rfl⟩ := gT_e h1
      obtain ⟨st1, e1, f1, D1, r1⟩ := s_cry0 d st hN hV h7 h2 (by omega)
      have hb := fb_wst (b := isb 0) (q := nob) hV h2
      have en : st1 1 0 = Int32.ofNat (tn (st 86)) := by rw [f1 1 rfl, e0]; exact hV.1.1
      refine ⟨st1, ?_, scr_fr f1 rfl⟩
      rw [eX11_lost_20, e1]
      simp only [m_bd, Option.toList, List.cons_append, List.nil_append]
      rw [eX11_lost_26, n_nat (show k < 2147483648 by omega), n_succ]
      refine lp_ev (fun j (a : Int32) => m_ev none (d + 7) 114 33 [some (.ref 0), some (.int (Int32.ofNat k)), some (.int x2), some (.int a), some (.int (Int32.ofNat j))] [] (SH, st1)) (cntF (wst (st 86) (isb 0) nob x2)) (tn (st 86)) (fun a => some (some (.int a), (SH, st1))) ?_ ?_ (tn (st 86) - (k + 1)) (k + 1) 0 (by omega)
      · intro j a hj
        rw [eX11_lost_33, en, if_pos (by rw [n_lt (by omega) (by omega)]; exact hj), ya_rch _ st1 r1 hb hj h9]
        simp only [m_bd, Option.toList, List.cons_append, List.nil_append]
        rw [eX11_lost_54, bZ_if]
        unfold cntF
        cases e : wst (st 86) (isb 0) nob x2 j with
        | none => rw [if_neg iN, eX11_lost_60, n_succ]
        | some ch => rw [if_pos iS, eX11_lost_60, n_succ]
      · intro a
        rw [eX11_lost_33, en, if_neg (by rw [n_lt (by omega) (by omega)]; omega), eX11_lost_66]
    · rw [if_neg h2, if_neg (fun z => h2 z.2), eX11_lost_18]
      exact ⟨st, rfl, scr_refl st⟩
  · rw [if_neg h1, if_neg (fun z => h1 z.1), eX11_lost_18]
    exact ⟨st, rfl, scr_refl st⟩
theorem mc_lost (d : Nat) {st : zS} (hR : Rel st) (x1 x2 : Int32) : RT (m_evc (d + 8) 213 [.ref 85, .int x1, .int x2] (SH, st)) (some (.int (a_lost x1 x2 (st 86)))) (scr st) := by
  obtain ⟨hN, hV, h7, e0⟩ := Rel_x hR
  have h9 := hV.1.2
  unfold a_lost
  rw [cal_X12_lost, eX12_lost_0, s_isTM0 _ st hV]
  simp only [m_bd, Option.toList, List.cons_append, List.nil_append]
  rw [eX12_lost_5, bZ_if]
  by_cases h1 : gT (st 86) x1
  · rw [if_pos h1, s_isTM]
    simp only [m_bd, Option.toList, List.cons_append, List.nil_append]
    rw [eX12_lost_12, bZ_if]
    by_cases h2 : TG x2
    · rw [if_pos h2, if_pos ⟨h1, h2⟩]
      obtain ⟨k, hk, rfl⟩ := gT_e h1
      obtain ⟨st1, e1, f1, r1⟩ := s_first d (st := st) hV (t := x2) (by omega) nob_q
      have e86 : st1 86 = st 86 := f1.1 86 rfl
      obtain ⟨st2, e2, f2, r2⟩ := s_first d (st := st1) (by rw [e86]; exact hV) (t := x2) (by rw [e86]; omega) (mute := Int32.ofNat k) (q := isb k) (fun j hj => by
        rw [n_eq (by omega) (by omega)]
        unfold isb
        simp)
      rw [e86] at r2
      have e862 : st2 86 = st 86 := by rw [f2.1 86 rfl, e86]
      refine ⟨st2, ?_, scr_M (fM_tr f1 f2)⟩
      rw [eX12_lost_17, e1]
      simp only [m_bd, Option.toList, List.cons_append, List.nil_append]
      rw [eX12_lost_23, m_cnt _ st1 (by rw [e86]; exact hV.1.1) h9 r1 (fb_wst hV h2)]
      simp only [m_bd, Option.toList, List.cons_append, List.nil_append]
      rw [eX12_lost_27, e2]
      simp only [m_bd, Option.toList, List.cons_append, List.nil_append]
      rw [eX12_lost_34, m_cnt _ st2 (by rw [e862]; exact hV.1.1) h9 r2 (fb_wst hV h2)]
      simp only [m_bd, Option.toList, List.cons_append, List.nil_append]
      rw [eX12_lost_39, cnt_lost hk, n_nat (show k < 2147483648 by omega)]
    · rw [if_neg h2, if_neg (fun z => h2 z.2), eX12_lost_15]
      exact ⟨st, rfl, scr_refl st⟩
  · rw [if_neg h1, if_neg (fun z => h1 z.1), eX12_lost_15]
    exact ⟨st, rfl, scr_refl st⟩
/-- the latest t, of those below a number -/
def lat (s : Nat → Int32) (fm k : Nat) (b : Int32) : Nat → Int32
  | 0 => -3
  | t + 1 => match bth s fm (Int32.ofNat t) k with
    | none => lat s fm k b t
    | some ch => if b < ch.1 then lat s fm k b t else Int32.ofNat t
theorem lat_up {s : Nat → Int32} (hV : VN s) {fm k : Nat} (hf : fm < tn s) (hk : k < tn s) {b : Int32} : ∀ n : Nat, b.toInt + 1 + n ≤ 1440 → 0 ≤ b.toInt → lat s fm k b ((b.toInt + 1).toNat + n) = lat s fm k b (b.toInt + 1).toNat
  | 0, _, _ => rfl
  | n + 1, h, h0 => by
    have ih := lat_up hV hf hk (b := b) n (by omega) h0
    show lat s fm k b (((b.toInt + 1).toNat + n) + 1) = _
    conv => lhs; unfold lat
    cases e : bth s fm (Int32.ofNat ((b.toInt + 1).toNat + n)) k with
    | none => exact ih
    | some ch =>
      obtain ⟨c, g⟩ := ch
      have ht : (Int32.ofNat ((b.toInt + 1).toNat + n)).toInt = b.toInt + 1 + n := by rw [n_int (by omega)]; omega
      have := (bth_b hV hf (t := Int32.ofNat ((b.toInt + 1).toNat + n)) ⟨by rw [ht]; omega, by rw [ht]; omega⟩ hk e).1
      show (if b < c then _ else _) = _
      rw [if_pos (by rw [i_lt]; omega)]
      exact ih
theorem n_m1t : Int32.ofNat 0 + (-1) = -1 := rfl
def a_latest (x1 x2 x3 : Int32) (s : Nat → Int32) : Int32 := if (gT s x1 ∧ gT s x2) ∧ gR 0 9999 x3 then lat s x1.toNatClampNeg x2.toNatClampNeg x3 1440 else -1
theorem TG_n {t : Nat} (h : t < 1440) : TG (Int32.ofNat t) := by
  show 0 ≤ (Int32.ofNat t).toInt ∧ (Int32.ofNat t).toInt ≤ 1439
  rw [n_int (by omega)]; omega
theorem lat_X (d : Nat) {s : Nat → Int32} {fm k : Nat} (hf : fm < tn s) (hk : k < tn s) (x3 : Int32) : ∀ (T : Nat) (st : zS), T ≤ 1440 → ya_D st s → RT (m_ev none (d + 4) 110 54 [some (.ref 0), some (.int (Int32.ofNat fm)), some (.int (Int32.ofNat k)), some (.int x3), some (.int (Int32.ofNat T + (-1)))] [] (SH, st)) (some (.int (lat s fm k x3 T))) (fr [17, 44, 45, 46, 47, 48] st)
  | 0, st, hT, hD => by
    refine ⟨st, ?_, fr_refl _ _⟩
    rw [n_m1t, eX11_latest_54, if_pos n_neg1, eX11_latest_102]
    rfl
  | T + 1, st, hT, hD => by
    have h9 := hD.2.1.1.2
    have ht : TG (Int32.ofNat T) := TG_n (by omega)
    obtain ⟨st1, e1, f1, D1, r1⟩ := ya_goBoth d st hD ht hf
    have hb := fb_bth hD.2.1 hf ht
    obtain ⟨st2, e2, f2⟩ := lat_X d hf hk x3 T st1 (by omega) D1
    have hn : ¬ Int32.ofNat T < 0 := by rw [n_pos _ (by omega)]; exact id
    have r1 : rp (-9) (st1 47) (st1 48) (bth s fm (Int32.ofNat T)) (tn s) := r1
    rw [n_predm, eX11_latest_54, if_neg hn, e1]
    simp only [m_bd, Option.toList, List.cons_append, List.nil_append]
    rw [eX11_latest_69, ya_rch _ st1 r1 hb hk h9]
    simp only [m_bd, Option.toList, List.cons_append, List.nil_append]
    rw [eX11_latest_77, bZ_if]
    unfold lat
    cases e : bth s fm (Int32.ofNat T) k with
    | none =>
      rw [if_neg iN, eX11_latest_96]
      exact ⟨st2, e2, fr_mono (fr_tr f1 f2) (by decide)⟩
    | some ch =>
      obtain ⟨c, g⟩ := ch
      obtain ⟨w1, w2⟩ := rp_at r1 hk e
      rw [if_pos iS, ix_9 (show k < 9 by omega)]
      simp only [m_ob]
      rw [w1]
      by_cases q : x3 < c
      · simp only [if_pos q]
        rw [eX11_latest_96]
        exact ⟨st2, e2, fr_mono (fr_tr f1 f2) (by decide)⟩
      · simp only [if_neg q]
        exact ⟨st1, rfl, fr_mono f1 (by decide)⟩
theorem lat_M (d : Nat) {s : Nat → Int32} (hV : VN s) {fm k : Nat} (hf : fm < tn s) (hk : k < tn s) (x3 : Int32) : ∀ (T : Nat) (st : zS), T ≤ 1440 → st 86 = s → RT (m_ev none (d + 7) 208 35 [some (.ref 85), some (.int (Int32.ofNat fm)), some (.int (Int32.ofNat k)), some (.int x3), some (.int (Int32.ofNat T + (-1)))] [] (SH, st)) (some (.int (lat s fm k x3 T))) (fM st)
  | 0, st, hT, hs => by
    refine ⟨st, ?_, fM_refl _⟩
    rw [n_m1t, eX12_latest_35, if_pos n_neg1, eX12_latest_75]
    rfl
  | T + 1, st, hT, hs => by
    have h9 := hV.1.2
    have ht : TG (Int32.ofNat T) := TG_n (by omega)
    obtain ⟨st1, e1, f1, r1⟩ := s_both d (st := st) (by rw [hs]; exact hV) (t := Int32.ofNat T) (fm := fm) (by rw [hs]; exact hf)
    rw [hs] at r1
    have r1 : rp (-1) (st1 90) (st1 91) (bth s fm (Int32.ofNat T)) (tn s) := r1
    have hb := fb_bth hV hf ht
    have q := rp_neg r1 hb hk
    obtain ⟨st2, e2, f2⟩ := lat_M d hV hf hk x3 T st1 (by omega) (by rw [f1.1 86 rfl]; exact hs)
    have hn : ¬ Int32.ofNat T < 0 := by rw [n_pos _ (by omega)]; exact id
    rw [n_predm, eX12_latest_35, if_neg hn, e1]
    simp only [m_bd, Option.toList, List.cons_append, List.nil_append]
    rw [eX12_latest_47, ix_9 (show k < 9 by omega)]
    simp only [m_ob]
    unfold lat
    cases e : bth s fm (Int32.ofNat T) k with
    | none =>
      rw [if_pos (q.mpr e), eX12_latest_69]
      exact ⟨st2, e2, fM_tr f1 f2⟩
    | some ch =>
      obtain ⟨c, g⟩ := ch
      obtain ⟨w1, w2⟩ := rp_at r1 hk e
      rw [if_neg (fun z => by rw [q.mp z] at e; cases e), w1]
      by_cases q : x3 < c
      · simp only [if_pos q]
        rw [eX12_latest_69]
        exact ⟨st2, e2, fM_tr f1 f2⟩
      · simp only [if_neg q]
        exact ⟨st1, rfl, f1⟩
theorem x_latest (d : Nat) {st : zS} (hR : Rel st) (x1 x2 x3 : Int32) : RT (m_evc (d + 8) 110 [.ref 0, .int x1, .int x2, .int x3] (SH, st)) (some (.int (a_latest x1 x2 x3 (st 86)))) (scr st) := by
  obtain ⟨hN, hV, h7, e0⟩ := Rel_x hR
  have h9 := hV.1.2
  unfold a_latest
  rw [cal_X11_latest, eX11_latest_0, s_isTowX _ st e0 hV.1]
  simp only [m_bd, Option.toList, List.cons_append, List.nil_append]
  rw [eX11_latest_8, bZ_if]
  by_cases h1 : gT (st 86) x1
  · rw [if_pos h1, s_isTowX _ st e0 hV.1]
    simp only [m_bd, Option.toList, List.cons_append, List.nil_append]
    rw [eX11_latest_19, bZ_if]
    by_cases h2 : gT (st 86) x2
    · rw [if_pos h2, s_isMinX]
      simp only [m_bd, Option.toList, List.cons_append, List.nil_append]
      rw [eX11_latest_26, bZ_if]
      by_cases h3 : gR 0 9999 x3
      · rw [if_pos h3, if_pos ⟨⟨h1, h2⟩, h3⟩]
        obtain ⟨fm, hf, rfl⟩ := gT_e h1
        obtain ⟨k, hk, rfl⟩ := gT_e h2
        have hd := hV.2.2.2.1
        obtain ⟨st1, e1, f1, D1⟩ := ya_takeD (d + 1) st hN hV hd.2
        rw [sd_self hd] at D1
        rw [eX11_latest_31, h7, hd.1, e1]
        simp only [m_bd, Option.toList, List.cons_append, List.nil_append]
        rw [eX11_latest_45, n_nat (show fm < 2147483648 by omega), n_nat (show k < 2147483648 by omega)]
        have t39 : (1439 : Int32).toInt = 1439 := rfl
        by_cases q : x3 < 1439
        · rw [if_pos q]
          rw [i_lt, t39] at q
          have ex : x3 = Int32.ofNat (x3.toInt + 1).toNat + (-1) := by
            rw [show (x3.toInt + 1).toNat = x3.toNatClampNeg + 1 by have : x3.toNatClampNeg = x3.toInt.toNat := rfl; have := h3.1; omega, n_predm]
            exact (gR_n h3 (by omega)).1
          obtain ⟨st2, e2, f2⟩ := lat_X (d + 3) hf hk x3 (x3.toInt + 1).toNat st1 (by have := h3.1; omega) D1
          have hl := lat_up hV hf hk (b := x3) (1440 - (x3.toInt + 1).toNat) (by have := h3.1; omega) h3.1
          rw [show (x3.toInt + 1).toNat + (1440 - (x3.toInt + 1).toNat) = 1440 by have := h3.1; omega] at hl
          rw [hl]
          rw [← ex] at e2
          exact ⟨st2, e2, scr_fr (fr_tr f1 f2) (by decide)⟩
        · rw [if_neg q]
          obtain ⟨st2, e2, f2⟩ := lat_X (d + 3) hf hk x3 1440 st1 (by omega) D1
          rw [show Int32.ofNat 1440 + (-1) = 1439 from rfl] at e2
          exact ⟨st2, e2, scr_fr (fr_tr f1 f2) (by decide)⟩
      · rw [if_neg h3, if_neg (fun z => h3 z.2), eX11_latest_29]
        exact ⟨st, rfl, scr_refl st⟩
    · rw [if_neg h2, if_neg (fun z => h2 z.1.2), eX11_latest_29]
      exact ⟨st, rfl, scr_refl st⟩
  · rw [if_neg h1, if_neg (fun z => h1 z.1.1), eX11_latest_29]
    exact ⟨st, rfl, scr_refl st⟩
theorem mc_latest (d : Nat) {st : zS} (hR : Rel st) (x1 x2 x3 : Int32) : RT (m_evc (d + 8) 208 [.ref 85, .int x1, .int x2, .int x3] (SH, st)) (some (.int (a_latest x1 x2 x3 (st 86)))) (scr st) := by
  obtain ⟨hN, hV, h7, e0⟩ := Rel_x hR
  have h9 := hV.1.2
  unfold a_latest
  rw [cal_X12_latest, eX12_latest_0, s_isTM0 _ st hV]
  simp only [m_bd, Option.toList, List.cons_append, List.nil_append]
  rw [eX12_latest_5, bZ_if]
  by_cases h1 : gT (st 86) x1
  · rw [if_pos h1, s_isTM0 _ st hV]
    simp only [m_bd, Option.toList, List.cons_append, List.nil_append]
    rw [eX12_latest_13, bZ_if]
    by_cases h2 : gT (st 86) x2
    · rw [if_pos h2, s_inb]
      simp only [m_bd, Option.toList, List.cons_append, List.nil_append]
      rw [eX12_latest_25, bZ_if]
      by_cases h3 : gR 0 9999 x3
      · rw [if_pos (show (0 : Int64).toInt ≤ x3.toInt ∧ x3.toInt ≤ (9999 : Int64).toInt from h3), if_pos ⟨⟨h1, h2⟩, h3⟩]
        obtain ⟨fm, hf, rfl⟩ := gT_e h1
        obtain ⟨k, hk, rfl⟩ := gT_e h2
        obtain ⟨st2, e2, f2⟩ := lat_M d hV hf hk x3 1440 st (by omega) rfl
        rw [show Int32.ofNat 1440 + (-1) = 1439 from rfl] at e2
        rw [eX12_latest_30, n_nat (show fm < 2147483648 by omega), n_nat (show k < 2147483648 by omega)]
        exact ⟨st2, e2, scr_M f2⟩
      · rw [if_neg (show ¬ ((0 : Int64).toInt ≤ x3.toInt ∧ x3.toInt ≤ (9999 : Int64).toInt) from h3), if_neg (fun z => h3 z.2), eX12_latest_28]
        exact ⟨st, rfl, scr_refl st⟩
    · rw [if_neg h2, if_neg (fun z => h2 z.1.2), eX12_latest_28]
      exact ⟨st, rfl, scr_refl st⟩
  · rw [if_neg h1, if_neg (fun z => h1 z.1.1), eX12_latest_28]
    exact ⟨st, rfl, scr_refl st⟩
