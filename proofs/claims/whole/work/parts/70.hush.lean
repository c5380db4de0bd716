/-! CALLS: towerOf, shows, hush, report, forget, tower -/
theorem fill_6 (d : Nat) (st : zS) (x : Int32) : RT (m_evc (d + 1) 267 [.ref 6, .int x] (SH, st)) none (fun st' => fr [6] st st' ∧ ∀ k, k < 9 → st' 6 k = x) := by
  have L := lp_inv (fun j (a : zS) => m_ev none d 267 5 [some (.ref 6), some (.int x), some (.int (Int32.ofNat j)), some (.int 9)] [] (SH, a)) (fun j a => fr [6] st a ∧ ∀ k, k < j → a 6 k = x) 9 ?_ 9 0 st (by omega) ⟨fr_refl _ _, fun k hk => by omega⟩
  · obtain ⟨st2, e, f2, g2⟩ := L
    refine ⟨st2, ?_, f2, g2⟩
    rw [cal_aJ7_fill_53178, eaJ7_fill_53178_0]
    refine Eq.trans e ?_
    rw [eaJ7_fill_53178_5, if_neg (by decide), eaJ7_fill_53178_20]
  · rintro j a hj ⟨f, g⟩
    have hlt : Int32.ofNat j < 9 := by
      rw [show (9 : Int32) = Int32.ofNat 9 from rfl, n_lt (by omega) (by omega)]; exact hj
    refine ⟨m_up a 6 j x, ?_, fr_up f rfl, ?_⟩
    · rw [eaJ7_fill_53178_5, if_pos hlt, ix_9 hj]
      simp only [m_ob, n_succ]
    · intro k hk
      by_cases q : k = j
      · subst q; rw [up_in]
      · rw [up_nj q]; exact g k (by omega)
theorem fill_7 (d : Nat) (st : zS) (x : Int32) : RT (m_evc (d + 1) 267 [.ref 7, .int x] (SH, st)) none (fun st' => fr [7] st st' ∧ ∀ k, k < 9 → st' 7 k = x) := by
  have L := lp_inv (fun j (a : zS) => m_ev none d 267 5 [some (.ref 7), some (.int x), some (.int (Int32.ofNat j)), some (.int 9)] [] (SH, a)) (fun j a => fr [7] st a ∧ ∀ k, k < j → a 7 k = x) 9 ?_ 9 0 st (by omega) ⟨fr_refl _ _, fun k hk => by omega⟩
  · obtain ⟨st2, e, f2, g2⟩ := L
    refine ⟨st2, ?_, f2, g2⟩
    rw [cal_cJ7_fill_53178, ecJ7_fill_53178_0]
    refine Eq.trans e ?_
    rw [ecJ7_fill_53178_5, if_neg (by decide), ecJ7_fill_53178_20]
  · rintro j a hj ⟨f, g⟩
    have hlt : Int32.ofNat j < 9 := by
      rw [show (9 : Int32) = Int32.ofNat 9 from rfl, n_lt (by omega) (by omega)]; exact hj
    refine ⟨m_up a 7 j x, ?_, fr_up f rfl, ?_⟩
    · rw [ecJ7_fill_53178_5, if_pos hlt, ix_9 hj]
      simp only [m_ob, n_succ]
    · intro k hk
      by_cases q : k = j
      · subst q; rw [up_in]
      · rw [up_nj q]; exact g k (by omega)
theorem fill_69 (d : Nat) (st : zS) (x : Int32) : RT (m_evc (d + 1) 267 [.ref 69, .int x] (SH, st)) none (fun st' => fr [69] st st' ∧ ∀ k, k < 40 → st' 69 k = x) := by
  have L := lp_inv (fun j (a : zS) => m_ev none d 267 5 [some (.ref 69), some (.int x), some (.int (Int32.ofNat j)), some (.int 40)] [] (SH, a)) (fun j a => fr [69] st a ∧ ∀ k, k < j → a 69 k = x) 40 ?_ 40 0 st (by omega) ⟨fr_refl _ _, fun k hk => by omega⟩
  · obtain ⟨st2, e, f2, g2⟩ := L
    refine ⟨st2, ?_, f2, g2⟩
    rw [cal_bJ7_fill_53178, ebJ7_fill_53178_0]
    refine Eq.trans e ?_
    rw [ebJ7_fill_53178_5, if_neg (by decide), ebJ7_fill_53178_20]
  · rintro j a hj ⟨f, g⟩
    have hlt : Int32.ofNat j < 40 := by
      rw [show (40 : Int32) = Int32.ofNat 40 from rfl, n_lt (by omega) (by omega)]; exact hj
    refine ⟨m_up a 69 j x, ?_, fr_up f rfl, ?_⟩
    · rw [ebJ7_fill_53178_5, if_pos hlt, ix_40 hj]
      simp only [m_ob, n_succ]
    · intro k hk
      by_cases q : k = j
      · subst q; rw [up_in]
      · rw [up_nj q]; exact g k (by omega)
theorem fill_70 (d : Nat) (st : zS) (x : Int32) : RT (m_evc (d + 1) 267 [.ref 70, .int x] (SH, st)) none (fun st' => fr [70] st st' ∧ ∀ k, k < 40 → st' 70 k = x) := by
  have L := lp_inv (fun j (a : zS) => m_ev none d 267 5 [some (.ref 70), some (.int x), some (.int (Int32.ofNat j)), some (.int 40)] [] (SH, a)) (fun j a => fr [70] st a ∧ ∀ k, k < j → a 70 k = x) 40 ?_ 40 0 st (by omega) ⟨fr_refl _ _, fun k hk => by omega⟩
  · obtain ⟨st2, e, f2, g2⟩ := L
    refine ⟨st2, ?_, f2, g2⟩
    rw [cal_dJ7_fill_53178, edJ7_fill_53178_0]
    refine Eq.trans e ?_
    rw [edJ7_fill_53178_5, if_neg (by decide), edJ7_fill_53178_20]
  · rintro j a hj ⟨f, g⟩
    have hlt : Int32.ofNat j < 40 := by
      rw [show (40 : Int32) = Int32.ofNat 40 from rfl, n_lt (by omega) (by omega)]; exact hj
    refine ⟨m_up a 70 j x, ?_, fr_up f rfl, ?_⟩
    · rw [edJ7_fill_53178_5, if_pos hlt, ix_40 hj]
      simp only [m_ob, n_succ]
    · intro k hk
      by_cases q : k = j
      · subst q; rw [up_in]
      · rw [up_nj q]; exact g k (by omega)
theorem fill_71 (d : Nat) (st : zS) (x : Int32) : RT (m_evc (d + 1) 267 [.ref 71, .int x] (SH, st)) none (fun st' => fr [71] st st' ∧ ∀ k, k < 40 → st' 71 k = x) := by
  have L := lp_inv (fun j (a : zS) => m_ev none d 267 5 [some (.ref 71), some (.int x), some (.int (Int32.ofNat j)), some (.int 40)] [] (SH, a)) (fun j a => fr [71] st a ∧ ∀ k, k < j → a 71 k = x) 40 ?_ 40 0 st (by omega) ⟨fr_refl _ _, fun k hk => by omega⟩
  · obtain ⟨st2, e, f2, g2⟩ := L
    refine ⟨st2, ?_, f2, g2⟩
    rw [cal_eJ7_fill_53178, eeJ7_fill_53178_0]
    refine Eq.trans e ?_
    rw [eeJ7_fill_53178_5, if_neg (by decide), eeJ7_fill_53178_20]
  · rintro j a hj ⟨f, g⟩
    have hlt : Int32.ofNat j < 40 := by
      rw [show (40 : Int32) = Int32.ofNat 40 from rfl, n_lt (by omega) (by omega)]; exact hj
    refine ⟨m_up a 71 j x, ?_, fr_up f rfl, ?_⟩
    · rw [eeJ7_fill_53178_5, if_pos hlt, ix_40 hj]
      simp only [m_ob, n_succ]
    · intro k hk
      by_cases q : k = j
      · subst q; rw [up_in]
      · rw [up_nj q]; exact g k (by omega)
theorem fill_72 (d : Nat) (st : zS) (x : Int32) : RT (m_evc (d + 1) 267 [.ref 72, .int x] (SH, st)) none (fun st' => fr [72] st st' ∧ ∀ k, k < 40 → st' 72 k = x) := by
  have L := lp_inv (fun j (a : zS) => m_ev none d 267 5 [some (.ref 72), some (.int x), some (.int (Int32.ofNat j)), some (.int 40)] [] (SH, a)) (fun j a => fr [72] st a ∧ ∀ k, k < j → a 72 k = x) 40 ?_ 40 0 st (by omega) ⟨fr_refl _ _, fun k hk => by omega⟩
  · obtain ⟨st2, e, f2, g2⟩ := L
    refine ⟨st2, ?_, f2, g2⟩
    rw [cal_fJ7_fill_53178, efJ7_fill_53178_0]
    refine Eq.trans e ?_
    rw [efJ7_fill_53178_5, if_neg (by decide), efJ7_fill_53178_20]
  · rintro j a hj ⟨f, g⟩
    have hlt : Int32.ofNat j < 40 := by
      rw [show (40 : Int32) = Int32.ofNat 40 from rfl, n_lt (by omega) (by omega)]; exact hj
    refine ⟨m_up a 72 j x, ?_, fr_up f rfl, ?_⟩
    · rw [efJ7_fill_53178_5, if_pos hlt, ix_40 hj]
      simp only [m_ob, n_succ]
    · intro k hk
      by_cases q : k = j
      · subst q; rw [up_in]
      · rw [up_nj q]; exact g k (by omega)
def a_shows (x m : Int32) (s : Nat → Int32) : Int32 := if gT s x ∧ gR 0 9999 m then (if s (17 + 6 * x.toNatClampNeg) < 0 then -3 else if m < s (17 + 6 * x.toNatClampNeg) then -4 else s (16 + 6 * x.toNatClampNeg) + m - s (17 + 6 * x.toNatClampNeg)) else -1
theorem Rel_he {st : zS} (h : Rel st) : heR (st 6) (st 7) (st 86) := h.1.2.2.2.2.2.1
theorem he_c {he ca s : Nat → Int32} (h : heR he ca s) {k : Nat} (hk : k < tn s) : (ca k = -9 ↔ s (17 + 6 * k) < 0) ∧ (¬ s (17 + 6 * k) < 0 → he k = s (16 + 6 * k) ∧ ca k = s (17 + 6 * k)) ∧ (s (17 + 6 * k) < 0 → he k = -9 ∧ ca k = -9) := by
  rcases h k hk with ⟨a, b, c⟩ | ⟨a, b, c⟩
  · rw [a]
    exact ⟨⟨fun _ => n_neg1, fun _ => c⟩, fun z => absurd n_neg1 z, fun _ => ⟨b, c⟩⟩
  · have hn := c_n0 a
    exact ⟨⟨fun z => absurd (c.symm.trans z) (c_m9 a), fun z => absurd z hn⟩, fun _ => ⟨b, c⟩, fun z => absurd z hn⟩
theorem x_shows (d : Nat) {st : zS} (hR : Rel st) (x m : Int32) : RT (m_evc (d + 2) 94 [.ref 0, .int x, .int m] (SH, st)) (some (.int (a_shows x m (st 86)))) (scr st) := by
  obtain ⟨hN, hV, h7, e0⟩ := Rel_x hR
  have h9 := hV.1.2
  refine ⟨st, ?_, scr_refl st⟩
  unfold a_shows
  rw [cal_X11_shows, eX11_shows_0, s_isTowX _ st e0 hV.1]
  simp only [m_bd, Option.toList, List.cons_append, List.nil_append]
  rw [eX11_shows_8, bZ_if]
  by_cases h1 : gT (st 86) x
  · rw [if_pos h1, s_isMinX]
    simp only [m_bd, Option.toList, List.cons_append, List.nil_append]
    rw [eX11_shows_15, bZ_if]
    by_cases h2 : gR 0 9999 m
    · rw [if_pos h2, if_pos ⟨h1, h2⟩]
      obtain ⟨k, hk, rfl⟩ := gT_e h1
      obtain ⟨c1, c2, _⟩ := he_c (Rel_he hR) hk
      rw [eX11_shows_20, ix_9 (show k < 9 by omega), n_nat (show k < 2147483648 by omega)]
      simp only [m_ob]
      by_cases q : st 86 (17 + 6 * k) < 0
      · rw [if_pos (c1.mpr q), if_pos q]
      · obtain ⟨g1, g2⟩ := c2 q
        rw [if_neg (fun z => q (c1.mp z)), if_neg q, eX11_shows_37, ix_9 (show k < 9 by omega)]
        simp only [m_ob]
        rw [g2]
        by_cases q2 : m < st 86 (17 + 6 * k)
        · rw [if_pos q2, if_pos q2, eX11_shows_76]
        · rw [if_neg q2, if_neg q2, eX11_shows_55, ix_9 (show k < 9 by omega)]
          simp only [m_ob]
          rw [g1, g2, eX11_shows_76]
    · rw [if_neg h2, if_neg (fun z => h2 z.2), eX11_shows_18]
  · rw [if_neg h1, if_neg (fun z => h1 z.1), eX11_shows_18]
theorem mc_shows (d : Nat) {st : zS} (hR : Rel st) (x m : Int32) : RT (m_evc (d + 3) 184 [.ref 85, .int x, .int m] (SH, st)) (some (.int (a_shows x m (st 86)))) (scr st) := by
  obtain ⟨hN, hV, h7, e0⟩ := Rel_x hR
  have h9 := hV.1.2
  refine ⟨st, ?_, scr_refl st⟩
  unfold a_shows
  rw [cal_X12_shows, eX12_shows_0, s_isTM0 _ st hV]
  simp only [m_bd, Option.toList, List.cons_append, List.nil_append]
  rw [eX12_shows_5, bZ_if]
  by_cases h1 : gT (st 86) x
  · rw [if_pos h1, s_inb]
    simp only [m_bd, Option.toList, List.cons_append, List.nil_append]
    rw [eX12_shows_17, bZ_if]
    by_cases h2 : gR 0 9999 m
    · rw [if_pos (show (0 : Int64).toInt ≤ m.toInt ∧ m.toInt ≤ (9999 : Int64).toInt from h2), if_pos ⟨h1, h2⟩]
      obtain ⟨k, hk, rfl⟩ := gT_e h1
      rw [eX12_shows_22, s_its5 _ _ (show k < 9 by omega), n_nat (show k < 2147483648 by omega)]
      simp only [m_bd, Option.toList, List.cons_append, List.nil_append]
      rw [eX12_shows_28]
      by_cases q : st 86 (17 + 6 * k) < 0
      · rw [if_pos q, if_pos q]
      · rw [if_neg q, if_neg q, eX12_shows_34, s_its5 _ _ (show k < 9 by omega)]
        simp only [m_bd, Option.toList, List.cons_append, List.nil_append]
        rw [eX12_shows_41]
        by_cases q2 : m < st 86 (17 + 6 * k)
        · rw [if_pos q2, if_pos q2, eX12_shows_64]
        · rw [if_neg q2, if_neg q2, eX12_shows_49, s_its4 _ _ (show k < 9 by omega)]
          simp only [m_bd, Option.toList, List.cons_append, List.nil_append]
          rw [eX12_shows_55, s_its5 _ _ (show k < 9 by omega)]
          simp only [m_bd, Option.toList, List.cons_append, List.nil_append]
          rw [eX12_shows_63, eX12_shows_64]
    · rw [if_neg (show ¬ ((0 : Int64).toInt ≤ m.toInt ∧ m.toInt ≤ (9999 : Int64).toInt) from h2), if_neg (fun z => h2 z.2), eX12_shows_20]
  · rw [if_neg h1, if_neg (fun z => h1 z.1), eX12_shows_20]
/-! how many hold something; hush -/
def hcF (s : Nat → Int32) (j : Nat) (a : Int32) : Int32 := if s (17 + 6 * j) < 0 then a else a + 1
theorem x_holding (d : Nat) (st : zS) {s : Nat → Int32} (e0 : st 1 0 = s 0) (hs : s 0 = Int32.ofNat (tn s) ∧ tn s ≤ 9) (hh : heR (st 6) (st 7) s) : m_evc (d + 1) 69 [.ref 1] (SH, st) = some (some (.int (lp (hcF s) (tn s) 0 0)), (SH, st)) := by
  have h9 := hs.2
  have L := lp_ev (fun j (a : Int32) => m_ev none d 69 4 [some (.ref 1), some (.int a), some (.int (Int32.ofNat j))] [] (SH, st)) (hcF s) (tn s) (fun a => some (some (.int a), (SH, st))) ?_ ?_ (tn s) 0 0 (by omega)
  · rw [cal_X9_holding, eX9_holding_0]
    exact L
  · intro j a hj
    obtain ⟨c1, _⟩ := he_c hh hj
    rw [eX9_holding_4, e0, hs.1, if_pos (by rw [n_lt (by omega) (by omega)]; exact hj), ix_9 (show j < 9 by omega)]
    simp only [m_ob]
    unfold hcF
    by_cases q : s (17 + 6 * j) < 0
    · rw [if_pos (c1.mpr q), if_pos q, eX9_holding_26, n_succ]
    · rw [if_neg (fun z => q (c1.mp z)), if_neg q, eX9_holding_26, n_succ]
  · intro a
    rw [eX9_holding_4, e0, hs.1, if_neg (by rw [n_lt (by omega) (by omega)]; omega), eX9_holding_32]
theorem m_holders (d : Nat) (st : zS) (hs : st 86 0 = Int32.ofNat (tn (st 86)) ∧ tn (st 86) ≤ 9) : m_evc (d + 3) 185 [.ref 85] (SH, st) = some (some (.int (lp (hcF (st 86)) (tn (st 86)) 0 0)), (SH, st)) := by
  have h9 := hs.2
  have L := lp_ev (fun j (a : Int32) => m_ev none (d + 2) 185 4 [some (.ref 85), some (.int a), some (.int (Int32.ofNat j))] [] (SH, st)) (hcF (st 86)) (tn (st 86)) (fun a => some (some (.int a), (SH, st))) ?_ ?_ (tn (st 86)) 0 0 (by omega)
  · rw [cal_X12_holders, eX12_holders_0]
    exact L
  · intro j a hj
    rw [eX12_holders_4, hs.1, if_pos (by rw [n_lt (by omega) (by omega)]; exact hj), s_its5 _ _ (show j < 9 by omega)]
    simp only [m_bd, Option.toList, List.cons_append, List.nil_append]
    rw [eX12_holders_21]
    unfold hcF
    by_cases q : st 86 (17 + 6 * j) < 0
    · rw [if_pos q, if_pos q, eX12_holders_29, n_succ, Int32.add_zero]
    · rw [if_neg q, if_neg q, eX12_holders_28, eX12_holders_29, n_succ]
  · intro a
    rw [eX12_holders_4, hs.1, if_neg (by rw [n_lt (by omega) (by omega)]; omega), eX12_holders_37]
theorem r_hush : lw_C Rel 95 186 [] := by
  intro st hR
  obtain ⟨hN, hV, h7, e0⟩ := Rel_x hR
  have h9 := hV.1.2
  have V : VR _ _ _ _ _ _ _ _ _ _ _ _ _ _ _ _ _ := hR.1
  obtain ⟨a, ea, fa, ga⟩ := fill_6 2045 st (-9)
  obtain ⟨b, eb, fb', gb⟩ := fill_7 2045 a (-9)
  have eab : m_evc 2047 95 [.ref 0] (SH, st) = some (some (.int (lp (hcF (st 86)) (tn (st 86)) 0 0)), (SH, b)) := by
    rw [cal_X11_hush 2046, eX11_hush_0, x_holding 2045 st e0 hV.1 (Rel_he hR)]
    simp only [m_bd, Option.toList, List.cons_append, List.nil_append]
    rw [eX11_hush_7, ea]
    simp only [m_bd, Option.toList, List.cons_append, List.nil_append]
    rw [eX11_hush_20, eb]
    simp only [m_bd, Option.toList, List.cons_append, List.nil_append]
    rw [eX11_hush_32]
  have b86 : b 86 = st 86 := by rw [fb' 86 rfl, fa 86 rfl]
  have L := lp_inv (fun j (c : zS) => m_ev none 2046 186 7 [some (.ref 85), some (.int (lp (hcF (st 86)) (tn (st 86)) 0 0)), some (.int (Int32.ofNat j))] [] (SH, c)) (fun j c => fr [86] b c ∧ (∀ i, (∀ k, k < j → i ≠ 17 + 6 * k) → c 86 i = st 86 i) ∧ ∀ k, k < j → c 86 (17 + 6 * k) = -1) (tn (st 86)) ?_ (tn (st 86)) 0 b (by omega) ⟨fr_refl _ _, fun i _ => by rw [b86], fun k hk => by omega⟩
  · obtain ⟨c, ec, fc, gc, hc⟩ := L
    have same : ∀ i, (i < 12 ∨ 66 ≤ i ∨ ∃ k w, w < 5 ∧ i = 12 + 6 * k + w) → c 86 i = st 86 i := fun i hi => gc i (fun k hk => by
      have : k < 9 := by omega
      rcases hi with h | h | ⟨k', w, hw, h⟩ <;> omega)
    have e00 : c 86 0 = st 86 0 := same 0 (by omega)
    refine ⟨lp (hcF (st 86)) (tn (st 86)) 0 0, b, c, eab, ?_, ?_⟩
    · rw [cal_X12_hush 2046, eX12_hush_0, m_holders 2043 b (by rw [b86]; exact hV.1), b86]
      simp only [m_bd, Option.toList, List.cons_append, List.nil_append]
      rw [eX12_hush_4]
      refine Eq.trans ec ?_
      rw [eX12_hush_7, e00, hV.1.1, if_neg (by rw [n_lt (by omega) (by omega)]; omega), eX12_hush_34]
    · have m1 : mdf st c := ⟨fr_mono (fr_tr (fr_tr fa fb') fc) (by decide), by rw [fc 85 rfl, fb' 85 rfl, fa 85 rfl], by rw [fc 85 rfl, fb' 85 rfl, fa 85 rfl], by rw [fc 85 rfl, fb' 85 rfl, fa 85 rfl], by rw [fc 85 rfl, fb' 85 rfl, fa 85 rfl]⟩
      refine Rel_now hR m1 ?_
      have cl : ∀ i, ([6, 7, 86].elem i) = false → c i = st i := fun i hi => (fr_mono (fr_tr (fr_tr fa fb') fc) (ds := [6, 7, 86]) (by decide)) i hi
      unfold Rnow
      rw [cl 1 rfl, cl 2 rfl, cl 3 rfl, cl 4 rfl, cl 5 rfl, cl 8 rfl, cl 9 rfl, cl 10 rfl, cl 11 rfl, cl 12 rfl, cl 13 rfl, cl 14 rfl, cl 15 rfl, cl 16 rfl]
      refine VR_gen V e00 (same 4 (by omega)) (fun j hj => (same j (by omega)).symm) ?_ ⟨by rw [e00]; exact V.2.2.1.1, by rw [same 2 (by omega)]; exact V.2.2.1.2.1, by rw [same 3 (by omega)]; exact V.2.2.1.2.2⟩ (fun i hi => ?_) (fun j hj => ?_) (fun i hi => ?_) (rpR_cg V.2.2.2.2.2.2.1 e00 (same 1 (by omega)) rfl (fun j j1 j2 => same j (by omega)))
      · unfold DG; rw [same 2 (by omega)]; exact V.1.2.2.2.1
      · rw [same (12 + 6 * i) (Or.inr (Or.inr ⟨i, 0, by omega, by omega⟩)), same (13 + 6 * i) (Or.inr (Or.inr ⟨i, 1, by omega, by omega⟩)), same (14 + 6 * i) (Or.inr (Or.inr ⟨i, 2, by omega, by omega⟩)), same (15 + 6 * i) (Or.inr (Or.inr ⟨i, 3, by omega, by omega⟩))]; exact VR_T V i hi
      · rw [same _ (by omega)]; exact VR_W V j hj
      · have hi' : i < tn (st 86) := by
          have : tn (c 86) = tn (st 86) := by unfold tn; rw [e00]
          rw [← this]; exact hi
        refine Or.inl ⟨hc i hi', ?_, ?_⟩
        · rw [fc 6 rfl, fb' 6 rfl]; exact ga i (by omega)
        · rw [fc 7 rfl]; exact gb i (by omega)
  · rintro j c hj ⟨f, g, h⟩
    have e00 : c 86 0 = st 86 0 := g 0 (fun k hk => by omega)
    refine ⟨m_up c 86 (17 + 6 * j) (-1), ?_, fr_up f rfl, fun i hi => ?_, fun k hk => ?_⟩
    · rw [eX12_hush_7, e00, hV.1.1, if_pos (by rw [n_lt (by omega) (by omega)]; exact hj), cal_X12_at 2045, eX12_at_0]
      simp only [m_bd, Option.toList, List.cons_append, List.nil_append]
      rw [eX12_hush_26, ix_T5 (show j < 9 by omega)]
      simp only [m_ob, n_succ]
    · rw [up_nj (hi j (by omega))]; exact g i (fun k hk => hi k (by omega))
    · by_cases q : k = j
      · subst q; rw [up_in]
      · rw [up_nj (by omega)]; exact h k (by omega)
/-! report, forget -/
theorem r_forget : lw_C Rel 127 215 [] := by
  intro st hR
  have V : VR _ _ _ _ _ _ _ _ _ _ _ _ _ _ _ _ _ := hR.1
  refine ⟨st 1 11, m_up st 1 11 0, m_up (m_up st 1 11 0) 86 1 0, ?_, ?_, ?_⟩
  · rw [cal_X11_forget 2046, eX11_forget_0]
  · rw [cal_X12_forget 2046, eX12_forget_0, (Rel_rp hR).2.2.1]
    rfl
  · refine Rel_now hR (mdf_up (mdf_up (mdf_refl _) rfl _ _) rfl _ _) ?_
    have row : ∀ j, j ≠ 1 → m_up (m_up st 1 11 0) 86 1 0 86 j = st 86 j := fun j hj => by rw [up_nj hj, up_ne (by decide)]
    refine VR_gen V (row 0 (by omega)) (row 4 (by omega)) (fun j hj => (row j (by omega)).symm) V.1.2.2.2.1 V.2.2.1 (fun i hi => ?_) (fun j hj => ?_) (heR_cg V.2.2.2.2.2.1 (row 0 (by omega)) (fun i hi => ⟨row _ (by omega), row _ (by omega)⟩)) ?_
    · rw [row _ (by omega), row _ (by omega), row _ (by omega), row _ (by omega)]; exact VR_T V i hi
    · rw [row _ (by omega)]; exact VR_W V j hj
    · exact ⟨rfl, by show (0 : Int32).toNatClampNeg ≤ 6; decide, rfl, fun r hr => by
        have : r < (0 : Int32).toNatClampNeg := hr
        exact absurd this (by rw [show (0 : Int32).toNatClampNeg = 0 from rfl]; omega)⟩
theorem r_report (x v : Int32) : lw_C Rel 126 214 [.int x, .int v] := by
  intro st hR
  obtain ⟨hN, hV, h7, e0⟩ := Rel_x hR
  have h9 := hV.1.2
  have V : VR _ _ _ _ _ _ _ _ _ _ _ _ _ _ _ _ _ := hR.1
  obtain ⟨p1, p2, p3, p4⟩ := Rel_rp hR
  have X : m_evc 2047 126 [.ref 0, .int x, .int v] (SH, st) = if gT (st 86) x ∧ gR 0 9999 v then m_ev none 2046 126 24 [some (.ref 0), some (.int x), some (.int v), none] [] (SH, st) else some (some (.int (-1)), (SH, st)) := by
    rw [cal_X11_report 2046, eX11_report_0, s_isTowX 2045 st e0 hV.1]
    simp only [m_bd, Option.toList, List.cons_append, List.nil_append]
    rw [eX11_report_8, bZ_if, gR_if]
    by_cases h1 : gT (st 86) x
    · rw [if_pos h1]
      by_cases h2 : gR 0 9999 v
      · rw [if_pos (show gR (0 : Int32).toInt (9999 : Int32).toInt v from h2), if_pos ⟨h1, h2⟩]
      · rw [if_neg (show ¬ gR (0 : Int32).toInt (9999 : Int32).toInt v from h2), if_neg (fun z => h2 z.2), eX11_report_22]
    · rw [if_neg h1, if_neg (fun z => h1 z.1), eX11_report_22]
  have M : ∀ a : zS, a 86 = st 86 → m_evc 2047 214 [.ref 85, .int x, .int v] (SH, a) = if gT (st 86) x ∧ gR 0 9999 v then m_ev none 2046 214 22 [some (.ref 85), some (.int x), some (.int v)] [] (SH, a) else some (some (.int (-1)), (SH, a)) := by
    intro a ea
    rw [cal_X12_report 2046, eX12_report_0, s_isTM0 2044 a (by rw [ea]; exact hV), ea]
    simp only [m_bd, Option.toList, List.cons_append, List.nil_append]
    rw [eX12_report_5, bZ_if]
    by_cases h1 : gT (st 86) x
    · rw [if_pos h1, s_inb 2045]
      simp only [m_bd, Option.toList, List.cons_append, List.nil_append]
      rw [eX12_report_17, bZ_if]
      by_cases h2 : gR 0 9999 v
      · rw [if_pos (show (0 : Int64).toInt ≤ v.toInt ∧ v.toInt ≤ (9999 : Int64).toInt from h2), if_pos ⟨h1, h2⟩]
      · rw [if_neg (show ¬ ((0 : Int64).toInt ≤ v.toInt ∧ v.toInt ≤ (9999 : Int64).toInt) from h2), if_neg (fun z => h2 z.2), eX12_report_20]
    · rw [if_neg h1, if_neg (fun z => h1 z.1), eX12_report_20]
  by_cases h : gT (st 86) x ∧ gR 0 9999 v
  · obtain ⟨k, hk, rfl⟩ := gT_e h.1
    generalize hn : (st 86 1).toNatClampNeg = n at p1 p2 p4
    by_cases q : n < 6
    · refine ⟨Int32.ofNat n, m_up (m_up (m_up st 1 11 (Int32.ofNat (n + 1))) 15 n (Int32.ofNat k)) 16 n v, m_up (m_up (m_up (m_up (m_up (m_up st 1 11 (Int32.ofNat (n + 1))) 15 n (Int32.ofNat k)) 16 n v) 86 (66 + 2 * n) (Int32.ofNat k)) 86 (67 + 2 * n) v) 86 1 (Int32.ofNat (n + 1)), ?_, ?_, ?_⟩
      · rw [X, if_pos h, eX11_report_24, p3, p1, if_pos (by rw [show (6 : Int32) = Int32.ofNat 6 from rfl, n_lt (by omega) (by omega)]; exact q), eX11_report_39, p3, p1, ix_6 q, n_succ]
        simp only [m_ob]
      · have e86 : m_up (m_up (m_up st 1 11 (Int32.ofNat (n + 1))) 15 n (Int32.ofNat k)) 16 n v 86 = st 86 := by rw [up_ne (by decide), up_ne (by decide), up_ne (by decide)]
        have g1 : ∀ (a : zS) (w : Int32), a 86 1 = Int32.ofNat n → m_up a 86 (66 + 2 * n) w 86 1 = Int32.ofNat n := fun a w ha => by rw [up_nj (by omega)]; exact ha
        have g2 : ∀ (a : zS) (w : Int32), a 86 1 = Int32.ofNat n → m_up a 86 (67 + 2 * n) w 86 1 = Int32.ofNat n := fun a w ha => by rw [up_nj (by omega)]; exact ha
        have s1 : m_up (m_up (m_up st 1 11 (Int32.ofNat (n + 1))) 15 n (Int32.ofNat k)) 16 n v 86 1 = Int32.ofNat n := by rw [e86]; exact p1
        rw [M _ e86, if_pos h, eX12_report_22, if_neg (by rw [s1, show (6 : Int32) = Int32.ofNat 6 from rfl, n_eq (by omega) (by omega)]; omega), eX12_report_36, s1, ix_6r q]
        simp only [m_ob]
        rw [g1 _ _ s1, ix_6s q]
        simp only
        rw [g2 _ _ (g1 _ _ s1), n_succ, n_pred]
      · refine Rel_now hR (mdf_up (mdf_up (mdf_up (mdf_up (mdf_up (mdf_up (mdf_refl _) rfl _ _) rfl _ _) rfl _ _) rfl _ _) rfl _ _) rfl _ _) ?_
        have row : ∀ j, j ≠ 1 → j ≠ 66 + 2 * n → j ≠ 67 + 2 * n → m_up (m_up (m_up (m_up (m_up (m_up st 1 11 (Int32.ofNat (n + 1))) 15 n (Int32.ofNat k)) 16 n v) 86 (66 + 2 * n) (Int32.ofNat k)) 86 (67 + 2 * n) v) 86 1 (Int32.ofNat (n + 1)) 86 j = st 86 j := fun j j1 j2 j3 => by
          rw [up_nj j1, up_nj j3, up_nj j2, up_ne (by decide), up_ne (by decide), up_ne (by decide)]
        have r1 : m_up (m_up (m_up (m_up (m_up (m_up st 1 11 (Int32.ofNat (n + 1))) 15 n (Int32.ofNat k)) 16 n v) 86 (66 + 2 * n) (Int32.ofNat k)) 86 (67 + 2 * n) v) 86 1 (Int32.ofNat (n + 1)) 86 1 = Int32.ofNat (n + 1) := up_in _ _ _ _
        have r66 : m_up (m_up (m_up (m_up (m_up (m_up st 1 11 (Int32.ofNat (n + 1))) 15 n (Int32.ofNat k)) 16 n v) 86 (66 + 2 * n) (Int32.ofNat k)) 86 (67 + 2 * n) v) 86 1 (Int32.ofNat (n + 1)) 86 (66 + 2 * n) = Int32.ofNat k := by
          rw [up_nj (by omega), up_nj (by omega), up_in]
        have r67 : m_up (m_up (m_up (m_up (m_up (m_up st 1 11 (Int32.ofNat (n + 1))) 15 n (Int32.ofNat k)) 16 n v) 86 (66 + 2 * n) (Int32.ofNat k)) 86 (67 + 2 * n) v) 86 1 (Int32.ofNat (n + 1)) 86 (67 + 2 * n) = v := by
          rw [up_nj (by omega), up_in]
        refine VR_gen V (row 0 (by omega) (by omega) (by omega)) (row 4 (by omega) (by omega) (by omega)) (fun j hj => (row j (by omega) (by omega) (by omega)).symm) ?_ ⟨by rw [row 0 (by omega) (by omega) (by omega)]; exact V.2.2.1.1, by rw [row 2 (by omega) (by omega) (by omega)]; exact V.2.2.1.2.1, by rw [row 3 (by omega) (by omega) (by omega)]; exact V.2.2.1.2.2⟩ (fun i hi => ?_) (fun j hj => ?_) (heR_cg V.2.2.2.2.2.1 (row 0 (by omega) (by omega) (by omega)) (fun i hi => ⟨row _ (by omega) (by omega) (by omega), row _ (by omega) (by omega) (by omega)⟩)) ⟨?_, ?_, ?_, fun r hr => ?_⟩
        · unfold DG; rw [row 2 (by omega) (by omega) (by omega)]; exact V.1.2.2.2.1
        · rw [row _ (by omega) (by omega) (by omega), row _ (by omega) (by omega) (by omega), row _ (by omega) (by omega) (by omega), row _ (by omega) (by omega) (by omega)]; exact VR_T V i hi
        · rw [row _ (by omega) (by omega) (by omega)]; exact VR_W V j hj
        · rw [r1, n_nat (by omega)]
        · rw [r1, n_nat (by omega)]; omega
        · rw [r1, up_ne (by decide), up_ne (by decide), up_ne (by decide), up_ne (by decide), up_ne (by decide), up_in]
        · rw [r1, n_nat (by omega)] at hr
          rw [up_ne (show 15 ≠ 86 by decide), up_ne (show 15 ≠ 86 by decide), up_ne (show 15 ≠ 86 by decide), up_ne (show 15 ≠ 16 by decide), up_ne (show 16 ≠ 86 by decide), up_ne (show 16 ≠ 86 by decide), up_ne (show 16 ≠ 86 by decide)]
          have et : tn (m_up (m_up (m_up (m_up (m_up (m_up st 1 11 (Int32.ofNat (n + 1))) 15 n (Int32.ofNat k)) 16 n v) 86 (66 + 2 * n) (Int32.ofNat k)) 86 (67 + 2 * n) v) 86 1 (Int32.ofNat (n + 1)) 86) = tn (st 86) := by unfold tn; rw [row 0 (by omega) (by omega) (by omega)]
          rw [et]
          by_cases z : r = n
          · subst z
            rw [r66, r67, up_in, up_in]
            exact ⟨rfl, rfl, k, hk, rfl⟩
          · rw [row _ (by omega) (by omega) (by omega), row _ (by omega) (by omega) (by omega), up_nj z, up_nj z, up_ne (by decide), up_ne (by decide), up_ne (by decide)]
            exact p4 r (by omega)
    · refine lw_bad hR (r := -2) ?_ ?_
      · rw [X, if_pos h, eX11_report_24, p3, p1, if_neg (by rw [show (6 : Int32) = Int32.ofNat 6 from rfl, n_lt (by omega) (by omega)]; exact q)]
      · rw [M st rfl, if_pos h, eX12_report_22, p1, if_pos (by rw [show n = 6 by omega]; rfl)]
  · exact lw_bad hR (by rw [X, if_neg h]) (by rw [M st rfl, if_neg h])
