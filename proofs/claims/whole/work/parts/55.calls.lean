/-! CALLS: comes, holds, off, noon, worst, within, firstNoon, lost -/
theorem Rel_x {st : zS} (h : Rel st) : CN st (st 86) ∧ VN (st 86) ∧ st 1 7 = st 86 2 ∧ st 1 0 = st 86 0 := ⟨Rnow_CN h.1, h.1.1, h.1.2.2.1.2.1, h.1.2.2.1.1⟩
theorem gT_e {s : Nat → Int32} {x : Int32} (h : gT s x) : ∃ k, k < tn s ∧ x = Int32.ofNat k := ⟨_, (gT_n h).2, (gT_n h).1⟩
theorem lp_evI {α β : Type} (F : Nat → α → β) (I : Nat → α → Prop) (f : Nat → α → α) (n : Nat) (R : α → β) (hs : ∀ j a, j < n → I j a → F j a = F (j + 1) (f j a) ∧ I (j + 1) (f j a)) (he : ∀ a, I n a → F n a = R a) : ∀ m j a, j + m = n → I j a → F j a = R (lp f m j a)
  | 0, j, a, h, hi => by
    have : j = n := by omega
    subst this; exact he a hi
  | m + 1, j, a, h, hi => by
    obtain ⟨h1, h2⟩ := hs j a (by omega) hi
    rw [h1]
    exact lp_evI F I f n R hs he m (j + 1) (f j a) (by omega) h2
theorem iS {ch : Int32 × Int32} : (some ch : cH).isSome = true := rfl
theorem iN : ¬ (none : cH).isSome = true := by decide
def a_comes (x1 x2 x3 : Int32) (s : Nat → Int32) : Int32 := if (gT s x1 ∧ TG x2) ∧ gT s x3 then (match bth s x1.toNatClampNeg x2 x3.toNatClampNeg with
  | none => -3
  | some ch => ch.1) else -1
theorem x_comes (d : Nat) {st : zS} (hR : Rel st) (x1 x2 x3 : Int32) : RT (m_evc (d + 8) 96 [.ref 0, .int x1, .int x2, .int x3] (SH, st)) (some (.int (a_comes x1 x2 x3 (st 86)))) (scr st) := by
  obtain ⟨hN, hV, h7, e0⟩ := Rel_x hR
  have h9 := hV.1.2
  unfold a_comes
  rw [cal_X11_comes, eX11_comes_0, s_isCry _ st e0 hV.1]
  simp only [m_bd, Option.toList, List.cons_append, List.nil_append]
  rw [eX11_comes_6, bZ_if]
  by_cases h1 : gT (st 86) x1 ∧ TG x2
  · rw [if_pos h1, s_isTowX _ st e0 hV.1]
    simp only [m_bd, Option.toList, List.cons_append, List.nil_append]
    rw [eX11_comes_17, bZ_if]
    by_cases h3 : gT (st 86) x3
    · rw [if_pos h3, if_pos ⟨h1, h3⟩]
      obtain ⟨fm, hf, rfl⟩ := gT_e h1.1
      obtain ⟨k, hk, rfl⟩ := gT_e h3
      obtain ⟨st1, e1, f1, D1, r1⟩ := s_cryB d st hN hV h7 h1.2 hf
      have hb := fb_bth hV hf h1.2
      refine ⟨st1, ?_, scr_fr f1 rfl⟩
      rw [eX11_comes_22, e1]
      simp only [m_bd, Option.toList, List.cons_append, List.nil_append]
      rw [eX11_comes_28, ya_rch _ st1 r1 hb hk h9]
      simp only [m_bd, Option.toList, List.cons_append, List.nil_append]
      rw [eX11_comes_36, bZ_if, n_nat (show fm < 2147483648 by omega), n_nat (show k < 2147483648 by omega)]
      cases e : bth (st 86) fm x2 k with
      | none => rw [if_neg iN, eX11_comes_51, eX11_comes_53]
      | some ch =>
        obtain ⟨c, g⟩ := ch
        obtain ⟨w1, w2⟩ := rp_at r1 hk e
        rw [if_pos iS, ix_9 (show k < 9 by omega)]
        simp only [m_ob]
        rw [eX11_comes_53, w1]
    · rw [if_neg h3, if_neg (fun z => h3 z.2), eX11_comes_20]
      exact ⟨st, rfl, scr_refl st⟩
  · rw [if_neg h1, if_neg (fun z => h1 z.1), eX11_comes_20]
    exact ⟨st, rfl, scr_refl st⟩
theorem mc_comes (d : Nat) {st : zS} (hR : Rel st) (x1 x2 x3 : Int32) : RT (m_evc (d + 8) 188 [.ref 85, .int x1, .int x2, .int x3] (SH, st)) (some (.int (a_comes x1 x2 x3 (st 86)))) (scr st) := by
  obtain ⟨hN, hV, h7, e0⟩ := Rel_x hR
  have h9 := hV.1.2
  unfold a_comes
  rw [cal_X12_comes, eX12_comes_0, s_isAsk _ st hV]
  simp only [m_bd, Option.toList, List.cons_append, List.nil_append]
  rw [eX12_comes_7, bZ_if]
  by_cases h : gT (st 86) x1 ∧ TG x2 ∧ gT (st 86) x3
  · rw [if_pos h, if_pos ⟨⟨h.1, h.2.1⟩, h.2.2⟩]
    obtain ⟨fm, hf, rfl⟩ := gT_e h.1
    obtain ⟨k, hk, rfl⟩ := gT_e h.2.2
    obtain ⟨st1, e1, f1, r1⟩ := s_both d (st := st) hV (t := x2) hf
    have hb := fb_bth hV hf h.2.1
    have q := rp_neg r1 hb hk
    refine ⟨st1, ?_, scr_M f1⟩
    rw [eX12_comes_12, e1]
    simp only [m_bd, Option.toList, List.cons_append, List.nil_append]
    rw [eX12_comes_18, ix_9 (show k < 9 by omega)]
    simp only [m_ob]
    rw [n_nat (show fm < 2147483648 by omega), n_nat (show k < 2147483648 by omega)]
    cases e : bth (st 86) fm x2 k with
    | none => rw [if_pos (q.mpr e), eX12_comes_38]
    | some ch =>
      obtain ⟨c, g⟩ := ch
      obtain ⟨w1, w2⟩ := rp_at r1 hk e
      rw [if_neg (fun z => by rw [q.mp z] at e; cases e), eX12_comes_32, ix_9 (show k < 9 by omega)]
      simp only [m_ob]
      rw [eX12_comes_38, w1]
  · rw [if_neg h, if_neg (fun z => h ⟨z.1.1, z.1.2, z.2⟩)]
    exact ⟨st, rfl, scr_refl st⟩
def a_holds (x1 x2 x3 : Int32) (s : Nat → Int32) : Int32 := if (gT s x1 ∧ TG x2) ∧ gT s x3 then (match bth s x1.toNatClampNeg x2 x3.toNatClampNeg with
  | none => -3
  | some ch => ch.2) else -1
theorem x_holds (d : Nat) {st : zS} (hR : Rel st) (x1 x2 x3 : Int32) : RT (m_evc (d + 8) 97 [.ref 0, .int x1, .int x2, .int x3] (SH, st)) (some (.int (a_holds x1 x2 x3 (st 86)))) (scr st) := by
  obtain ⟨hN, hV, h7, e0⟩ := Rel_x hR
  have h9 := hV.1.2
  unfold a_holds
  rw [cal_X11_holds, eX11_holds_0, s_isCry _ st e0 hV.1]
  simp only [m_bd, Option.toList, List.cons_append, List.nil_append]
  rw [eX11_holds_6, bZ_if]
  by_cases h1 : gT (st 86) x1 ∧ TG x2
  · rw [if_pos h1, s_isTowX _ st e0 hV.1]
    simp only [m_bd, Option.toList, List.cons_append, List.nil_append]
    rw [eX11_holds_17, bZ_if]
    by_cases h3 : gT (st 86) x3
    · rw [if_pos h3, if_pos ⟨h1, h3⟩]
      obtain ⟨fm, hf, rfl⟩ := gT_e h1.1
      obtain ⟨k, hk, rfl⟩ := gT_e h3
      obtain ⟨st1, e1, f1, D1, r1⟩ := s_cryB d st hN hV h7 h1.2 hf
      have hb := fb_bth hV hf h1.2
      refine ⟨st1, ?_, scr_fr f1 rfl⟩
      rw [eX11_holds_22, e1]
      simp only [m_bd, Option.toList, List.cons_append, List.nil_append]
      rw [eX11_holds_28, ya_rch _ st1 r1 hb hk h9]
      simp only [m_bd, Option.toList, List.cons_append, List.nil_append]
      rw [eX11_holds_36, bZ_if, n_nat (show fm < 2147483648 by omega), n_nat (show k < 2147483648 by omega)]
      cases e : bth (st 86) fm x2 k with
      | none => rw [if_neg iN, eX11_holds_51, eX11_holds_53]
      | some ch =>
        obtain ⟨c, g⟩ := ch
        obtain ⟨w1, w2⟩ := rp_at r1 hk e
        rw [if_pos iS, ix_9 (show k < 9 by omega)]
        simp only [m_ob]
        rw [eX11_holds_53, w2]
    · rw [if_neg h3, if_neg (fun z => h3 z.2), eX11_holds_20]
      exact ⟨st, rfl, scr_refl st⟩
  · rw [if_neg h1, if_neg (fun z => h1 z.1), eX11_holds_20]
    exact ⟨st, rfl, scr_refl st⟩
theorem mc_holds (d : Nat) {st : zS} (hR : Rel st) (x1 x2 x3 : Int32) : RT (m_evc (d + 8) 189 [.ref 85, .int x1, .int x2, .int x3] (SH, st)) (some (.int (a_holds x1 x2 x3 (st 86)))) (scr st) := by
  obtain ⟨hN, hV, h7, e0⟩ := Rel_x hR
  have h9 := hV.1.2
  unfold a_holds
  rw [cal_X12_holds, eX12_holds_0, s_isAsk _ st hV]
  simp only [m_bd, Option.toList, List.cons_append, List.nil_append]
  rw [eX12_holds_7, bZ_if]
  by_cases h : gT (st 86) x1 ∧ TG x2 ∧ gT (st 86) x3
  · rw [if_pos h, if_pos ⟨⟨h.1, h.2.1⟩, h.2.2⟩]
    obtain ⟨fm, hf, rfl⟩ := gT_e h.1
    obtain ⟨k, hk, rfl⟩ := gT_e h.2.2
    obtain ⟨st1, e1, f1, r1⟩ := s_both d (st := st) hV (t := x2) hf
    have hb := fb_bth hV hf h.2.1
    have q := rp_neg r1 hb hk
    refine ⟨st1, ?_, scr_M f1⟩
    rw [eX12_holds_12, e1]
    simp only [m_bd, Option.toList, List.cons_append, List.nil_append]
    rw [eX12_holds_18, ix_9 (show k < 9 by omega)]
    simp only [m_ob]
    rw [n_nat (show fm < 2147483648 by omega), n_nat (show k < 2147483648 by omega)]
    cases e : bth (st 86) fm x2 k with
    | none => rw [if_pos (q.mpr e), eX12_holds_38]
    | some ch =>
      obtain ⟨c, g⟩ := ch
      obtain ⟨w1, w2⟩ := rp_at r1 hk e
      rw [if_neg (fun z => by rw [q.mp z] at e; cases e), eX12_holds_32, ix_9 (show k < 9 by omega)]
      simp only [m_ob]
      rw [eX12_holds_38, w2]
  · rw [if_neg h, if_neg (fun z => h ⟨z.1.1, z.1.2, z.2⟩)]
    exact ⟨st, rfl, scr_refl st⟩
def a_off (x1 x2 x3 : Int32) (s : Nat → Int32) : Int32 := if (gT s x1 ∧ TG x2) ∧ gT s x3 then (match bth s x1.toNatClampNeg x2 x3.toNatClampNeg with
  | none => -3
  | some ch => ch.2 - ch.1 + 10000) else -1
theorem x_off (d : Nat) {st : zS} (hR : Rel st) (x1 x2 x3 : Int32) : RT (m_evc (d + 8) 98 [.ref 0, .int x1, .int x2, .int x3] (SH, st)) (some (.int (a_off x1 x2 x3 (st 86)))) (scr st) := by
  obtain ⟨hN, hV, h7, e0⟩ := Rel_x hR
  have h9 := hV.1.2
  unfold a_off
  rw [cal_X11_off, eX11_off_0, s_isCry _ st e0 hV.1]
  simp only [m_bd, Option.toList, List.cons_append, List.nil_append]
  rw [eX11_off_6, bZ_if]
  by_cases h1 : gT (st 86) x1 ∧ TG x2
  · rw [if_pos h1, s_isTowX _ st e0 hV.1]
    simp only [m_bd, Option.toList, List.cons_append, List.nil_append]
    rw [eX11_off_17, bZ_if]
    by_cases h3 : gT (st 86) x3
    · rw [if_pos h3, if_pos ⟨h1, h3⟩]
      obtain ⟨fm, hf, rfl⟩ := gT_e h1.1
      obtain ⟨k, hk, rfl⟩ := gT_e h3
      obtain ⟨st1, e1, f1, D1, r1⟩ := s_cryB d st hN hV h7 h1.2 hf
      have hb := fb_bth hV hf h1.2
      refine ⟨st1, ?_, scr_fr f1 rfl⟩
      rw [eX11_off_22, e1]
      simp only [m_bd, Option.toList, List.cons_append, List.nil_append]
      rw [eX11_off_28, ya_rch _ st1 r1 hb hk h9]
      simp only [m_bd, Option.toList, List.cons_append, List.nil_append]
      rw [eX11_off_36, bZ_if, n_nat (show fm < 2147483648 by omega), n_nat (show k < 2147483648 by omega)]
      cases e : bth (st 86) fm x2 k with
      | none => rw [if_neg iN, eX11_off_54, eX11_off_56]
      | some ch =>
        obtain ⟨c, g⟩ := ch
        obtain ⟨w1, w2⟩ := rp_at r1 hk e
        rw [if_pos iS, ya_off _ st1 r1 hk h9 e]
        simp only [m_bd, Option.toList, List.cons_append, List.nil_append]
        rw [eX11_off_47, eX11_off_56]
    · rw [if_neg h3, if_neg (fun z => h3 z.2), eX11_off_20]
      exact ⟨st, rfl, scr_refl st⟩
  · rw [if_neg h1, if_neg (fun z => h1 z.1), eX11_off_20]
    exact ⟨st, rfl, scr_refl st⟩
theorem mc_off (d : Nat) {st : zS} (hR : Rel st) (x1 x2 x3 : Int32) : RT (m_evc (d + 8) 190 [.ref 85, .int x1, .int x2, .int x3] (SH, st)) (some (.int (a_off x1 x2 x3 (st 86)))) (scr st) := by
  obtain ⟨hN, hV, h7, e0⟩ := Rel_x hR
  have h9 := hV.1.2
  unfold a_off
  rw [cal_X12_off, eX12_off_0, s_isAsk _ st hV]
  simp only [m_bd, Option.toList, List.cons_append, List.nil_append]
  rw [eX12_off_7, bZ_if]
  by_cases h : gT (st 86) x1 ∧ TG x2 ∧ gT (st 86) x3
  · rw [if_pos h, if_pos ⟨⟨h.1, h.2.1⟩, h.2.2⟩]
    obtain ⟨fm, hf, rfl⟩ := gT_e h.1
    obtain ⟨k, hk, rfl⟩ := gT_e h.2.2
    obtain ⟨st1, e1, f1, r1⟩ := s_both d (st := st) hV (t := x2) hf
    have hb := fb_bth hV hf h.2.1
    have q := rp_neg r1 hb hk
    refine ⟨st1, ?_, scr_M f1⟩
    rw [eX12_off_12, e1]
    simp only [m_bd, Option.toList, List.cons_append, List.nil_append]
    rw [eX12_off_18, ix_9 (show k < 9 by omega)]
    simp only [m_ob]
    rw [n_nat (show fm < 2147483648 by omega), n_nat (show k < 2147483648 by omega)]
    cases e : bth (st 86) fm x2 k with
    | none => rw [if_pos (q.mpr e), eX12_off_41]
    | some ch =>
      obtain ⟨c, g⟩ := ch
      obtain ⟨w1, w2⟩ := rp_at r1 hk e
      rw [if_neg (fun z => by rw [q.mp z] at e; cases e), eX12_off_32, m_off _ st1 r1 hk h9 e]
      simp only [m_bd, Option.toList, List.cons_append, List.nil_append]
      rw [eX12_off_37, eX12_off_41]
  · rw [if_neg h, if_neg (fun z => h ⟨z.1.1, z.1.2, z.2⟩)]
    exact ⟨st, rfl, scr_refl st⟩
theorem bth_0 {s : Nat → Int32} {t : Int32} {k : Nat} : bth s 0 t k = wst s (isb 0) nob t k := by
  unfold bth wes
  rw [if_pos (Nat.zero_le k)]
theorem n_00 : Int32.ofNat 0 = 0 := rfl
theorem s_cry0 (d : Nat) (st : zS) {s : Nat → Int32} (hN : CN st s) (hV : VN s) (h7 : st 1 7 = s 2) {t : Int32} (ht : TG t) (hf : 0 < tn s) : RT (m_evc (d + 7) 120 [.ref 0, .int 0, .int t] (SH, st)) none (fun st' => fr [17, 44, 45, 46, 47, 48] st st' ∧ ya_D st' s ∧ rp (-9) (st' 47) (st' 48) (wst s (isb 0) nob t) (tn s)) := by
  obtain ⟨st1, e1, f1, D1, r1⟩ := s_cryB d st hN hV h7 ht hf
  refine ⟨st1, e1, f1, D1, fun k hk => ?_⟩
  have := r1 k hk
  rw [bth_0] at this
  exact this
def a_noon (x1 x2 : Int32) (s : Nat → Int32) : Int32 := if gT s x1 ∧ TG x2 then (match wst s (isb 0) nob x2 x1.toNatClampNeg with
  | none => -3
  | some ch => ch.1 + 720 - ch.2 + 10000) else -1
theorem x_noon (d : Nat) {st : zS} (hR : Rel st) (x1 x2 : Int32) : RT (m_evc (d + 8) 105 [.ref 0, .int x1, .int x2] (SH, st)) (some (.int (a_noon x1 x2 (st 86)))) (scr st) := by
  obtain ⟨hN, hV, h7, e0⟩ := Rel_x hR
  have h9 := hV.1.2
  unfold a_noon
  rw [cal_X11_noon, eX11_noon_0, s_isTowX _ st e0 hV.1]
  simp only [m_bd, Option.toList, List.cons_append, List.nil_append]
  rw [eX11_noon_8, bZ_if]
  by_cases h1 : gT (st 86) x1
  · rw [if_pos h1, s_isTX]
    simp only [m_bd, Option.toList, List.cons_append, List.nil_append]
    rw [eX11_noon_15, bZ_if]
    by_cases h2 : TG x2
    · rw [if_pos h2, if_pos ⟨h1, h2⟩]
      obtain ⟨k, hk, rfl⟩ := gT_e h1
      obtain ⟨st1, e1, f1, D1, r1⟩ := s_cry0 d st hN hV h7 h2 (by omega)
      have hb := fb_wst (b := isb 0) (q := nob) hV h2
      refine ⟨st1, ?_, scr_fr f1 rfl⟩
      rw [eX11_noon_20, e1]
      simp only [m_bd, Option.toList, List.cons_append, List.nil_append]
      rw [eX11_noon_26, ya_rch _ st1 r1 hb hk h9]
      simp only [m_bd, Option.toList, List.cons_append, List.nil_append]
      rw [eX11_noon_34, bZ_if, n_nat (show k < 2147483648 by omega)]
      cases e : wst (st 86) (isb 0) nob x2 k with
      | none => rw [if_neg iN, eX11_noon_52, eX11_noon_54]
      | some ch =>
        obtain ⟨c, g⟩ := ch
        rw [if_pos iS, ya_noon _ st1 r1 hk h9 e]
        simp only [m_bd, Option.toList, List.cons_append, List.nil_append]
        rw [eX11_noon_45, eX11_noon_54]
    · rw [if_neg h2, if_neg (fun z => h2 z.2), eX11_noon_18]
      exact ⟨st, rfl, scr_refl st⟩
  · rw [if_neg h1, if_neg (fun z => h1 z.1), eX11_noon_18]
    exact ⟨st, rfl, scr_refl st⟩
theorem mc_noon (d : Nat) {st : zS} (hR : Rel st) (x1 x2 : Int32) : RT (m_evc (d + 8) 202 [.ref 85, .int x1, .int x2] (SH, st)) (some (.int (a_noon x1 x2 (st 86)))) (scr st) := by
  obtain ⟨hN, hV, h7, e0⟩ := Rel_x hR
  have h9 := hV.1.2
  unfold a_noon
  rw [cal_X12_noon, eX12_noon_0, s_isTM0 _ st hV]
  simp only [m_bd, Option.toList, List.cons_append, List.nil_append]
  rw [eX12_noon_5, bZ_if]
  by_cases h1 : gT (st 86) x1
  · rw [if_pos h1, s_isTM]
    simp only [m_bd, Option.toList, List.cons_append, List.nil_append]
    rw [eX12_noon_12, bZ_if]
    by_cases h2 : TG x2
    · rw [if_pos h2, if_pos ⟨h1, h2⟩]
      obtain ⟨k, hk, rfl⟩ := gT_e h1
      obtain ⟨st1, e1, f1, r1⟩ := s_first d (st := st) hV (t := x2) (by omega) nob_q
      have hb := fb_wst (b := isb 0) (q := nob) hV h2
      have q := rp_neg r1 hb hk
      refine ⟨st1, ?_, scr_M f1⟩
      rw [eX12_noon_17, e1]
      simp only [m_bd, Option.toList, List.cons_append, List.nil_append]
      rw [eX12_noon_23, ix_9 (show k < 9 by omega), n_nat (show k < 2147483648 by omega)]
      simp only [m_ob]
      cases e : wst (st 86) (isb 0) nob x2 k with
      | none => rw [if_pos (q.mpr e), eX12_noon_46]
      | some ch =>
        obtain ⟨c, g⟩ := ch
        rw [if_neg (fun z => by rw [q.mp z] at e; cases e), eX12_noon_37, m_noon _ st1 r1 hk h9 e]
        simp only [m_bd, Option.toList, List.cons_append, List.nil_append]
        rw [eX12_noon_42, eX12_noon_46]
    · rw [if_neg h2, if_neg (fun z => h2 z.2), eX12_noon_15]
      exact ⟨st, rfl, scr_refl st⟩
  · rw [if_neg h1, if_neg (fun z => h1 z.1), eX12_noon_15]
    exact ⟨st, rfl, scr_refl st⟩
def wnF (f : Nat → cH) (bd : Int32) (j : Nat) (a : Int32) : Int32 := match f j with
  | none => a
  | some ch => if bd < ab1 (ch.2 - ch.1) then a else a + 1
def a_within (x1 x2 x3 : Int32) (s : Nat → Int32) : Int32 := if (gT s x1 ∧ TG x2) ∧ gR 0 999 x3 then lp (wnF (bth s x1.toNatClampNeg x2) x3) (tn s) 0 0 else -1
theorem x_within (d : Nat) {st : zS} (hR : Rel st) (x1 x2 x3 : Int32) : RT (m_evc (d + 8) 100 [.ref 0, .int x1, .int x2, .int x3] (SH, st)) (some (.int (a_within x1 x2 x3 (st 86)))) (scr st) := by
  obtain ⟨hN, hV, h7, e0⟩ := Rel_x hR
  have h9 := hV.1.2
  unfold a_within
  rw [cal_X11_within, eX11_within_0, s_isCry _ st e0 hV.1]
  simp only [m_bd, Option.toList, List.cons_append, List.nil_append]
  rw [eX11_within_6, bZ_if]
  by_cases h1 : gT (st 86) x1 ∧ TG x2
  · rw [if_pos h1, s_isBndX]
    simp only [m_bd, Option.toList, List.cons_append, List.nil_append]
    rw [eX11_within_13, bZ_if]
    by_cases h3 : gR 0 999 x3
    · rw [if_pos h3, if_pos ⟨h1, h3⟩]
      obtain ⟨fm, hf, rfl⟩ := gT_e h1.1
      obtain ⟨st1, e1, f1, D1, r1⟩ := s_cryB d st hN hV h7 h1.2 hf
      have hb := fb_bth hV hf h1.2
      have en : st1 1 0 = Int32.ofNat (tn (st 86)) := by rw [f1 1 rfl, e0]; exact hV.1.1
      refine ⟨st1, ?_, scr_fr f1 rfl⟩
      rw [eX11_within_18, e1]
      simp only [m_bd, Option.toList, List.cons_append, List.nil_append]
      rw [eX11_within_24, n_nat (show fm < 2147483648 by omega)]
      refine lp_ev (fun j (a : Int32) => m_ev none (d + 7) 100 30 [some (.ref 0), some (.int (Int32.ofNat fm)), some (.int x2), some (.int x3), some (.int a), some (.int (Int32.ofNat j))] [] (SH, st1)) (wnF (bth (st 86) fm x2) x3) (tn (st 86)) (fun a => some (some (.int a), (SH, st1))) ?_ ?_ (tn (st 86)) 0 0 (by omega)
      · intro j a hj
        rw [eX11_within_30, en, if_pos (by rw [n_lt (by omega) (by omega)]; exact hj), ya_rch _ st1 r1 hb hj h9]
        simp only [m_bd, Option.toList, List.cons_append, List.nil_append]
        rw [eX11_within_51, bZ_if]
        unfold wnF
        cases e : bth (st 86) fm x2 j with
        | none => rw [if_neg iN, eX11_within_70, n_succ]
        | some ch =>
          obtain ⟨c, g⟩ := ch
          rw [if_pos iS, ya_dist _ st1 r1 hj h9 e]
          simp only [m_bd, Option.toList, List.cons_append, List.nil_append]
          rw [eX11_within_63]
          by_cases q : x3 < ab1 (g - c)
          · simp only [if_pos q]
            rw [eX11_within_70, n_succ]
          · simp only [if_neg q]
            rw [eX11_within_70, n_succ]
      · intro a
        rw [eX11_within_30, en, if_neg (by rw [n_lt (by omega) (by omega)]; omega), eX11_within_76]
    · rw [if_neg h3, if_neg (fun z => h3 z.2), eX11_within_16]
      exact ⟨st, rfl, scr_refl st⟩
  · rw [if_neg h1, if_neg (fun z => h1 z.1), eX11_within_16]
    exact ⟨st, rfl, scr_refl st⟩
theorem mc_within (d : Nat) {st : zS} (hR : Rel st) (x1 x2 x3 : Int32) : RT (m_evc (d + 8) 192 [.ref 85, .int x1, .int x2, .int x3] (SH, st)) (some (.int (a_within x1 x2 x3 (st 86)))) (scr st) := by
  obtain ⟨hN, hV, h7, e0⟩ := Rel_x hR
  have h9 := hV.1.2
  unfold a_within
  rw [cal_X12_within, eX12_within_0, s_isTM0 _ st hV]
  simp only [m_bd, Option.toList, List.cons_append, List.nil_append]
  rw [eX12_within_5, bZ_if]
  by_cases h1 : gT (st 86) x1
  · rw [if_pos h1, s_isTM]
    simp only [m_bd, Option.toList, List.cons_append, List.nil_append]
    rw [eX12_within_12, bZ_if]
    by_cases h2 : TG x2
    · rw [if_pos h2, s_inb]
      simp only [m_bd, Option.toList, List.cons_append, List.nil_append]
      rw [eX12_within_24, bZ_if]
      by_cases h3 : gR 0 999 x3
      · rw [if_pos (show (0 : Int64).toInt ≤ x3.toInt ∧ x3.toInt ≤ (999 : Int64).toInt from h3), if_pos ⟨⟨h1, h2⟩, h3⟩]
        obtain ⟨fm, hf, rfl⟩ := gT_e h1
        obtain ⟨st1, e1, f1, r1⟩ := s_both d (st := st) hV (t := x2) hf
        have hb := fb_bth hV hf h2
        have en : st1 86 0 = Int32.ofNat (tn (st 86)) := by rw [f1.1 86 rfl]; exact hV.1.1
        refine ⟨st1, ?_, scr_M f1⟩
        rw [eX12_within_29, e1]
        simp only [m_bd, Option.toList, List.cons_append, List.nil_append]
        rw [eX12_within_35, n_nat (show fm < 2147483648 by omega)]
        refine lp_ev (fun j (a : Int32) => m_ev none (d + 7) 192 41 [some (.ref 85), some (.int (Int32.ofNat fm)), some (.int x2), some (.int x3), some (.int a), some (.int (Int32.ofNat j))] [] (SH, st1)) (wnF (bth (st 86) fm x2) x3) (tn (st 86)) (fun a => some (some (.int a), (SH, st1))) ?_ ?_ (tn (st 86)) 0 0 (by omega)
        · intro j a hj
          have q := rp_neg r1 hb hj
          rw [eX12_within_41, en, if_pos (by rw [n_lt (by omega) (by omega)]; exact hj), ix_9 (show j < 9 by omega)]
          simp only [m_ob]
          unfold wnF
          cases e : bth (st 86) fm x2 j with
          | none => rw [if_pos (q.mpr e), eX12_within_81, eX12_within_82, n_succ, Int32.add_zero]
          | some ch =>
            obtain ⟨c, g⟩ := ch
            rw [if_neg (fun z => by rw [q.mp z] at e; cases e), m_off _ st1 r1 hj h9 e]
            simp only [m_bd, Option.toList, List.cons_append, List.nil_append]
            rw [eX12_within_70, m_size]
            simp only [m_bd, Option.toList, List.cons_append, List.nil_append]
            rw [eX12_within_73]
            by_cases q : x3 < ab1 (g - c)
            · simp only [if_pos q]
              rw [eX12_within_81, eX12_within_82, n_succ, Int32.add_zero]
            · simp only [if_neg q]
              rw [eX12_within_82, n_succ]
        · intro a
          rw [eX12_within_41, en, if_neg (by rw [n_lt (by omega) (by omega)]; omega), eX12_within_91]
      · rw [if_neg (show ¬ ((0 : Int64).toInt ≤ x3.toInt ∧ x3.toInt ≤ (999 : Int64).toInt) from h3), if_neg (fun z => h3 z.2), eX12_within_27]
        exact ⟨st, rfl, scr_refl st⟩
    · rw [if_neg h2, if_neg (fun z => h2 z.1.2), eX12_within_27]
      exact ⟨st, rfl, scr_refl st⟩
  · rw [if_neg h1, if_neg (fun z => h1 z.1.1), eX12_within_27]
    exact ⟨st, rfl, scr_refl st⟩
