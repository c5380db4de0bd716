/-! CALLS: worst, firstNoon, lost, crossed, waits -/
theorem lp_last {α : Type} (f : Nat → α → α) : ∀ (m j : Nat) (a : α), lp f (m + 1) j a = f (j + m) (lp f m j a)
  | 0, j, a => rfl
  | m + 1, j, a => by
    show lp f (m + 1) (j + 1) (f j a) = f (j + (m + 1)) (lp f m (j + 1) (f j a))
    rw [lp_last f m (j + 1) (f j a), show j + 1 + m = j + (m + 1) by omega]
theorem lp_split {α : Type} (f : Nat → α → α) : ∀ (m n j : Nat) (a : α), lp f (m + n) j a = lp f n (j + m) (lp f m j a)
  | 0, n, j, a => by rw [Nat.zero_add]; rfl
  | m + 1, n, j, a => by
    rw [show m + 1 + n = (m + n) + 1 by omega]
    show lp f (m + n) (j + 1) (f j a) = lp f n (j + (m + 1)) (lp f m (j + 1) (f j a))
    rw [lp_split f m n (j + 1) (f j a), show j + 1 + m = j + (m + 1) by omega]
def wsM (f : Nat → cH) (j : Nat) (a : Int32 × Int32) : Int32 × Int32 := if a.2 < (match f j with
    | none => -1
    | some ch => ab1 (ch.2 - ch.1)) then (Int32.ofNat j, match f j with
    | none => -1
    | some ch => ab1 (ch.2 - ch.1)) else a
def wsX (f : Nat → cH) (j : Nat) (a : Int32 × Int32) : Int32 × Int32 := match f j with
  | none => a
  | some ch => if a.2 < ab1 (ch.2 - ch.1) then (Int32.ofNat j, ab1 (ch.2 - ch.1)) else a
theorem t_m1 : (-1 : Int32).toInt = -1 := rfl
theorem t_0 : (0 : Int32).toInt = 0 := rfl
theorem ws_eq (f : Nat → cH) : ∀ (m j : Nat) (a b : Int32 × Int32), a.2 = b.2 → -1 ≤ b.2.toInt → (b.2 = -1 ∨ a.1 = b.1) → (lp (wsX f) m j a).2 = (lp (wsM f) m j b).2 ∧ -1 ≤ (lp (wsM f) m j b).2.toInt ∧ ((lp (wsM f) m j b).2 = -1 ∨ (lp (wsX f) m j a).1 = (lp (wsM f) m j b).1) ∧ ((-1 < b.2.toInt ∨ ∃ i, j ≤ i ∧ i < j + m ∧ ∃ ch, f i = some ch ∧ ab1 (ch.2 - ch.1) = 0) → -1 < (lp (wsM f) m j b).2.toInt)
  | 0, j, a, b, h1, h2, h3 => by
    refine ⟨h1, h2, h3, fun h => ?_⟩
    rcases h with h | ⟨i, i1, i2, _⟩
    · exact h
    · omega
  | m + 1, j, a, b, h1, h2, h3 => by
    show (lp (wsX f) m (j + 1) (wsX f j a)).2 = (lp (wsM f) m (j + 1) (wsM f j b)).2 ∧ -1 ≤ (lp (wsM f) m (j + 1) (wsM f j b)).2.toInt ∧ ((lp (wsM f) m (j + 1) (wsM f j b)).2 = -1 ∨ (lp (wsX f) m (j + 1) (wsX f j a)).1 = (lp (wsM f) m (j + 1) (wsM f j b)).1) ∧ (_ → -1 < (lp (wsM f) m (j + 1) (wsM f j b)).2.toInt)
    have key : (wsX f j a).2 = (wsM f j b).2 ∧ -1 ≤ (wsM f j b).2.toInt ∧ ((wsM f j b).2 = -1 ∨ (wsX f j a).1 = (wsM f j b).1) ∧ b.2.toInt ≤ (wsM f j b).2.toInt ∧ ∀ ch, f j = some ch → ab1 (ch.2 - ch.1) = 0 → -1 < (wsM f j b).2.toInt := by
      unfold wsX wsM
      cases e : f j with
      | none =>
        have hn : ¬ b.2 < -1 := by rw [i_lt, t_m1]; omega
        simp only [if_neg hn]
        exact ⟨h1, h2, h3, Int.le_refl _, fun ch z => by cases z⟩
      | some ch =>
        simp only [h1]
        by_cases q : b.2 < ab1 (ch.2 - ch.1)
        · simp only [if_pos q]
          rw [i_lt] at q
          refine ⟨trivial, by omega, Or.inr trivial, by omega, fun ch2 z w => ?_⟩
          cases z
          omega
        · simp only [if_neg q]
          refine ⟨h1, h2, h3, Int.le_refl _, fun ch2 z w => ?_⟩
          cases z
          rw [w, i_lt, t_0] at q
          omega
    obtain ⟨k1, k2, k3, k4, k5⟩ := key
    obtain ⟨r1, r2, r3, r4⟩ := ws_eq f m (j + 1) _ _ k1 k2 k3
    refine ⟨r1, r2, r3, fun h => r4 ?_⟩
    rcases h with h | ⟨i, i1, i2, ch, i3, i4⟩
    · exact Or.inl (by omega)
    · by_cases q : i = j
      · subst q
        exact Or.inl (k5 ch i3 i4)
      · exact Or.inr ⟨i, by omega, by omega, ch, i3, i4⟩
theorem bth_at {s : Nat → Int32} {fm : Nat} {t : Int32} : bth s fm t fm = some (t, t) := by
  unfold bth wes
  rw [if_pos (Nat.le_refl fm), wst_at (isb_at fm)]
def a_worst (x1 x2 : Int32) (s : Nat → Int32) : Int32 := if gT s x1 ∧ TG x2 then (lp (wsM (bth s x1.toNatClampNeg x2)) (tn s) 0 (-1, -1)).1 else -1
theorem x_worst (d : Nat) {st : zS} (hR : Rel st) (x1 x2 : Int32) : RT (m_evc (d + 8) 99 [.ref 0, .int x1, .int x2] (SH, st)) (some (.int (a_worst x1 x2 (st 86)))) (scr st) := by
  obtain ⟨hN, hV, h7, e0⟩ := Rel_x hR
  have h9 := hV.1.2
  unfold a_worst
  rw [cal_X11_worst, eX11_worst_0, s_isCry _ st e0 hV.1]
  simp only [m_bd, Option.toList, List.cons_append, List.nil_append]
  rw [eX11_worst_6, bZ_if]
  by_cases h1 : gT (st 86) x1 ∧ TG x2
  · rw [if_pos h1, if_pos h1]
    obtain ⟨fm, hf, rfl⟩ := gT_e h1.1
    obtain ⟨st1, e1, f1, D1, r1⟩ := s_cryB d st hN hV h7 h1.2 hf
    have hb := fb_bth hV hf h1.2
    have en : st1 1 0 = Int32.ofNat (tn (st 86)) := by rw [f1 1 rfl, e0]; exact hV.1.1
    refine ⟨st1, ?_, scr_fr f1 rfl⟩
    rw [eX11_worst_11, e1]
    simp only [m_bd, Option.toList, List.cons_append, List.nil_append]
    rw [eX11_worst_17, n_nat (show fm < 2147483648 by omega)]
    have L := lp_ev (fun j (a : Int32 × Int32) => m_ev none (d + 7) 99 25 [some (.ref 0), some (.int (Int32.ofNat fm)), some (.int x2), some (.int a.1), some (.int a.2), some (.int (Int32.ofNat j))] [] (SH, st1)) (wsX (bth (st 86) fm x2)) (tn (st 86)) (fun a => some (some (.int a.1), (SH, st1))) ?_ ?_ (tn (st 86)) 0 (Int32.ofNat fm, -1) (by omega)
    · have w := ws_eq (bth (st 86) fm x2) (tn (st 86)) 0 (Int32.ofNat fm, -1) (-1, -1) rfl (by decide) (Or.inl rfl)
      have w4 := w.2.2.2 (Or.inr ⟨fm, by omega, by omega, (x2, x2), bth_at, by show ab1 (x2 - x2) = 0; rw [Int32.sub_self]; rfl⟩)
      have w5 := w.2.2.1.resolve_left (fun z => by rw [z] at w4; revert w4; decide)
      rw [← w5]
      exact L
    · intro j a hj
      rw [eX11_worst_25, en, if_pos (by rw [n_lt (by omega) (by omega)]; exact hj), ya_rch _ st1 r1 hb hj h9]
      simp only [m_bd, Option.toList, List.cons_append, List.nil_append]
      rw [eX11_worst_46, bZ_if]
      unfold wsX
      cases e : bth (st 86) fm x2 j with
      | none => rw [if_neg iN, eX11_worst_77, n_succ]
      | some ch =>
        obtain ⟨c, g⟩ := ch
        rw [if_pos iS, ya_dist _ st1 r1 hj h9 e]
        simp only [m_bd, Option.toList, List.cons_append, List.nil_append]
        rw [eX11_worst_58]
        by_cases q : a.2 < ab1 (g - c)
        · simp only [if_pos q]
          rw [ya_dist _ st1 r1 hj h9 e]
          simp only [m_bd, Option.toList, List.cons_append, List.nil_append]
          rw [eX11_worst_75, eX11_worst_77, n_succ]
        · simp only [if_neg q]
          rw [eX11_worst_77, n_succ]
    · intro a
      rw [eX11_worst_25, en, if_neg (by rw [n_lt (by omega) (by omega)]; omega), eX11_worst_83]
  · rw [if_neg h1, if_neg h1]
    exact ⟨st, rfl, scr_refl st⟩
theorem mc_worst (d : Nat) {st : zS} (hR : Rel st) (x1 x2 : Int32) : RT (m_evc (d + 8) 191 [.ref 85, .int x1, .int x2] (SH, st)) (some (.int (a_worst x1 x2 (st 86)))) (scr st) := by
  obtain ⟨hN, hV, h7, e0⟩ := Rel_x hR
  have h9 := hV.1.2
  unfold a_worst
  rw [cal_X12_worst, eX12_worst_0, s_isTM0 _ st hV]
  simp only [m_bd, Option.toList, List.cons_append, List.nil_append]
  rw [eX12_worst_5, bZ_if]
  by_cases h1 : gT (st 86) x1
  · rw [if_pos h1, s_isTM]
    simp only [m_bd, Option.toList, List.cons_append, List.nil_append]
    rw [eX12_worst_12, bZ_if]
    by_cases h2 : TG x2
    · rw [if_pos h2, if_pos ⟨h1, h2⟩]
      obtain ⟨fm, hf, rfl⟩ := gT_e h1
      obtain ⟨st1, e1, f1, r1⟩ := s_both d (st := st) hV (t := x2) hf
      have hb := fb_bth hV hf h2
      have en : st1 86 0 = Int32.ofNat (tn (st 86)) := by rw [f1.1 86 rfl]; exact hV.1.1
      refine ⟨st1, ?_, scr_M f1⟩
      rw [eX12_worst_17, e1]
      simp only [m_bd, Option.toList, List.cons_append, List.nil_append]
      rw [eX12_worst_23, n_nat (show fm < 2147483648 by omega)]
      have L := lp_inv (fun j (a : (Int32 × Int32) × Option Value) => m_ev none (d + 7) 191 31 [some (.ref 85), some (.int (Int32.ofNat fm)), some (.int x2), some (.int a.1.1), some (.int a.1.2), some (.int (Int32.ofNat j)), a.2] [] (SH, st1)) (fun j a => a.1 = lp (wsM (bth (st 86) fm x2)) j 0 (-1, -1)) (tn (st 86)) ?_ (tn (st 86)) 0 ((-1, -1), none) (by omega) rfl
      · obtain ⟨b, e, hb⟩ := L
        refine Eq.trans e ?_
        rw [eX12_worst_31, en, if_neg (by rw [n_lt (by omega) (by omega)]; omega), eX12_worst_103, hb]
      · rintro j ⟨a, x6⟩ hj hI
        have q := rp_neg r1 hb hj
        have hstep : wsM (bth (st 86) fm x2) j a = lp (wsM (bth (st 86) fm x2)) (j + 1) 0 (-1, -1) := by
          have hI : a = lp (wsM (bth (st 86) fm x2)) j 0 (-1, -1) := hI
          rw [hI, lp_last, Nat.zero_add]
        have fin : ∀ far : Int32, far = (match bth (st 86) fm x2 j with
            | none => -1
            | some ch => ab1 (ch.2 - ch.1)) → m_ev none (d + 7) 191 65 [some (.ref 85), some (.int (Int32.ofNat fm)), some (.int x2), some (.int a.1), some (.int a.2), some (.int (Int32.ofNat j)), x6] [.int far] (SH, st1) = m_ev none (d + 7) 191 31 [some (.ref 85), some (.int (Int32.ofNat fm)), some (.int x2), some (.int (wsM (bth (st 86) fm x2) j a).1), some (.int (wsM (bth (st 86) fm x2) j a).2), some (.int (Int32.ofNat (j + 1))), some (.int far)] [] (SH, st1) := by
          intro far hfar
          rw [eX12_worst_65]
          unfold wsM
          rw [← hfar]
          by_cases z : a.2 < far
          · simp only [if_pos z]
            rw [eX12_worst_80, if_pos z, eX12_worst_95, n_succ]
          · simp only [if_neg z]
            rw [eX12_worst_79, eX12_worst_80, if_neg z, eX12_worst_93, eX12_worst_95, n_succ]
        cases e : bth (st 86) fm x2 j with
        | none =>
          refine ⟨(wsM (bth (st 86) fm x2) j a, some (.int (-1))), ?_, hstep⟩
          simp only
          rw [eX12_worst_31, en, if_pos (by rw [n_lt (by omega) (by omega)]; exact hj), ix_9 (show j < 9 by omega)]
          simp only [m_ob]
          rw [if_pos (q.mpr e)]
          exact fin _ (by rw [e])
        | some ch =>
          refine ⟨(wsM (bth (st 86) fm x2) j a, some (.int (ab1 (ch.2 - ch.1)))), ?_, hstep⟩
          simp only
          rw [eX12_worst_31, en, if_pos (by rw [n_lt (by omega) (by omega)]; exact hj), ix_9 (show j < 9 by omega)]
          simp only [m_ob]
          obtain ⟨c, g⟩ := ch
          rw [if_neg (fun z => by rw [q.mp z] at e; cases e), eX12_worst_56, m_off _ st1 r1 hj h9 e]
          simp only [m_bd, Option.toList, List.cons_append, List.nil_append]
          rw [eX12_worst_62, m_size]
          simp only [m_bd, Option.toList, List.cons_append, List.nil_append]
          exact fin _ (by rw [e])
    · rw [if_neg h2, if_neg (fun z => h2 z.2), eX12_worst_15]
      exact ⟨st, rfl, scr_refl st⟩
  · rw [if_neg h1, if_neg (fun z => h1 z.1), eX12_worst_15]
    exact ⟨st, rfl, scr_refl st⟩
def nn (o : cH) : Int32 := match o with
  | none => 0
  | some ch => ch.1 + 720 - ch.2
def fnF (f : Nat → cH) (j p : Nat) : Nat := match f j with
  | none => p
  | some ch => if ch.1 + 720 - ch.2 < nn (f p) then j else p
def a_first (x1 : Int32) (s : Nat → Int32) : Int32 := if TG x1 then (if tn s = 0 then -3 else Int32.ofNat (lp (fnF (wst s (isb 0) nob x1)) (tn s - 1) 1 0)) else -1
theorem x_first (d : Nat) {st : zS} (hR : Rel st) (x1 : Int32) : RT (m_evc (d + 8) 106 [.ref 0, .int x1] (SH, st)) (some (.int (a_first x1 (st 86)))) (scr st) := by
  obtain ⟨hN, hV, h7, e0⟩ := Rel_x hR
  have h9 := hV.1.2
  unfold a_first
  rw [cal_X11_firstNoon, eX11_firstNoon_0, s_isTX]
  simp only [m_bd, Option.toList, List.cons_append, List.nil_append]
  rw [eX11_firstNoon_4, bZ_if]
  by_cases h1 : TG x1
  · rw [if_pos h1, if_pos h1, eX11_firstNoon_9, e0, hV.1.1]
    by_cases h0 : tn (st 86) = 0
    · rw [if_pos h0, if_pos (by rw [h0]; rfl)]
      exact ⟨st, rfl, scr_refl st⟩
    · have hz : ¬ Int32.ofNat (tn (st 86)) = 0 := by rw [← n_00, n_eq (by omega) (by omega)]; exact h0
      rw [if_neg h0, if_neg hz]
      obtain ⟨st1, e1, f1, D1, r1⟩ := s_cry0 d st hN hV h7 h1 (by omega)
      have hb := fb_wst (b := isb 0) (q := nob) hV h1
      have en : st1 1 0 = Int32.ofNat (tn (st 86)) := by rw [f1 1 rfl, e0]; exact hV.1.1
      refine ⟨st1, ?_, scr_fr f1 rfl⟩
      rw [eX11_firstNoon_22, e1]
      simp only [m_bd, Option.toList, List.cons_append, List.nil_append]
      rw [eX11_firstNoon_28]
      refine lp_evI (fun j (a : Nat) => m_ev none (d + 7) 106 32 [some (.ref 0), some (.int x1), some (.int (Int32.ofNat a)), some (.int (Int32.ofNat j))] [] (SH, st1)) (fun j a => a < tn (st 86) ∧ (wst (st 86) (isb 0) nob x1 a).isSome = true) (fnF (wst (st 86) (isb 0) nob x1)) (tn (st 86)) (fun a => some (some (.int (Int32.ofNat a)), (SH, st1))) ?_ ?_ (tn (st 86) - 1) 1 0 (by omega) ⟨by omega, by rw [wst_at (isb_at 0)]; rfl⟩
      · intro j a hj hI
        obtain ⟨ca, ea⟩ := Option.isSome_iff_exists.mp hI.2
        obtain ⟨c2, g2⟩ := ca
        have ena : nn (wst (st 86) (isb 0) nob x1 a) = c2 + 720 - g2 := by rw [ea]; rfl
        unfold fnF
        cases e : wst (st 86) (isb 0) nob x1 j with
        | none =>
          refine ⟨?_, hI⟩
          rw [eX11_firstNoon_32, en, if_pos (by rw [n_lt (by omega) (by omega)]; exact hj), ya_rch _ st1 r1 hb hj h9]
          simp only [m_bd, Option.toList, List.cons_append, List.nil_append]
          rw [eX11_firstNoon_51, bZ_if, e, if_neg iN, eX11_firstNoon_75, n_succ]
        | some ch =>
          obtain ⟨c, g⟩ := ch
          have go : m_ev none (d + 7) 106 32 [some (.ref 0), some (.int x1), some (.int (Int32.ofNat a)), some (.int (Int32.ofNat j))] [] (SH, st1) = m_ev none (d + 7) 106 70 [some (.ref 0), some (.int x1), some (.int (Int32.ofNat a)), some (.int (Int32.ofNat j))] [.int (c2 + 720 - g2), .int (c + 720 - g)] (SH, st1) := by
            rw [eX11_firstNoon_32, en, if_pos (by rw [n_lt (by omega) (by omega)]; exact hj), ya_rch _ st1 r1 hb hj h9]
            simp only [m_bd, Option.toList, List.cons_append, List.nil_append]
            rw [eX11_firstNoon_51, bZ_if, e, if_pos iS, ya_noon _ st1 r1 hj h9 e]
            simp only [m_bd, Option.toList, List.cons_append, List.nil_append]
            rw [eX11_firstNoon_62, ya_noon _ st1 r1 hI.1 h9 ea]
            simp only [m_bd, Option.toList, List.cons_append, List.nil_append]
          show _ = m_ev none (d + 7) 106 32 [some (.ref 0), some (.int x1), some (.int (Int32.ofNat (if c + 720 - g < nn (wst (st 86) (isb 0) nob x1 a) then j else a))), some (.int (Int32.ofNat (j + 1)))] [] (SH, st1) ∧ (if c + 720 - g < nn (wst (st 86) (isb 0) nob x1 a) then j else a) < tn (st 86) ∧ (wst (st 86) (isb 0) nob x1 (if c + 720 - g < nn (wst (st 86) (isb 0) nob x1 a) then j else a)).isSome = true
          rw [go, eX11_firstNoon_70, ena]
          by_cases q : c + 720 - g < c2 + 720 - g2
          · simp only [if_pos q]
            rw [eX11_firstNoon_75, n_succ, e]
            exact ⟨rfl, hj, rfl⟩
          · simp only [if_neg q]
            rw [eX11_firstNoon_75, n_succ]
            exact ⟨rfl, hI⟩
      · intro a _
        rw [eX11_firstNoon_32, en, if_neg (by rw [n_lt (by omega) (by omega)]; omega), eX11_firstNoon_81]
  · rw [if_neg h1, if_neg h1]
    exact ⟨st, rfl, scr_refl st⟩
theorem mc_first (d : Nat) {st : zS} (hR : Rel st) (x1 : Int32) : RT (m_evc (d + 8) 203 [.ref 85, .int x1] (SH, st)) (some (.int (a_first x1 (st 86)))) (scr st) := by
  obtain ⟨hN, hV, h7, e0⟩ := Rel_x hR
  have h9 := hV.1.2
  unfold a_first
  rw [cal_X12_firstNoon, eX12_firstNoon_0, s_isTM]
  simp only [m_bd, Option.toList, List.cons_append, List.nil_append]
  rw [eX12_firstNoon_4, bZ_if]
  by_cases h1 : TG x1
  · rw [if_pos h1, if_pos h1, eX12_firstNoon_9]
    by_cases h0 : tn (st 86) = 0
    · rw [if_pos h0, if_pos (by rw [hV.1.1, h0]; rfl)]
      exact ⟨st, rfl, scr_refl st⟩
    · have hz : ¬ st 86 0 = 0 := by rw [hV.1.1, ← n_00, n_eq (by omega) (by omega)]; exact h0
      rw [if_neg h0, if_neg hz]
      obtain ⟨st1, e1, f1, r1⟩ := s_first d (st := st) hV (t := x1) (by omega) nob_q
      have hb := fb_wst (b := isb 0) (q := nob) hV h1
      have en : st1 86 0 = Int32.ofNat (tn (st 86)) := by rw [f1.1 86 rfl]; exact hV.1.1
      refine ⟨st1, ?_, scr_M f1⟩
      rw [eX12_firstNoon_21, e1]
      simp only [m_bd, Option.toList, List.cons_append, List.nil_append]
      rw [eX12_firstNoon_27]
      refine lp_evI (fun j (a : Nat) => m_ev none (d + 7) 203 31 [some (.ref 85), some (.int x1), some (.int (Int32.ofNat a)), some (.int (Int32.ofNat j))] [] (SH, st1)) (fun j a => a < tn (st 86) ∧ (wst (st 86) (isb 0) nob x1 a).isSome = true) (fnF (wst (st 86) (isb 0) nob x1)) (tn (st 86)) (fun a => some (some (.int (Int32.ofNat a)), (SH, st1))) ?_ ?_ (tn (st 86) - 1) 1 0 (by omega) ⟨by omega, by rw [wst_at (isb_at 0)]; rfl⟩
      · intro j a hj hI
        obtain ⟨ca, ea⟩ := Option.isSome_iff_exists.mp hI.2
        obtain ⟨c2, g2⟩ := ca
        have ena : nn (wst (st 86) (isb 0) nob x1 a) = c2 + 720 - g2 := by rw [ea]; rfl
        have q := rp_neg r1 hb hj
        unfold fnF
        cases e : wst (st 86) (isb 0) nob x1 j with
        | none =>
          refine ⟨?_, hI⟩
          rw [eX12_firstNoon_31, en, if_pos (by rw [n_lt (by omega) (by omega)]; exact hj), ix_9 (show j < 9 by omega)]
          simp only [m_ob]
          rw [if_pos (q.mpr e), eX12_firstNoon_67, eX12_firstNoon_68, n_succ]
        | some ch =>
          obtain ⟨c, g⟩ := ch
          have go : m_ev none (d + 7) 203 31 [some (.ref 85), some (.int x1), some (.int (Int32.ofNat a)), some (.int (Int32.ofNat j))] [] (SH, st1) = m_ev none (d + 7) 203 60 [some (.ref 85), some (.int x1), some (.int (Int32.ofNat a)), some (.int (Int32.ofNat j))] [.int (c2 + 720 - g2), .int (c + 720 - g)] (SH, st1) := by
            rw [eX12_firstNoon_31, en, if_pos (by rw [n_lt (by omega) (by omega)]; exact hj), ix_9 (show j < 9 by omega)]
            simp only [m_ob]
            rw [if_neg (fun z => by rw [q.mp z] at e; cases e), m_noon _ st1 r1 hj h9 e]
            simp only [m_bd, Option.toList, List.cons_append, List.nil_append]
            rw [eX12_firstNoon_55, m_noon _ st1 r1 hI.1 h9 ea]
            simp only [m_bd, Option.toList, List.cons_append, List.nil_append]
          show _ = m_ev none (d + 7) 203 31 [some (.ref 85), some (.int x1), some (.int (Int32.ofNat (if c + 720 - g < nn (wst (st 86) (isb 0) nob x1 a) then j else a))), some (.int (Int32.ofNat (j + 1)))] [] (SH, st1) ∧ (if c + 720 - g < nn (wst (st 86) (isb 0) nob x1 a) then j else a) < tn (st 86) ∧ (wst (st 86) (isb 0) nob x1 (if c + 720 - g < nn (wst (st 86) (isb 0) nob x1 a) then j else a)).isSome = true
          rw [go, eX12_firstNoon_60, ena]
          by_cases q : c + 720 - g < c2 + 720 - g2
          · simp only [if_pos q]
            rw [eX12_firstNoon_68, n_succ, e]
            exact ⟨rfl, hj, rfl⟩
          · simp only [if_neg q]
            rw [eX12_firstNoon_67, eX12_firstNoon_68, n_succ]
            exact ⟨rfl, hI⟩
      · intro a _
        rw [eX12_firstNoon_31, en, if_neg (by rw [n_lt (by omega) (by omega)]; omega), eX12_firstNoon_75]
  · rw [if_neg h1, if_neg h1]
    exact ⟨st, rfl, scr_refl st⟩
