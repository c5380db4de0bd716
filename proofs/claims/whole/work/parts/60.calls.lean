/-! CALLS: bestDay, mender -/
theorem fr_drop {i : Nat} {cs : List Nat} {a b : zS} (h : fr (i :: cs) a b) (e : b i = a i) : fr cs a b := by
  intro j hj
  by_cases q : j = i
  · subst q; exact e
  · apply h
    cases z : (i :: cs).elem j with
    | false => rfl
    | true =>
      have hm : j ∈ i :: cs := by simpa [List.elem_eq_contains, List.contains_iff_mem] using z
      have hm2 : j ∈ cs := (List.mem_cons.mp hm).resolve_left q
      have : cs.elem j = true := by simpa [List.elem_eq_contains, List.contains_iff_mem] using hm2
      rw [this] at hj; cases hj
theorem up_app (st : zS) (i j : Nat) (v : Int32) (b : Nat) : m_up st i j v i b = if b = j then v else st i b := by rw [up_row]
theorem tn_sd (s : Nat → Int32) (d : Nat) : tn (sd s d) = tn s := by
  unfold tn; rw [sd_ne (by omega)]
def bdM (g : Nat → cH) (d : Nat) (a : Int32 × Int32) : Int32 × Int32 := match g d with
  | none => a
  | some ch => if a.1 < 0 ∨ ab1 (ch.2 - ch.1) < a.2 then (Int32.ofNat d, ab1 (ch.2 - ch.1)) else a
def bdX (g : Nat → cH) (d : Nat) (a : Int32 × Int32) : Int32 × Int32 := match g d with
  | none => a
  | some ch => if a.1 = -3 ∨ ab1 (ch.2 - ch.1) < a.2 then (Int32.ofNat d, ab1 (ch.2 - ch.1)) else a
theorem t_mx : (2147483647 : Int32).toInt = 2147483647 := rfl
theorem i_m3 {a : Int32} (h : 0 ≤ a.toInt) : ¬ a = -3 := fun z => by rw [z, show (-3 : Int32).toInt = -3 from rfl] at h; omega
theorem bd_eq (g : Nat → cH) : ∀ (m j : Nat) (a b : Int32 × Int32), j + m < 1000 → (∀ i, j ≤ i → i < j + m → ∀ ch, g i = some ch → (ab1 (ch.2 - ch.1)).toInt ≤ 50000) → ((a.1 = -3 ∧ b.1 = -1) ∨ (a = b ∧ 0 ≤ b.1.toInt)) → (if (lp (bdM g) m j b).1 < 0 then (-3 : Int32) else (lp (bdM g) m j b).1) = (lp (bdX g) m j a).1
  | 0, j, a, b, hj, hb, h => by
    show (if b.1 < 0 then (-3 : Int32) else b.1) = a.1
    rcases h with ⟨h1, h2⟩ | ⟨h1, h2⟩
    · rw [h1, h2, if_pos n_neg1]
    · rw [if_neg (by rw [i_lt, t_0]; omega), h1]
  | m + 1, j, a, b, hj, hb, h => by
    show (if (lp (bdM g) m (j + 1) (bdM g j b)).1 < 0 then (-3 : Int32) else (lp (bdM g) m (j + 1) (bdM g j b)).1) = (lp (bdX g) m (j + 1) (bdX g j a)).1
    apply bd_eq g m (j + 1) _ _ (by omega) (fun i i1 i2 => hb i (by omega) (by omega))
    unfold bdM bdX
    cases e : g j with
    | none => exact h
    | some ch =>
      have hd := hb j (Nat.le_refl j) (by omega) ch e
      have hn : 0 ≤ (Int32.ofNat j).toInt := by rw [n_int (by omega)]; omega
      rcases h with ⟨h1, h2⟩ | ⟨h1, h2⟩
      · simp only
        rw [if_pos (show b.1 < 0 ∨ ab1 (ch.2 - ch.1) < b.2 from Or.inl (by rw [h2]; exact n_neg1)), if_pos (show a.1 = -3 ∨ ab1 (ch.2 - ch.1) < a.2 from Or.inl h1)]
        exact Or.inr ⟨rfl, hn⟩
      · subst h1
        simp only
        by_cases q : ab1 (ch.2 - ch.1) < a.2
        · rw [if_pos (show a.1 < 0 ∨ ab1 (ch.2 - ch.1) < a.2 from Or.inr q), if_pos (show a.1 = -3 ∨ ab1 (ch.2 - ch.1) < a.2 from Or.inr q)]
          exact Or.inr ⟨rfl, hn⟩
        · rw [if_neg (show ¬ (a.1 < 0 ∨ ab1 (ch.2 - ch.1) < a.2) from fun z => z.elim (fun y => by rw [i_lt, t_0] at y; omega) q), if_neg (show ¬ (a.1 = -3 ∨ ab1 (ch.2 - ch.1) < a.2) from fun z => z.elim (i_m3 h2) q)]
          exact Or.inr ⟨rfl, h2⟩
def a_bestDay (x1 x2 x3 : Int32) (s : Nat → Int32) : Int32 := if (gT s x2 ∧ TG x3) ∧ gT s x1 then (lp (bdX (fun d => bth (sd s d) x2.toNatClampNeg x3 x1.toNatClampNeg)) 7 0 (-3, 0)).1 else -1
theorem x_bestDay (d : Nat) {st : zS} (hR : Rel st) (x1 x2 x3 : Int32) : RT (m_evc (d + 8) 109 [.ref 0, .int x1, .int x2, .int x3] (SH, st)) (some (.int (a_bestDay x1 x2 x3 (st 86)))) (scr st) := by
  obtain ⟨hN, hV, h7, e0⟩ := Rel_x hR
  have h9 := hV.1.2
  unfold a_bestDay
  rw [cal_X11_bestDay, eX11_bestDay_0, s_isTowX _ st e0 hV.1]
  simp only [m_bd, Option.toList, List.cons_append, List.nil_append]
  rw [eX11_bestDay_8, bZ_if]
  by_cases h1 : gT (st 86) x1
  · rw [if_pos h1, s_isCry _ st e0 hV.1]
    simp only [m_bd, Option.toList, List.cons_append, List.nil_append]
    rw [eX11_bestDay_17, bZ_if]
    by_cases h2 : gT (st 86) x2 ∧ TG x3
    · rw [if_pos h2, if_pos ⟨h2, h1⟩]
      obtain ⟨k, hk, rfl⟩ := gT_e h1
      obtain ⟨fm, hf, rfl⟩ := gT_e h2.1
      rw [eX11_bestDay_22, n_nat (show fm < 2147483648 by omega), n_nat (show k < 2147483648 by omega)]
      have L := lp_inv (fun j (a : zS × (Int32 × Int32)) => m_ev none (d + 7) 109 32 [some (.ref 0), some (.int (Int32.ofNat k)), some (.int (Int32.ofNat fm)), some (.int x3), some (.int a.2.1), some (.int a.2.2), some (.int (Int32.ofNat j))] [] (SH, a.1)) (fun j a => fr [17, 44, 45, 46, 47, 48] st a.1 ∧ a.2 = lp (bdX (fun d => bth (sd (st 86) d) fm x3 k)) j 0 (-3, 0)) 7 ?_ 7 0 (st, (-3, 0)) (by omega) ⟨fr_refl _ _, rfl⟩
      · obtain ⟨⟨st1, a⟩, e, f1, ha⟩ := L
        have ha : a = _ := ha
        refine ⟨st1, ?_, scr_fr f1 rfl⟩
        refine Eq.trans e ?_
        simp only
        rw [eX11_bestDay_32, if_neg (by decide), eX11_bestDay_108, ha]
      · rintro j ⟨a, w⟩ hj ⟨f, hw⟩
        have hw : w = _ := hw
        have f : fr [17, 44, 45, 46, 47, 48] st a := f
        obtain ⟨st1, e1, f1, D1⟩ := ya_takeD (d + 1) a (CN_fr hN f rfl) hV hj
        obtain ⟨st2, e2, f2, D2, r2⟩ := ya_goBoth (d + 3) st1 D1 h2.2 (fm := fm) (by rw [tn_sd]; exact hf)
        rw [tn_sd] at r2
        have r2 : rp (-9) (st2 47) (st2 48) (bth (sd (st 86) j) fm x3) (tn (st 86)) := r2
        have hb : fb (bth (sd (st 86) j) fm x3) (tn (st 86)) := by
          have := fb_bth (VN_sd hV hj) (fm := fm) (by rw [tn_sd]; exact hf) h2.2
          rw [tn_sd] at this; exact this
        have hlt : Int32.ofNat j < 7 := by rw [show (7 : Int32) = Int32.ofNat 7 from rfl, n_lt (by omega) (by omega)]; exact hj
        refine ⟨(st2, bdX (fun d => bth (sd (st 86) d) fm x3 k) j w), ?_, fr_mono (fr_tr (fr_tr f f1) f2) (by decide), ?_⟩
        · simp only
          rw [eX11_bestDay_32, if_pos hlt, e1]
          simp only [m_bd, Option.toList, List.cons_append, List.nil_append]
          rw [eX11_bestDay_48, e2]
          simp only [m_bd, Option.toList, List.cons_append, List.nil_append]
          rw [eX11_bestDay_57, ya_rch _ st2 r2 hb hk h9]
          simp only [m_bd, Option.toList, List.cons_append, List.nil_append]
          rw [eX11_bestDay_65, bZ_if]
          unfold bdX
          simp only
          cases e : bth (sd (st 86) j) fm x3 k with
          | none => rw [if_neg iN, eX11_bestDay_102, n_succ]
          | some ch =>
            obtain ⟨c, g⟩ := ch
            have yes : m_ev none (d + 7) 109 88 [some (.ref 0), some (.int (Int32.ofNat k)), some (.int (Int32.ofNat fm)), some (.int x3), some (.int w.1), some (.int w.2), some (.int (Int32.ofNat j))] [] (SH, st2) = m_ev none (d + 7) 109 32 [some (.ref 0), some (.int (Int32.ofNat k)), some (.int (Int32.ofNat fm)), some (.int x3), some (.int (Int32.ofNat j)), some (.int (ab1 (g - c))), some (.int (Int32.ofNat (j + 1)))] [] (SH, st2) := by
              rw [eX11_bestDay_88, ya_dist _ st2 r2 hk h9 e]
              simp only [m_bd, Option.toList, List.cons_append, List.nil_append]
              rw [eX11_bestDay_100, eX11_bestDay_102, n_succ]
            rw [if_pos iS]
            by_cases q1 : w.1 = -3
            · rw [if_pos q1, yes]
              simp only [if_pos (show w.1 = -3 ∨ ab1 (g - c) < w.2 from Or.inl q1)]
            · rw [if_neg q1, ya_dist _ st2 r2 hk h9 e]
              simp only [m_bd, Option.toList, List.cons_append, List.nil_append]
              rw [eX11_bestDay_83]
              by_cases q2 : ab1 (g - c) < w.2
              · rw [if_pos q2, yes]
                simp only [if_pos (show w.1 = -3 ∨ ab1 (g - c) < w.2 from Or.inr q2)]
              · rw [if_neg q2, eX11_bestDay_102, n_succ]
                simp only [if_neg (show ¬ (w.1 = -3 ∨ ab1 (g - c) < w.2) from fun z => z.elim q1 q2)]
        · rw [lp_last, Nat.zero_add, ← hw]
    · rw [if_neg h2, if_neg (fun z => h2 z.1), eX11_bestDay_20]
      exact ⟨st, rfl, scr_refl st⟩
  · rw [if_neg h1, if_neg (fun z => h1 z.2), eX11_bestDay_20]
    exact ⟨st, rfl, scr_refl st⟩
theorem sd_up {a : zS} {s : Nat → Int32} (h : ∀ i, i ≠ 2 → a 86 i = s i) (j : Nat) : m_up a 86 2 (Int32.ofNat j) 86 = sd s j := by
  funext i
  rw [up_app]
  unfold sd
  by_cases q : i = 2
  · rw [if_pos q, if_pos q]
  · rw [if_neg q, if_neg q]; exact h i q
theorem mc_bestDay (d : Nat) {st : zS} (hR : Rel st) (x1 x2 x3 : Int32) : RT (m_evc (d + 8) 207 [.ref 85, .int x1, .int x2, .int x3] (SH, st)) (some (.int (a_bestDay x1 x2 x3 (st 86)))) (scr st) := by
  obtain ⟨hN, hV, h7, e0⟩ := Rel_x hR
  have hB : NB (st 86) := hR.1.2.2.2.2.2.2.2
  have h9 := hV.1.2
  unfold a_bestDay
  rw [cal_X12_bestDay, eX12_bestDay_0, s_isAsk _ st hV]
  simp only [m_bd, Option.toList, List.cons_append, List.nil_append]
  rw [eX12_bestDay_7, bZ_if]
  by_cases h : gT (st 86) x2 ∧ TG x3 ∧ gT (st 86) x1
  · rw [if_pos h, if_pos ⟨⟨h.1, h.2.1⟩, h.2.2⟩]
    obtain ⟨fm, hf, rfl⟩ := gT_e h.1
    obtain ⟨k, hk, rfl⟩ := gT_e h.2.2
    rw [eX12_bestDay_12, n_nat (show fm < 2147483648 by omega), n_nat (show k < 2147483648 by omega)]
    have L := lp_inv (fun j (a : zS × (Int32 × Int32)) => m_ev none (d + 7) 207 29 [some (.ref 85), some (.int (Int32.ofNat k)), some (.int (Int32.ofNat fm)), some (.int x3), some (.int (st 86 2)), some (.int a.2.1), some (.int a.2.2), some (.int (Int32.ofNat j))] [] (SH, a.1)) (fun j a => (fM6 st a.1 ∧ ∀ i, i ≠ 2 → a.1 86 i = st 86 i) ∧ a.2 = lp (bdM (fun d => bth (sd (st 86) d) fm x3 k)) j 0 (-1, 0)) 7 ?_ 7 0 (st, (-1, 0)) (by omega) ⟨⟨fM6_refl _, fun _ _ => rfl⟩, rfl⟩
    · obtain ⟨⟨st1, a⟩, e, ⟨f1, g1⟩, ha⟩ := L
      have ha : a = _ := ha
      have f1 : fM6 st st1 := f1
      have e86 : m_up st1 86 2 (st 86 2) 86 = st 86 := by
        funext i
        rw [up_app]
        by_cases q : i = 2
        · rw [if_pos q, q]
        · rw [if_neg q]; exact g1 i q
      refine ⟨m_up st1 86 2 (st 86 2), ?_, fM6_end (fM6_up f1 _ _) e86⟩
      refine Eq.trans e ?_
      have w := bd_eq (fun d => bth (sd (st 86) d) fm x3 k) 7 0 (-3, 0) (-1, 0) (by omega) (fun i _ i2 ch z => (bth_db (VN_sd hV (by omega)) (NB_sd hB i) (by rw [tn_sd]; exact hf) h.2.1 (by rw [tn_sd]; exact hk) (c := ch.1) (h := ch.2) z).2) (Or.inl ⟨rfl, rfl⟩)
      simp only
      rw [eX12_bestDay_29, if_neg (by decide), eX12_bestDay_97, ← w, ← ha]
      by_cases q : a.1 < 0
      · rw [if_pos q, if_pos q, eX12_bestDay_117]
      · rw [if_neg q, if_neg q, eX12_bestDay_115, eX12_bestDay_117]
    · rintro j ⟨a, w⟩ hj ⟨⟨f, g⟩, hw⟩
      have hw : w = _ := hw
      have f : fM6 st a := f
      have g : ∀ i, i ≠ 2 → a 86 i = st 86 i := g
      have es := sd_up g j
      obtain ⟨st2, e2, f2, r2⟩ := s_both d (st := m_up a 86 2 (Int32.ofNat j)) (by rw [es]; exact VN_sd hV hj) (t := x3) (fm := fm) (by rw [es, tn_sd]; exact hf)
      rw [es, tn_sd] at r2
      have r2 : rp (-1) (st2 90) (st2 91) (bth (sd (st 86) j) fm x3) (tn (st 86)) := r2
      have hb : fb (bth (sd (st 86) j) fm x3) (tn (st 86)) := by
        have := fb_bth (VN_sd hV hj) (fm := fm) (by rw [tn_sd]; exact hf) h.2.1
        rw [tn_sd] at this; exact this
      have q := rp_neg r2 hb hk
      have hlt : Int32.ofNat j < 7 := by rw [show (7 : Int32) = Int32.ofNat 7 from rfl, n_lt (by omega) (by omega)]; exact hj
      refine ⟨(st2, bdM (fun d => bth (sd (st 86) d) fm x3 k) j w), ?_, ⟨fM6_tr (fM6_up f _ _) f2, fun i hi => ?_⟩, ?_⟩
      · simp only
        rw [eX12_bestDay_29, if_pos hlt, e2]
        simp only [m_bd, Option.toList, List.cons_append, List.nil_append]
        rw [eX12_bestDay_50, ix_9 (show k < 9 by omega)]
        simp only [m_ob]
        unfold bdM
        simp only
        cases e : bth (sd (st 86) j) fm x3 k with
        | none => rw [if_pos (q.mpr e), eX12_bestDay_91, n_succ]
        | some ch =>
          obtain ⟨c, g⟩ := ch
          rw [if_neg (fun z => by rw [q.mp z] at e; cases e)]
          have yes : m_ev none (d + 7) 207 77 [some (.ref 85), some (.int (Int32.ofNat k)), some (.int (Int32.ofNat fm)), some (.int x3), some (.int (st 86 2)), some (.int w.1), some (.int w.2), some (.int (Int32.ofNat j))] [] (SH, st2) = m_ev none (d + 7) 207 29 [some (.ref 85), some (.int (Int32.ofNat k)), some (.int (Int32.ofNat fm)), some (.int x3), some (.int (st 86 2)), some (.int (Int32.ofNat j)), some (.int (ab1 (g - c))), some (.int (Int32.ofNat (j + 1)))] [] (SH, st2) := by
            rw [eX12_bestDay_77, m_off _ st2 r2 hk h9 e]
            simp only [m_bd, Option.toList, List.cons_append, List.nil_append]
            rw [eX12_bestDay_86, m_size]
            simp only [m_bd, Option.toList, List.cons_append, List.nil_append]
            rw [eX12_bestDay_89, eX12_bestDay_91, n_succ]
          by_cases q1 : w.1 < 0
          · rw [if_pos q1, yes]
            simp only [if_pos (show w.1 < 0 ∨ ab1 (g - c) < w.2 from Or.inl q1)]
          · rw [if_neg q1, m_off _ st2 r2 hk h9 e]
            simp only [m_bd, Option.toList, List.cons_append, List.nil_append]
            rw [eX12_bestDay_69, m_size]
            simp only [m_bd, Option.toList, List.cons_append, List.nil_append]
            rw [eX12_bestDay_72]
            by_cases q2 : ab1 (g - c) < w.2
            · rw [if_pos q2, yes]
              simp only [if_pos (show w.1 < 0 ∨ ab1 (g - c) < w.2 from Or.inr q2)]
            · rw [if_neg q2, eX12_bestDay_91, n_succ]
              simp only [if_neg (show ¬ (w.1 < 0 ∨ ab1 (g - c) < w.2) from fun z => z.elim q1 q2)]
      · show st2 86 i = st 86 i
        rw [f2.1 86 rfl, es, sd_ne hi]
      · rw [lp_last, Nat.zero_add, ← hw]
  · rw [if_neg h, if_neg (fun z => h ⟨z.1.1, z.1.2, z.2⟩)]
    exact ⟨st, rfl, scr_refl st⟩
/-! mender -/
def mnF (s : Nat → Int32) (fm : Nat) (t : Int32) (k : Nat) (a : Int32 × Int32) : Int32 × Int32 := if ¬ lp (cntF (bth (chg s (12 + 6 * k) 4) fm t)) (tn s) 0 0 < lp (cntF (bth s fm t)) (tn s) 0 0 ∧ lp (sumF (bth (chg s (12 + 6 * k) 4) fm t)) (tn s) 0 0 < a.2 then (Int32.ofNat k, lp (sumF (bth (chg s (12 + 6 * k) 4) fm t)) (tn s) 0 0) else a
theorem mn_eq (s : Nat → Int32) (fm : Nat) (t : Int32) : ∀ (m j : Nat) (a b : Int32 × Int32), j + m < 1000 → a.2 = b.2 → ((a.1 = -3 ∧ b.1 = -1) ∨ (a.1 = b.1 ∧ 0 ≤ b.1.toInt)) → (if (lp (mnF s fm t) m j b).1 < 0 then (-3 : Int32) else (lp (mnF s fm t) m j b).1) = (lp (mnF s fm t) m j a).1
  | 0, j, a, b, hj, h2, h => by
    show (if b.1 < 0 then (-3 : Int32) else b.1) = a.1
    rcases h with ⟨h1, h2⟩ | ⟨h1, h2⟩
    · rw [h1, h2, if_pos n_neg1]
    · rw [if_neg (by rw [i_lt, t_0]; omega), h1]
  | m + 1, j, a, b, hj, h2, h => by
    have hn : 0 ≤ (Int32.ofNat j).toInt := by rw [n_int (by omega)]; omega
    show (if (lp (mnF s fm t) m (j + 1) (mnF s fm t j b)).1 < 0 then (-3 : Int32) else (lp (mnF s fm t) m (j + 1) (mnF s fm t j b)).1) = (lp (mnF s fm t) m (j + 1) (mnF s fm t j a)).1
    by_cases q : ¬ lp (cntF (bth (chg s (12 + 6 * j) 4) fm t)) (tn s) 0 0 < lp (cntF (bth s fm t)) (tn s) 0 0 ∧ lp (sumF (bth (chg s (12 + 6 * j) 4) fm t)) (tn s) 0 0 < b.2
    · have ea : mnF s fm t j a = (Int32.ofNat j, lp (sumF (bth (chg s (12 + 6 * j) 4) fm t)) (tn s) 0 0) := by unfold mnF; rw [h2, if_pos q]
      have eb : mnF s fm t j b = (Int32.ofNat j, lp (sumF (bth (chg s (12 + 6 * j) 4) fm t)) (tn s) 0 0) := by unfold mnF; rw [if_pos q]
      rw [ea, eb]
      exact mn_eq s fm t m (j + 1) _ _ (by omega) rfl (Or.inr ⟨rfl, hn⟩)
    · have ea : mnF s fm t j a = a := by unfold mnF; rw [h2, if_neg q]
      have eb : mnF s fm t j b = b := by unfold mnF; rw [if_neg q]
      rw [ea, eb]
      exact mn_eq s fm t m (j + 1) _ _ (by omega) h2 h
def a_mender (x1 x2 : Int32) (s : Nat → Int32) : Int32 := if gT s x1 ∧ TG x2 then (lp (mnF s x1.toNatClampNeg x2) (tn s) 0 (-3, lp (sumF (bth s x1.toNatClampNeg x2)) (tn s) 0 0)).1 else -1
theorem t_4 : 1 ≤ (4 : Int32).toInt ∧ (4 : Int32).toInt ≤ 5 := by decide
theorem x_mender (d : Nat) {st : zS} (hR : Rel st) (x1 x2 : Int32) : RT (m_evc (d + 8) 108 [.ref 0, .int x1, .int x2] (SH, st)) (some (.int (a_mender x1 x2 (st 86)))) (scr st) := by
  obtain ⟨hN, hV, h7, e0⟩ := Rel_x hR
  have h9 := hV.1.2
  unfold a_mender
  rw [cal_X11_mender, eX11_mender_0, s_isCry _ st e0 hV.1]
  simp only [m_bd, Option.toList, List.cons_append, List.nil_append]
  rw [eX11_mender_6, bZ_if]
  by_cases h1 : gT (st 86) x1 ∧ TG x2
  · rw [if_pos h1, if_pos h1]
    obtain ⟨fm, hf, rfl⟩ := gT_e h1.1
    obtain ⟨st0, e1, f0, D0, r0⟩ := s_cryB d st hN hV h7 h1.2 hf
    have hb := fb_bth hV hf h1.2
    have en : st0 1 0 = Int32.ofNat (tn (st 86)) := by rw [f0 1 rfl, e0]; exact hV.1.1
    rw [eX11_mender_11, e1]
    simp only [m_bd, Option.toList, List.cons_append, List.nil_append]
    rw [eX11_mender_17, ya_cnt _ st0 en h9 r0 hb]
    simp only [m_bd, Option.toList, List.cons_append, List.nil_append]
    rw [eX11_mender_24, ya_sum _ st0 en h9 r0 hb]
    simp only [m_bd, Option.toList, List.cons_append, List.nil_append]
    rw [eX11_mender_32, n_nat (show fm < 2147483648 by omega)]
    have L := lp_inv (fun j (a : zS × ((Int32 × Int32) × Option Value)) => m_ev none (d + 7) 108 41 [some (.ref 0), some (.int (Int32.ofNat fm)), some (.int x2), some (.int (lp (cntF (bth (st 86) fm x2)) (tn (st 86)) 0 0)), some (.int a.2.1.2), some (.int a.2.1.1), some (.int (Int32.ofNat j)), a.2.2] [] (SH, a.1)) (fun j a => fr [17, 44, 45, 46, 47, 48] st a.1 ∧ a.2.1 = lp (mnF (st 86) fm x2) j 0 (-3, lp (sumF (bth (st 86) fm x2)) (tn (st 86)) 0 0)) (tn (st 86)) ?_ (tn (st 86)) 0 (st0, ((-3, lp (sumF (bth (st 86) fm x2)) (tn (st 86)) 0 0), none)) (by omega) ⟨f0, rfl⟩
    · obtain ⟨⟨st1, a, x7⟩, e, f1, ha⟩ := L
      have ha : a = _ := ha
      have f1 : fr [17, 44, 45, 46, 47, 48] st st1 := f1
      refine ⟨st1, ?_, scr_fr f1 rfl⟩
      refine Eq.trans e ?_
      simp only
      rw [eX11_mender_41, if_neg (by rw [f1 1 rfl, e0, hV.1.1, n_lt (by omega) (by omega)]; omega), eX11_mender_136, ha]
    · rintro j ⟨a, w, x7⟩ hj ⟨f, hw⟩
      have hw : w = _ := hw
      have f : fr [17, 44, 45, 46, 47, 48] st a := f
      have hNa := CN_fr hN f rfl
      have hVj := VN_kind hV j t_4 (show j < 9 by omega)
      have ht : tn (chg (st 86) (12 + 6 * j) 4) = tn (st 86) := tn_chg (by omega) 4
      obtain ⟨st1, e2, f1, D1, r1⟩ := s_cryB d (m_up a 2 j 4) (CN_kind hNa hV (show j < 9 by omega) t_4) hVj (by rw [up_ne (by decide), f 1 rfl, chg_ne (by omega)]; exact h7) h1.2 (fm := fm) (by rw [ht]; exact hf)
      rw [ht] at r1
      have r1 : rp (-9) (st1 47) (st1 48) (bth (chg (st 86) (12 + 6 * j) 4) fm x2) (tn (st 86)) := r1
      have hb1 : fb (bth (chg (st 86) (12 + 6 * j) 4) fm x2) (tn (st 86)) := by
        have := fb_bth hVj (fm := fm) (by rw [ht]; exact hf) h1.2
        rw [ht] at this; exact this
      have row2 : m_up st1 2 j (a 2 j) 2 = a 2 := by
        funext i
        rw [up_app, f1 2 rfl, up_app]
        by_cases q : i = j
        · rw [if_pos q, q]
        · rw [if_neg q, if_neg q]
      have fb2 : fr [17, 44, 45, 46, 47, 48] a (m_up st1 2 j (a 2 j)) := fr_drop (i := 2) (fr_up (fr_mono (fr_tr (fr_up0 a 2 j 4) f1) (by decide)) rfl) row2
      have enb : m_up st1 2 j (a 2 j) 1 0 = Int32.ofNat (tn (st 86)) := by rw [fb2 1 rfl, f 1 rfl, e0]; exact hV.1.1
      have rb : rp (-9) (m_up st1 2 j (a 2 j) 47) (m_up st1 2 j (a 2 j) 48) (bth (chg (st 86) (12 + 6 * j) 4) fm x2) (tn (st 86)) := by
        rw [up_ne (by decide), up_ne (by decide)]; exact r1
      refine ⟨(m_up st1 2 j (a 2 j), mnF (st 86) fm x2 j w, some (.int (a 2 j))), ?_, fr_mono (fr_tr f fb2) (by decide), ?_⟩
      · simp only
        rw [eX11_mender_41, if_pos (by rw [f 1 rfl, e0, hV.1.1, n_lt (by omega) (by omega)]; exact hj), ix_9 (show j < 9 by omega)]
        simp only [m_ob]
        rw [e2]
        simp only [m_bd, Option.toList, List.cons_append, List.nil_append]
        rw [eX11_mender_82, ix_9 (show j < 9 by omega)]
        simp only [m_ob]
        rw [ya_cnt _ _ enb h9 rb hb1]
        simp only [m_bd, Option.toList, List.cons_append, List.nil_append]
        rw [eX11_mender_101]
        unfold mnF
        by_cases q1 : lp (cntF (bth (chg (st 86) (12 + 6 * j) 4) fm x2)) (tn (st 86)) 0 0 < lp (cntF (bth (st 86) fm x2)) (tn (st 86)) 0 0
        · rw [if_pos q1, if_neg (fun z => z.1 q1), eX11_mender_130, n_succ]
        · rw [if_neg q1, ya_sum _ _ enb h9 rb hb1]
          simp only [m_bd, Option.toList, List.cons_append, List.nil_append]
          rw [eX11_mender_112]
          by_cases q2 : lp (sumF (bth (chg (st 86) (12 + 6 * j) 4) fm x2)) (tn (st 86)) 0 0 < w.2
          · rw [if_pos q2, if_pos ⟨q1, q2⟩, ya_sum _ _ enb h9 rb hb1]
            simp only [m_bd, Option.toList, List.cons_append, List.nil_append]
            rw [eX11_mender_128, eX11_mender_130, n_succ]
          · rw [if_neg q2, if_neg (fun z => q2 z.2), eX11_mender_130, n_succ]
      · rw [lp_last, Nat.zero_add, ← hw]
  · rw [if_neg h1, if_neg h1]
    exact ⟨st, rfl, scr_refl st⟩
theorem mc_mender (d : Nat) {st : zS} (hR : Rel st) (x1 x2 : Int32) : RT (m_evc (d + 8) 206 [.ref 85, .int x1, .int x2] (SH, st)) (some (.int (a_mender x1 x2 (st 86)))) (scr st) := by
  obtain ⟨hN, hV, h7, e0⟩ := Rel_x hR
  have h9 := hV.1.2
  unfold a_mender
  rw [cal_X12_mender, eX12_mender_0, s_isTM0 _ st hV]
  simp only [m_bd, Option.toList, List.cons_append, List.nil_append]
  rw [eX12_mender_5, bZ_if]
  by_cases h1 : gT (st 86) x1
  · rw [if_pos h1, s_isTM]
    simp only [m_bd, Option.toList, List.cons_append, List.nil_append]
    rw [eX12_mender_12, bZ_if]
    by_cases h2 : TG x2
    · rw [if_pos h2, if_pos ⟨h1, h2⟩]
      obtain ⟨fm, hf, rfl⟩ := gT_e h1
      obtain ⟨st0, e1, f0, r0⟩ := s_both d (st := st) hV (t := x2) hf
      have hb := fb_bth hV hf h2
      have e86 : st0 86 = st 86 := f0.1 86 rfl
      rw [eX12_mender_17, e1]
      simp only [m_bd, Option.toList, List.cons_append, List.nil_append]
      rw [eX12_mender_23, m_cnt _ st0 (by rw [e86]; exact hV.1.1) h9 r0 hb]
      simp only [m_bd, Option.toList, List.cons_append, List.nil_append]
      rw [eX12_mender_27, m_sum _ st0 (by rw [e86]; exact hV.1.1) h9 r0 hb]
      simp only [m_bd, Option.toList, List.cons_append, List.nil_append]
      rw [eX12_mender_32, n_nat (show fm < 2147483648 by omega)]
      have L := lp_inv (fun j (a : zS × ((Int32 × Int32) × Option Value)) => m_ev none (d + 7) 206 40 [some (.ref 85), some (.int (Int32.ofNat fm)), some (.int x2), some (.int (lp (cntF (bth (st 86) fm x2)) (tn (st 86)) 0 0)), some (.int a.2.1.2), some (.int a.2.1.1), some (.int (Int32.ofNat j)), a.2.2] [] (SH, a.1)) (fun j a => (fM6 st a.1 ∧ a.1 86 = st 86) ∧ a.2.1 = lp (mnF (st 86) fm x2) j 0 (-1, lp (sumF (bth (st 86) fm x2)) (tn (st 86)) 0 0)) (tn (st 86)) ?_ (tn (st 86)) 0 (st0, ((-1, lp (sumF (bth (st 86) fm x2)) (tn (st 86)) 0 0), none)) (by omega) ⟨⟨fM6_tr (fM6_refl st) f0, e86⟩, rfl⟩
      · obtain ⟨⟨st1, a, x7⟩, e, ⟨f1, g1⟩, ha⟩ := L
        have ha : a = _ := ha
        have g1 : st1 86 = st 86 := g1
        refine ⟨st1, ?_, fM6_end f1 g1⟩
        refine Eq.trans e ?_
        simp only
        have w := mn_eq (st 86) fm x2 (tn (st 86)) 0 (-3, lp (sumF (bth (st 86) fm x2)) (tn (st 86)) 0 0) (-1, lp (sumF (bth (st 86) fm x2)) (tn (st 86)) 0 0) (by omega) rfl (Or.inl ⟨rfl, rfl⟩)
        rw [eX12_mender_40, if_neg (by rw [g1, hV.1.1, n_lt (by omega) (by omega)]; omega), eX12_mender_124, ← w, ← ha]
        by_cases q : a.1 < 0
        · rw [if_pos q, if_pos q, eX12_mender_136]
        · rw [if_neg q, if_neg q, eX12_mender_134, eX12_mender_136]
      · rintro j ⟨a, w, x7⟩ hj ⟨⟨f, g⟩, hw⟩
        have hw : w = _ := hw
        have f : fM6 st a := f
        have g : a 86 = st 86 := g
        have hVj := VN_kind hV j t_4 (show j < 9 by omega)
        have ht : tn (chg (st 86) (12 + 6 * j) 4) = tn (st 86) := tn_chg (by omega) 4
        have es : m_up a 86 (12 + 6 * j) 4 86 = chg (st 86) (12 + 6 * j) 4 := by rw [chg_up, g]
        obtain ⟨st1, e2, f1, r1⟩ := s_both d (st := m_up a 86 (12 + 6 * j) 4) (by rw [es]; exact hVj) (t := x2) (fm := fm) (by rw [es, ht]; exact hf)
        rw [es, ht] at r1
        have r1 : rp (-1) (st1 90) (st1 91) (bth (chg (st 86) (12 + 6 * j) 4) fm x2) (tn (st 86)) := r1
        have hb1 : fb (bth (chg (st 86) (12 + 6 * j) 4) fm x2) (tn (st 86)) := by
          have := fb_bth hVj (fm := fm) (by rw [ht]; exact hf) h2
          rw [ht] at this; exact this
        have e186 : st1 86 = chg (st 86) (12 + 6 * j) 4 := by rw [f1.1 86 rfl, es]
        have eb : m_up st1 86 (12 + 6 * j) (st 86 (12 + 6 * j)) 86 = st 86 := by rw [chg_up, e186, chg_back rfl]
        have enb : m_up st1 86 (12 + 6 * j) (st 86 (12 + 6 * j)) 86 0 = Int32.ofNat (tn (st 86)) := by rw [eb]; exact hV.1.1
        have rb : rp (-1) (m_up st1 86 (12 + 6 * j) (st 86 (12 + 6 * j)) 90) (m_up st1 86 (12 + 6 * j) (st 86 (12 + 6 * j)) 91) (bth (chg (st 86) (12 + 6 * j) 4) fm x2) (tn (st 86)) := by
          rw [up_ne (by decide), up_ne (by decide)]; exact r1
        refine ⟨(m_up st1 86 (12 + 6 * j) (st 86 (12 + 6 * j)), mnF (st 86) fm x2 j w, some (.int (st 86 (12 + 6 * j)))), ?_, ⟨fM6_up (fM6_tr (fM6_up f _ _) f1) _ _, eb⟩, ?_⟩
        · simp only
          rw [eX12_mender_40, if_pos (by rw [g, hV.1.1, n_lt (by omega) (by omega)]; exact hj), s_its0 _ _ (show j < 9 by omega), g]
          simp only [m_bd, Option.toList, List.cons_append, List.nil_append]
          rw [eX12_mender_58, cal_X12_at, eX12_at_0]
          simp only [m_bd, Option.toList, List.cons_append, List.nil_append]
          rw [eX12_mender_70, ix_T0 (show j < 9 by omega)]
          simp only [m_ob]
          rw [e2]
          simp only [m_bd, Option.toList, List.cons_append, List.nil_append]
          rw [eX12_mender_78, cal_X12_at, eX12_at_0]
          simp only [m_bd, Option.toList, List.cons_append, List.nil_append]
          rw [eX12_mender_88, ix_T0 (show j < 9 by omega)]
          simp only [m_ob]
          rw [m_cnt _ _ enb h9 rb hb1]
          simp only [m_bd, Option.toList, List.cons_append, List.nil_append]
          rw [eX12_mender_95]
          unfold mnF
          by_cases q1 : lp (cntF (bth (chg (st 86) (12 + 6 * j) 4) fm x2)) (tn (st 86)) 0 0 < lp (cntF (bth (st 86) fm x2)) (tn (st 86)) 0 0
          · rw [if_pos q1, if_neg (fun z => z.1 q1), eX12_mender_118, n_succ]
          · rw [if_neg q1, m_sum _ _ enb h9 rb hb1]
            simp only [m_bd, Option.toList, List.cons_append, List.nil_append]
            rw [eX12_mender_103]
            by_cases q2 : lp (sumF (bth (chg (st 86) (12 + 6 * j) 4) fm x2)) (tn (st 86)) 0 0 < w.2
            · rw [if_pos q2, if_pos ⟨q1, q2⟩, m_sum _ _ enb h9 rb hb1]
              simp only [m_bd, Option.toList, List.cons_append, List.nil_append]
              rw [eX12_mender_116, eX12_mender_118, n_succ]
            · rw [if_neg q2, if_neg (fun z => q2 z.2), eX12_mender_118, n_succ]
        · rw [lp_last, Nat.zero_add, ← hw]
    · rw [if_neg h2, if_neg (fun z => h2 z.2), eX12_mender_15]
      exact ⟨st, rfl, scr_refl st⟩
  · rw [if_neg h1, if_neg (fun z => h1 z.1), eX12_mender_15]
    exact ⟨st, rfl, scr_refl st⟩
