/-! A CRY IN THE MODEL: to the east, both ways, from the first -/
theorem est_st {s : Nat → Int32} {fm k : Nat} {t : Int32} (hk : k + 1 ≤ fm) : est s fm t (fm - k) = nxt (est s fm t (fm - (k + 1))) (fun c h => if sil s (k + 1) = true ∧ isb fm (k + 1) = false then none else arr s k ((c + (if isb fm (k + 1) = true then 0 else s (14 + 6 * (k + 1)))) + s (15 + 6 * (k + 1)) * pe s) h) := by
  rw [show fm - k = (fm - (k + 1)) + 1 by omega]
  conv => lhs; unfold est
  rw [show fm - (fm - (k + 1)) = k + 1 by omega, show k + 1 - 1 = k by omega]
  have i1 : (isb fm (k + 1) = true) = (fm - (k + 1) = 0) := by unfold isb; simp; omega
  have i2 : (isb fm (k + 1) = false) = (fm - (k + 1) ≠ 0) := by unfold isb; simp; omega
  simp only [i1, i2]
  cases est s fm t (fm - (k + 1)) <;> rfl
theorem est_dn {s : Nat → Int32} {fm : Nat} {t : Int32} {j : Nat} (h : est s fm t j = none) : ∀ i, j ≤ i → est s fm t i = none
  | 0, hi => by
    have : j = 0 := by omega
    subst this; exact h
  | i + 1, hi => by
    by_cases e : j = i + 1
    · subst e; exact h
    · have := est_dn h i (by omega)
      unfold est
      rw [this]
theorem nat_m1 : ∀ k : Fin 9, ¬ Int32.ofNat k.val = -1 := by decide
def goJ (st : zS) (s : Nat → Int32) (t : Int32) (fm k : Nat) (a : zS) : Prop := fM st a ∧ (∀ i, fm < i → a 90 i = st 90 i ∧ a 91 i = st 91 i) ∧ (∀ i, k ≤ i → i ≤ fm → rep1 (-1) (a 90) (a 91) (est s fm t (fm - i)) i) ∧ ∀ i, i < k → a 90 i = -1
theorem goJ_end {st : zS} {s : Nat → Int32} {t : Int32} {fm k : Nat} {a : zS} (h : goJ st s t fm (k + 1) a) (hk : k + 1 ≤ fm) (hn : est s fm t (fm - k) = none) : goJ st s t fm 0 a := by
  obtain ⟨h1, h2, h3, h4⟩ := h
  refine ⟨h1, h2, fun i i1 i2 => ?_, fun i i1 => by omega⟩
  by_cases q1 : k + 1 ≤ i
  · exact h3 i q1 i2
  · rw [est_dn hn (fm - i) (by omega)]
    exact h4 i (by omega)
theorem goE_run (d : Nat) {st : zS} (hV : VN (st 86)) {t : Int32} {fm : Nat} (hf : fm < tn (st 86)) :
    ∀ (k : Nat) (a : zS) (c h lv : Int32) (x9 x10 : Option Value), k ≤ fm → goJ st (st 86) t fm k a → est (st 86) fm t (fm - k) = some (c, h) → lv = c + (if isb fm k = true then 0 else st 86 (14 + 6 * k)) → ¬ (sil (st 86) k = true ∧ isb fm k = false) →
    RT (m_ev none (d + 5) 179 23 [some (.ref 85), some (.int (Int32.ofNat fm)), some (.int t), some (.int 0), some (.int 0), some (.int (-1)), some (.int (Int32.ofNat k)), some (.int lv), some (.int 1), x9, x10] [] (SH, a)) none (goJ st (st 86) t fm 0)
  | 0, a, c, h, lv, x9, x10, hk, hI, hw, hlv, hs => by
    have h9 := hV.1.2
    refine ⟨a, ?_, hI⟩
    have e0 : a 86 0 = Int32.ofNat (tn (st 86)) := by rw [hI.1.1 86 rfl]; exact hV.1.1
    rw [eX12_goes_23, if_neg i_10, if_neg (by decide), if_pos rfl, eX12_goes_46, eX12_goes_50, s_isTowM _ a e0 h9]
    simp only [m_bd, Option.toList, List.cons_append, List.nil_append]
    rw [eX12_goes_58, bZ_if, if_neg, eX12_goes_75, eX12_goes_76, if_pos rfl, eX12_goes_205, goes_off]
    intro z
    have : (Int32.ofNat 0 - 1).toInt = -1 := by decide
    omega
  | k + 1, a, c, h, lv, x9, x10, hk, hI, hw, hlv, hs => by
    have h9 := hV.1.2
    have e86 : a 86 = st 86 := hI.1.1 86 rfl
    have hR : RG (a 86) := by rw [e86]; exact hV.2.2.2.2
    have hd : DG (a 86) := by rw [e86]; exact hV.2.2.2.1
    have hmu : ¬ Int32.ofNat (k + 1) = -1 := nat_m1 ⟨k + 1, by omega⟩
    have hstep : est (st 86) fm t (fm - k) = arr (st 86) k (lv + st 86 (15 + 6 * (k + 1)) * pe (st 86)) h := by
      rw [est_st hk, hw]
      show (if _ then _ else _) = _
      rw [if_neg hs, hlv]
    obtain ⟨a1, lv1, on1, y10, f1, t1, t2⟩ := goes_tail d a (Int32.ofNat fm) t 0 0 (-1) lv (pe (st 86)) (k := k + 1) (kk := k + 1) (nx := k) (by omega) (by omega) (by omega) hR hd x10
    have e0 : a 86 0 = Int32.ofNat (tn (st 86)) := by rw [e86]; exact hV.1.1
    have hz : (0 : Int) ≤ (k : Int) ∧ (k : Int) < (tn (st 86) : Int) := by omega
    have start : m_ev none (d + 5) 179 23 [some (.ref 85), some (.int (Int32.ofNat fm)), some (.int t), some (.int 0), some (.int 0), some (.int (-1)), some (.int (Int32.ofNat (k + 1))), some (.int lv), some (.int 1), x9, x10] [] (SH, a) = m_ev none (d + 5) 179 102 [some (.ref 85), some (.int (Int32.ofNat fm)), some (.int t), some (.int 0), some (.int 0), some (.int (-1)), some (.int (Int32.ofNat (k + 1))), some (.int lv), some (.int 1), some (.int (Int32.ofNat k)), x10] [.int (Int32.ofNat (k + 1)), .ref 85, .int (pe (st 86)), .int lv] (SH, a) := by
      rw [eX12_goes_23, if_neg i_10, if_neg hmu, if_pos rfl, eX12_goes_46, eX12_goes_50, n_pred, s_isTowM _ a e0 h9]
      simp only [m_bd, Option.toList, List.cons_append, List.nil_append]
      rw [eX12_goes_58, bZ_if, n_int (by omega), if_pos hz, s_has, btm_0 ⟨k, by omega⟩]
      simp only [m_bd, Option.toList, List.cons_append, List.nil_append]
      rw [eX12_goes_68, bZ_if, if_neg (by decide), eX12_goes_76, if_neg i_10, s_paceE _ a hd, e86]
      simp only [m_bd, Option.toList, List.cons_append, List.nil_append]
      rw [eX12_goes_90, if_pos rfl, eX12_goes_100]
    have hcomm : lv + pe (st 86) * a 86 (15 + 6 * (k + 1)) = lv + st 86 (15 + 6 * (k + 1)) * pe (st 86) := by rw [e86, Int32.mul_comm]
    rw [hcomm, e86] at t1 t2
    by_cases z : st 86 (12 + 6 * k) = 5 ∧ lv + st 86 (15 + 6 * (k + 1)) * pe (st 86) < 360
    · rw [if_pos z] at t1 t2
      have hnone : est (st 86) fm t (fm - k) = none := by rw [hstep]; unfold arr; rw [if_pos z]
      refine ⟨a1, start.trans t1, goJ_end ⟨fM_tr hI.1 f1, ?_, ?_, ?_⟩ hk hnone⟩
      · rw [t2.1, t2.2]; exact hI.2.1
      · rw [t2.1, t2.2]; exact hI.2.2.1
      · rw [t2.1]; exact hI.2.2.2
    · rw [if_neg z] at t1 t2
      obtain ⟨u1, u2, u3, u4, u5⟩ := t2
      have hh : a 91 (k + 1) = h := by
        have := hI.2.2.1 (k + 1) (Nat.le_refl _) hk
        rw [hw] at this; exact this.2
      have hsome : est (st 86) fm t (fm - k) = some (lv + st 86 (15 + 6 * (k + 1)) * pe (st 86), h + ads (st 86) k) := by rw [hstep]; unfold arr; rw [if_neg z]
      have hI1 : goJ st (st 86) t fm k a1 := by
        refine ⟨fM_tr hI.1 f1, ?_, ?_, ?_⟩
        · intro i hi
          rw [(u1 i (by omega)).1, (u1 i (by omega)).2]; exact hI.2.1 i hi
        · intro i i1 i2
          by_cases w : i = k
          · subst w
            rw [hsome]
            exact ⟨u2, by rw [u3, hh]⟩
          · have := hI.2.2.1 i (by omega) i2
            unfold rep1 at this ⊢
            rw [(u1 i w).1, (u1 i w).2]; exact this
        · intro i i1
          rw [(u1 i (by omega)).1]; exact hI.2.2.2 i (by omega)
      have hbk : isb fm k = false := by unfold isb; simp; omega
      cases hsl : sil (st 86) k with
      | true =>
        cases k with
        | zero =>
          refine ⟨a1, ?_, hI1⟩
          rw [start, t1, u5, hsl]
          exact goes_off _ _ _ _ _ _ _ _ _ _ _
        | succ k =>
          refine ⟨a1, ?_, goJ_end hI1 (by omega) ?_⟩
          · rw [start, t1, u5, hsl]
            exact goes_off _ _ _ _ _ _ _ _ _ _ _
          · rw [est_st (show k + 1 ≤ fm by omega), hsome]
            show (if _ then _ else _) = _
            rw [if_pos ⟨hsl, hbk⟩]
      | false =>
        have r := goE_run d hV hf k a1 _ _ lv1 (some (.int (Int32.ofNat k))) (some (.int y10)) (by omega) hI1 hsome (by rw [u4, if_neg (by rw [hbk]; decide)]) (by rw [hsl]; simp)
        obtain ⟨a2, e2, g2⟩ := r
        refine ⟨a2, ?_, g2⟩
        rw [start, t1, u5, hsl]
        exact e2
theorem s_goE (d : Nat) {st : zS} (hV : VN (st 86)) {t : Int32} {fm : Nat} (hf : fm < tn (st 86)) (h0 : ∀ i, i < fm → st 90 i = -1) :
    RT (m_evc (d + 6) 179 [.ref 85, .int (Int32.ofNat fm), .int t, .int 0, .int 0, .int (-1)] (SH, st)) none (fun a => fM st a ∧ (∀ i, fm < i → a 90 i = st 90 i ∧ a 91 i = st 91 i) ∧ ∀ i, i ≤ fm → rep1 (-1) (a 90) (a 91) (est (st 86) fm t (fm - i)) i) := by
  have h9 := hV.1.2
  have e86 : (m_up (m_up st 90 fm t) 91 fm t) 86 = st 86 := by rw [up_ne (by decide), up_ne (by decide)]
  have hI : goJ (m_up (m_up st 90 fm t) 91 fm t) (st 86) t fm fm (m_up (m_up st 90 fm t) 91 fm t) := by
    refine ⟨fM_refl _, fun i _ => ⟨rfl, rfl⟩, fun i i1 i2 => ?_, fun i i1 => ?_⟩
    · have : i = fm := by omega
      subst this
      rw [Nat.sub_self]
      show _ ∧ _
      rw [up_ne (by decide), up_in, up_in]; exact ⟨rfl, rfl⟩
    · rw [up_ne (by decide), up_nj (by omega)]; exact h0 i i1
  have hbf : isb fm fm = true := by unfold isb; simp
  have r := goE_run d (st := m_up (m_up st 90 fm t) 91 fm t) (t := t) (fm := fm) (by rw [e86]; exact hV) (by rw [e86]; exact hf) fm (m_up (m_up st 90 fm t) 91 fm t) t t t none none (Nat.le_refl _) (by rw [e86]; exact hI) (by rw [Nat.sub_self]; rfl) (by rw [if_pos hbf, Int32.add_zero]) (by rw [hbf]; simp)
  rw [e86] at r
  obtain ⟨a, e1, g⟩ := r
  refine ⟨a, ?_, ?_⟩
  · rw [cal_X12_goes, eX12_goes_0, ix_9 (show fm < 9 by omega)]
    simp only [m_ob]
    exact e1
  · obtain ⟨g1, g2, g3, g4⟩ := g
    refine ⟨fM_tr (fM_up (fM_up (fM_refl _) rfl _ _) rfl _ _) g1, fun i hi => ?_, fun i hi => g3 i (Nat.zero_le _) hi⟩
    rw [(g2 i hi).1, (g2 i hi).2, up_ne (by decide), up_nj (by omega), up_nj (by omega), up_ne (by decide)]
    exact ⟨rfl, rfl⟩
theorem nob_q : ∀ k, k < 9 → (Int32.ofNat k = -1 ↔ nob k = true) := fun k hk => ⟨fun h => absurd h (nat_m1 ⟨k, hk⟩), fun h => by cases h⟩
theorem isb_lt {fm k : Nat} (h : k ≠ fm) : isb fm k = false := by unfold isb; simp; exact h
theorem isb_at (fm : Nat) : isb fm fm = true := by unfold isb; simp
/-- one cry to the west -/
theorem s_goW1 (d : Nat) {st : zS} (hV : VN (st 86)) {t : Int32} {fm : Nat} (hf : fm < tn (st 86)) {mute : Int32} {q : Nat → Bool} (hq : ∀ k, k < 9 → (Int32.ofNat k = mute ↔ q k = true)) (h0 : ∀ i, i < 9 → st 90 i = -1) :
    RT (m_evc (d + 6) 179 [.ref 85, .int (Int32.ofNat fm), .int t, .int 1, .int 0, .int mute] (SH, st)) none (fun a => fM st a ∧ (∀ i, i < fm → a 90 i = -1) ∧ ∀ i, i < tn (st 86) → rep1 (-1) (a 90) (a 91) (wst (st 86) (isb fm) q t i) i) := by
  have h9 := hV.1.2
  obtain ⟨a, e, g1, g2, g3, g4⟩ := s_goW d hV (b := isb fm) (q := q) (t := t) (but := 0) (mute := mute) (fm := fm) (e := tn (st 86)) hf hf (Nat.le_refl _) (fun k hk h1 => by rw [btm_0 ⟨k, hk⟩, isb_lt (by omega)]) hq (isb_at fm) (fun i h1 h2 => isb_lt (by omega)) (fun h => by omega) (fun i h1 h2 => h0 i (by omega))
  refine ⟨a, e, g1, fun i hi => ?_, fun i hi => ?_⟩
  · rw [(g2 i (Or.inl hi)).1]; exact h0 i (by omega)
  · by_cases z : fm ≤ i
    · exact g3 i z (by omega)
    · rw [wes_lo i (by omega)]
      show a 90 i = -1
      rw [(g2 i (Or.inl (by omega))).1]; exact h0 i (by omega)
theorem s_both (d : Nat) {st : zS} (hV : VN (st 86)) {t : Int32} {fm : Nat} (hf : fm < tn (st 86)) :
    RT (m_evc (d + 7) 180 [.ref 85, .int (Int32.ofNat fm), .int t] (SH, st)) none (fun a => fM st a ∧ ∀ i, i < tn (st 86) → rep1 (-1) (a 90) (a 91) (bth (st 86) fm t i) i) := by
  have h9 := hV.1.2
  obtain ⟨a, e1, f1, g1⟩ := s_quiets (d + 5) st
  have fa : fM st a := ⟨fr_mono f1 (by decide), fun j _ _ => by rw [f1 85 rfl]⟩
  have e86 : a 86 = st 86 := f1 86 rfl
  obtain ⟨b, e2, f2, k2, r2⟩ := s_goW1 d (st := a) (by rw [e86]; exact hV) (t := t) (fm := fm) (by rw [e86]; exact hf) (mute := -1) nob_q g1
  have b86 : b 86 = st 86 := by rw [f2.1 86 rfl, e86]
  obtain ⟨c, e3, f3, k3, r3⟩ := s_goE d (st := b) (by rw [b86]; exact hV) (t := t) (fm := fm) (by rw [b86]; exact hf) k2
  rw [e86] at r2
  rw [b86] at r3
  refine ⟨c, ?_, fM_tr (fM_tr fa f2) f3, fun i hi => ?_⟩
  · rw [cal_X12_goesBoth, eX12_goesBoth_0, e1]
    simp only [m_bd, Option.toList, List.cons_append, List.nil_append]
    rw [eX12_goesBoth_4, e2]
    simp only [m_bd, Option.toList, List.cons_append, List.nil_append]
    rw [eX12_goesBoth_13, e3]
    simp only [m_bd, Option.toList, List.cons_append, List.nil_append]
    rw [eX12_goesBoth_22]
  · unfold bth
    by_cases z : fm ≤ i
    · rw [if_pos z]
      by_cases z1 : i = fm
      · subst z1
        have := r3 i (Nat.le_refl _)
        rw [Nat.sub_self] at this
        unfold wes
        rw [wst_at (isb_at i)]
        exact this
      · have := r2 i hi
        unfold rep1 wes at *
        rw [(k3 i (by omega)).1, (k3 i (by omega)).2]; exact this
    · rw [if_neg z]
      unfold eas
      rw [if_pos (by omega)]
      exact r3 i (by omega)
theorem s_first (d : Nat) {st : zS} (hV : VN (st 86)) {t : Int32} (hf : 0 < tn (st 86)) {mute : Int32} {q : Nat → Bool} (hq : ∀ k, k < 9 → (Int32.ofNat k = mute ↔ q k = true)) :
    RT (m_evc (d + 7) 200 [.ref 85, .int t, .int mute] (SH, st)) none (fun a => fM st a ∧ ∀ i, i < tn (st 86) → rep1 (-1) (a 90) (a 91) (wst (st 86) (isb 0) q t i) i) := by
  obtain ⟨a, e1, f1, g1⟩ := s_quiets (d + 5) st
  have fa : fM st a := ⟨fr_mono f1 (by decide), fun j _ _ => by rw [f1 85 rfl]⟩
  have e86 : a 86 = st 86 := f1 86 rfl
  obtain ⟨b, e2, f2, k2, r2⟩ := s_goW1 d (st := a) (by rw [e86]; exact hV) (t := t) (fm := 0) (by rw [e86]; exact hf) (mute := mute) hq g1
  rw [e86] at r2
  refine ⟨b, ?_, fM_tr fa f2, r2⟩
  rw [cal_X12_fromFirst, eX12_fromFirst_0, e1]
  simp only [m_bd, Option.toList, List.cons_append, List.nil_append]
  rw [eX12_fromFirst_4, show (0 : Int32) = Int32.ofNat 0 from rfl]
  rw [show (Int32.ofNat 0) = (0 : Int32) from rfl] at e2 ⊢
  rw [e2]
  simp only [m_bd, Option.toList, List.cons_append, List.nil_append]
  rw [eX12_fromFirst_13]
