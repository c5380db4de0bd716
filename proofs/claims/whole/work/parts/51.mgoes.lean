/-! A CRY IN THE MODEL: quiets, goes, goesBoth, fromFirst -/
theorem s_isTowM (d : Nat) (st : zS) {n : Nat} (h0 : st 86 0 = Int32.ofNat n) (hn : n ≤ 9) (x : Int32) : m_evc (d + 2) 156 [.ref 85, .int x] (SH, st) = some (some (.int (bZ (0 ≤ x.toInt ∧ x.toInt < (n : Int)))), (SH, st)) := by
  rw [cal_X12_isTower, eX12_isTower_0, s_in]
  simp only [m_bd, Option.toList, List.cons_append, List.nil_append]
  have e : ((0 : Int64) ≤ x.toInt64 ∧ x.toInt64 ≤ (st 86 0 - 1).toInt64) ↔ (0 ≤ x.toInt ∧ x.toInt < (n : Int)) := by
    have e1 : (st 86 0 - 1).toInt = (n : Int) - 1 := by
      rw [h0, Int32.toInt_sub, n_int (by omega)]
      have : (1 : Int32).toInt = 1 := rfl
      rw [this]
      apply Int.bmod_eq_of_le <;> omega
    simp only [Int64.le_iff_toInt_le, Int32.toInt_toInt64, e1]
    have h0 : (0 : Int64).toInt = 0 := rfl
    rw [h0]
    omega
  rw [eX12_isTower_15]
  by_cases h : 0 ≤ x.toInt ∧ x.toInt < (n : Int)
  · rw [if_pos (e.mpr h), if_pos (Or.inr rfl), bZ_t h]
  · rw [if_neg (fun z => h (e.mp z)), if_pos (Or.inl rfl), bZ_f h]
def btm (x : Int32) (k : Nat) : Bool := ((x >>> (Int32.ofNat k &&& 31)) &&& 1) == 1
theorem s_has (d : Nat) (st : zS) (x : Int32) (k : Nat) : m_evc (d + 1) 159 [.int x, .int (Int32.ofNat k)] (SH, st) = some (some (.int (bZ (btm x k = true))), (SH, st)) := by
  rw [cal_X12_has, eX12_has_0]
  have e : (btm x k = true) ↔ ((x >>> (Int32.ofNat k &&& 31)) &&& 1) = 1 := by unfold btm; exact beq_iff_eq
  by_cases h : ((x >>> (Int32.ofNat k &&& 31)) &&& 1) = 1
  · rw [if_pos h, eX12_has_14, if_pos (Or.inr rfl), bZ_t (e.mpr h)]
  · rw [if_neg h, eX12_has_13, eX12_has_14, if_pos (Or.inl rfl), bZ_f (fun c => h (e.mp c))]
theorem btm_0 : ∀ k : Fin 9, btm 0 k.val = false := by decide +kernel
theorem s_paceW (d : Nat) (st : zS) (hd : DG (st 86)) : m_evc (d + 1) 177 [.ref 85, .int 1] (SH, st) = some (some (.int (pw (st 86))), (SH, st)) := by
  rw [s_paceM]
  have := ix_W hd.2
  rw [← hd.1] at this
  rw [this]
  rfl
theorem s_paceE (d : Nat) (st : zS) (hd : DG (st 86)) : m_evc (d + 1) 177 [.ref 85, .int 0] (SH, st) = some (some (.int (pe (st 86))), (SH, st)) := by
  rw [s_paceM]
  have := ix_W hd.2
  rw [← hd.1] at this
  rw [this]
  rfl
theorem s_quiets (d : Nat) (st : zS) : RT (m_evc (d + 1) 178 [.ref 85] (SH, st)) none (fun st' => fr [90] st st' ∧ ∀ k, k < 9 → st' 90 k = -1) := by
  have L := lp_inv (fun j (a : zS) => m_ev none d 178 2 [some (.ref 85), some (.int (Int32.ofNat j))] [] (SH, a))
    (fun j a => fr [90] st a ∧ ∀ k, k < j → a 90 k = -1) 9 ?_ 9 0 st (by omega) ⟨fr_refl _ _, fun k hk => by omega⟩
  · obtain ⟨st2, e, f2, g2⟩ := L
    refine ⟨st2, ?_, f2, g2⟩
    rw [cal_X12_quiets, eX12_quiets_0]
    refine Eq.trans e ?_
    rw [eX12_quiets_2, if_neg (by decide), eX12_quiets_21]
  · rintro j a hj ⟨f, g⟩
    have hlt : Int32.ofNat j < 9 := by
      rw [show (9 : Int32) = Int32.ofNat 9 from rfl, n_lt (by omega) (by omega)]; exact hj
    refine ⟨m_up a 90 j (-1), ?_, fr_up f rfl, ?_⟩
    · rw [eX12_quiets_2, if_pos hlt, ix_9 hj]
      simp only [m_ob, n_succ]
    · intro k hk
      by_cases q : k = j
      · subst q; rw [up_in]
      · rw [up_nj q]; exact g k (by omega)
/-- nothing but the cry's own numbers of the model has changed -/
def fM (st st' : zS) : Prop := fr [85, 89, 90, 91] st st' ∧ ∀ j, j ≠ 5 → j ≠ 6 → st' 85 j = st 85 j
theorem fM_refl (st : zS) : fM st st := ⟨fr_refl _ _, fun _ _ _ => rfl⟩
theorem fM_tr {a b c : zS} (h : fM a b) (g : fM b c) : fM a c := ⟨fr_mono (fr_tr h.1 g.1) (by decide), fun j h5 h6 => by rw [g.2 j h5 h6, h.2 j h5 h6]⟩
theorem fM_up {a b : zS} (h : fM a b) {i : Nat} (hi : (i == 90 || i == 91) = true) (j : Nat) (v : Int32) : fM a (m_up b i j v) := by
  have h1 : [85, 89, 90, 91].elem i = true := by
    simp only [Bool.or_eq_true, beq_iff_eq] at hi
    rcases hi with q | q <;> subst q <;> rfl
  have h2 : (85 : Nat) ≠ i := by
    simp only [Bool.or_eq_true, beq_iff_eq] at hi
    omega
  exact ⟨fr_up h.1 h1, fun j h5 h6 => by rw [up_ne h2, h.2 j h5 h6]⟩
theorem fM_asks {a b : zS} (f : fr [85, 89] a b) (g : ∀ j, j ≠ 5 → j ≠ 6 → b 85 j = a 85 j) : fM a b := ⟨fr_mono f (by decide), g⟩
/-- a loop of goes that has ended -/
theorem goes_off (d : Nat) (st : zS) (x1 x2 x3 x4 x5 x6 x7 : Int32) (x9 x10 : Option Value) : m_ev none d 179 23 [some (.ref 85), some (.int x1), some (.int x2), some (.int x3), some (.int x4), some (.int x5), some (.int x6), some (.int x7), some (.int 0), x9, x10] [] (SH, st) = some (none, (SH, st)) := by
  rw [eX12_goes_23, if_pos rfl, eX12_goes_208]
theorem goes_tail (d : Nat) (st : zS) (x1 x2 x3 x4 x5 x7 p : Int32) {k kk nx : Nat} (hk : k < 9) (hkk : kk < 9) (hn : nx < 9) (hR : RG (st 86)) (hd : DG (st 86)) (x10 : Option Value) :
    ∃ st1 lv on y10, fM st st1 ∧
      m_ev none (d + 5) 179 102 [some (.ref 85), some (.int x1), some (.int x2), some (.int x3), some (.int x4), some (.int x5), some (.int (Int32.ofNat k)), some (.int x7), some (.int 1), some (.int (Int32.ofNat nx)), x10] [.int (Int32.ofNat kk), .ref 85, .int p, .int x7] (SH, st) =
      (if st 86 (12 + 6 * nx) = 5 ∧ x7 + p * st 86 (15 + 6 * kk) < 360 then some (none, (SH, st1)) else m_ev none (d + 5) 179 23 [some (.ref 85), some (.int x1), some (.int x2), some (.int x3), some (.int x4), some (.int x5), some (.int (Int32.ofNat nx)), some (.int lv), some (.int on), some (.int (Int32.ofNat nx)), some (.int y10)] [] (SH, st1)) ∧
      (if st 86 (12 + 6 * nx) = 5 ∧ x7 + p * st 86 (15 + 6 * kk) < 360 then st1 90 = st 90 ∧ st1 91 = st 91 else
        (∀ i, i ≠ nx → st1 90 i = st 90 i ∧ st1 91 i = st 91 i) ∧ st1 90 nx = x7 + p * st 86 (15 + 6 * kk) ∧ st1 91 nx = st 91 k + ads (st 86) nx ∧ lv = (x7 + p * st 86 (15 + 6 * kk)) + st 86 (14 + 6 * nx) ∧ on = bZ (sil (st 86) nx = false)) := by
  obtain ⟨a, e, f, h5, h6, hj⟩ := s_asks d st hn hR hd
  have e86 : a 86 = st 86 := f 86 rfl
  have e90 : a 90 = st 90 := f 90 rfl
  have e91 : a 91 = st 91 := f 91 rfl
  have fa := fM_asks f hj
  have start : ∀ X : Option mF, m_ev none (d + 5) 179 116 [some (.ref 85), some (.int x1), some (.int x2), some (.int x3), some (.int x4), some (.int x5), some (.int (Int32.ofNat k)), some (.int x7), some (.int 1), some (.int (Int32.ofNat nx)), some (.int (x7 + p * st 86 (15 + 6 * kk)))] [] (SH, a) = X → m_ev none (d + 5) 179 102 [some (.ref 85), some (.int x1), some (.int x2), some (.int x3), some (.int x4), some (.int x5), some (.int (Int32.ofNat k)), some (.int x7), some (.int 1), some (.int (Int32.ofNat nx)), x10] [.int (Int32.ofNat kk), .ref 85, .int p, .int x7] (SH, st) = X := by
    intro X hX
    rw [eX12_goes_102, s_its3 _ _ hkk]
    simp only [m_bd, Option.toList, List.cons_append, List.nil_append]
    rw [eX12_goes_106, e]
    simp only [m_bd, Option.toList, List.cons_append, List.nil_append]
    exact hX
  by_cases q : st 86 (12 + 6 * nx) = 5 ∧ x7 + p * st 86 (15 + 6 * kk) < 360
  · refine ⟨a, 0, 0, 0, fa, ?_, ?_⟩
    · rw [if_pos q]
      apply start
      rw [eX12_goes_116, s_its0 _ _ hn, e86]
      simp only [m_bd, Option.toList, List.cons_append, List.nil_append]
      rw [eX12_goes_123, if_pos q.1, if_pos q.2, eX12_goes_139, eX12_goes_140, if_pos rfl, eX12_goes_205, goes_off]
    · rw [if_pos q]; exact ⟨e90, e91⟩
  · refine ⟨m_up (m_up a 90 nx (x7 + p * st 86 (15 + 6 * kk))) 91 nx (st 91 k + ads (st 86) nx), (x7 + p * st 86 (15 + 6 * kk)) + st 86 (14 + 6 * nx), bZ (sil (st 86) nx = false), x7 + p * st 86 (15 + 6 * kk), fM_up (fM_up fa rfl _ _) rfl _ _, ?_, ?_⟩
    · rw [if_neg q]
      apply start
      rw [eX12_goes_116, s_its0 _ _ hn, e86]
      simp only [m_bd, Option.toList, List.cons_append, List.nil_append]
      have h135 : m_ev none (d + 5) 179 123 [some (.ref 85), some (.int x1), some (.int x2), some (.int x3), some (.int x4), some (.int x5), some (.int (Int32.ofNat k)), some (.int x7), some (.int 1), some (.int (Int32.ofNat nx)), some (.int (x7 + p * st 86 (15 + 6 * kk)))] [.int (st 86 (12 + 6 * nx))] (SH, a) = m_ev none (d + 5) 179 135 [some (.ref 85), some (.int x1), some (.int x2), some (.int x3), some (.int x4), some (.int x5), some (.int (Int32.ofNat k)), some (.int x7), some (.int 1), some (.int (Int32.ofNat nx)), some (.int (x7 + p * st 86 (15 + 6 * kk)))] [] (SH, a) := by
        rw [eX12_goes_123]
        by_cases q5 : st 86 (12 + 6 * nx) = 5
        · rw [if_pos q5, if_neg (fun z => q ⟨q5, z⟩)]
        · rw [if_neg q5]
      rw [h135, eX12_goes_135, eX12_goes_140, if_neg i_10, ix_9 hn, ix_9 hk]
      simp only [m_ob]
      rw [s_its2 _ _ hn]
      simp only [m_bd, Option.toList, List.cons_append, List.nil_append]
      rw [eX12_goes_184]
      have g86 : m_up (m_up a 90 nx (x7 + p * st 86 (15 + 6 * kk))) 91 nx (a 91 k + a 85 5) 86 = st 86 := by rw [up_ne (by decide), up_ne (by decide), e86]
      have g85 : m_up (m_up a 90 nx (x7 + p * st 86 (15 + 6 * kk))) 91 nx (a 91 k + a 85 5) 85 6 = bZ (sil (st 86) nx = true) := by rw [up_ne (by decide), up_ne (by decide), h6]
      rw [g86, g85, h5, e91]
      cases hs : sil (st 86) nx with
      | true => rw [if_neg (by rw [bZ_t rfl]; exact i_10), eX12_goes_198, eX12_goes_199, eX12_goes_205]; rfl
      | false => rw [if_pos (by rw [bZ_f (by decide)]), eX12_goes_199, eX12_goes_205]; rfl
    · rw [if_neg q]
      refine ⟨?_, ?_, ?_, rfl, rfl⟩
      · intro i hi
        rw [up_ne (by decide), up_nj hi, up_nj hi, up_ne (by decide), e90, e91]
        exact ⟨rfl, rfl⟩
      · rw [up_ne (by decide), up_in]
      · rw [up_in]
theorem wst_dn {s : Nat → Int32} {b q : Nat → Bool} {t : Int32} {k : Nat} (h : wst s b q t k = none) : ∀ i, k ≤ i → (∀ j, k < j → j ≤ i → b j = false) → wst s b q t i = none
  | 0, hi, hb => by
    have : k = 0 := by omega
    subst this; exact h
  | i + 1, hi, hb => by
    by_cases e : k = i + 1
    · subst e; exact h
    · have := wst_dn h i (by omega) (fun j h1 h2 => hb j h1 (by omega))
      unfold wst
      rw [if_neg (by rw [hb (i + 1) (by omega) (by omega)]; decide), this]
/-- the numbers of the model's cry from a tower on, to the west, up to where the next one begins -/
def goI (st : zS) (s : Nat → Int32) (b q : Nat → Bool) (t : Int32) (fm e k : Nat) (a : zS) : Prop := fM st a ∧ (∀ i, (i < fm ∨ e ≤ i) → a 90 i = st 90 i ∧ a 91 i = st 91 i) ∧ (∀ i, fm ≤ i → i ≤ k → rep1 (-1) (a 90) (a 91) (wst s b q t i) i) ∧ ∀ i, k < i → i < e → a 90 i = -1
theorem goI_end {st : zS} {s : Nat → Int32} {b q : Nat → Bool} {t : Int32} {fm e k : Nat} {a : zS} (h : goI st s b q t fm e k a) (hk : fm ≤ k) (hb : ∀ i, fm < i → i < e → b i = false) (hn : k + 1 < e → wst s b q t (k + 1) = none) : goI st s b q t fm e (e - 1) a := by
  obtain ⟨h1, h2, h3, h4⟩ := h
  refine ⟨h1, h2, fun i i1 i2 => ?_, fun i i1 i2 => by omega⟩
  by_cases q1 : i ≤ k
  · exact h3 i i1 q1
  · by_cases q2 : i < e
    · have hw := wst_dn (hn (by omega)) i (by omega) (fun j j1 j2 => hb j (by omega) (by omega))
      rw [hw]
      exact h4 i (by omega) q2
    · exfalso
      omega
theorem goW_run (d : Nat) {st : zS} (hV : VN (st 86)) {b q : Nat → Bool} {t but mute : Int32} {fm e : Nat} (hf : fm < tn (st 86)) (he : e ≤ tn (st 86)) (hbut : ∀ k, k < 9 → fm < k → btm but k = b k) (hq : ∀ k, k < 9 → (Int32.ofNat k = mute ↔ q k = true)) (hb : ∀ i, fm < i → i < e → b i = false) (hbe : e < tn (st 86) → b e = true) :
    ∀ (m k : Nat) (a : zS) (c h lv : Int32) (x9 x10 : Option Value), k + 1 + m = e → fm ≤ k → goI st (st 86) b q t fm e k a → wst (st 86) b q t k = some (c, h) → lv = c + (if b k = true then 0 else st 86 (14 + 6 * k)) → ¬ (sil (st 86) k = true ∧ b k = false) →
    RT (m_ev none (d + 5) 179 23 [some (.ref 85), some (.int (Int32.ofNat fm)), some (.int t), some (.int 1), some (.int but), some (.int mute), some (.int (Int32.ofNat k)), some (.int lv), some (.int 1), x9, x10] [] (SH, a)) none (goI st (st 86) b q t fm e (e - 1))
  | 0, k, a, c, h, lv, x9, x10, hm, hk, hI, hw, hlv, hs => by
    have h9 := hV.1.2
    refine ⟨a, ?_, goI_end hI hk hb (fun z => by omega)⟩
    rw [eX12_goes_23, if_neg i_10]
    by_cases hmu : Int32.ofNat k = mute
    · rw [if_pos hmu, eX12_goes_208]
    · have e0 : a 86 0 = Int32.ofNat (tn (st 86)) := by rw [hI.1.1 86 rfl]; exact hV.1.1
      rw [if_neg hmu, if_neg i_10, eX12_goes_50, n_succ, s_isTowM _ a e0 h9]
      simp only [m_bd, Option.toList, List.cons_append, List.nil_append]
      rw [eX12_goes_58, bZ_if, n_int (by omega)]
      by_cases z : (0 : Int) ≤ ((k + 1 : Nat) : Int) ∧ ((k + 1 : Nat) : Int) < (tn (st 86) : Int)
      · have hbk : b (k + 1) = true := by
          have := hbe (by omega)
          rw [← hm] at this; exact this
        rw [if_pos z, s_has, hbut (k + 1) (by omega) (by omega)]
        simp only [m_bd, Option.toList, List.cons_append, List.nil_append]
        rw [eX12_goes_68, bZ_if, if_pos hbk, eX12_goes_75, eX12_goes_76, if_pos rfl, eX12_goes_205, goes_off]
      · rw [if_neg z, eX12_goes_75, eX12_goes_76, if_pos rfl, eX12_goes_205, goes_off]
  | m + 1, k, a, c, h, lv, x9, x10, hm, hk, hI, hw, hlv, hs => by
    have h9 := hV.1.2
    have e86 : a 86 = st 86 := hI.1.1 86 rfl
    have hbk : b (k + 1) = false := hb (k + 1) (by omega) (by omega)
    have hR : RG (a 86) := by rw [e86]; exact hV.2.2.2.2
    have hd : DG (a 86) := by rw [e86]; exact hV.2.2.2.1
    by_cases hmu : Int32.ofNat k = mute
    · refine ⟨a, ?_, goI_end hI hk hb (fun _ => ?_)⟩
      · rw [eX12_goes_23, if_neg i_10, if_pos hmu, eX12_goes_208]
      · unfold wst
        rw [if_neg (by rw [hbk]; decide), hw]
        show (if _ then _ else _) = _
        rw [if_pos (Or.inr ((hq k (by omega)).mp hmu))]
    · have hqk : ¬ q k = true := fun z => hmu ((hq k (by omega)).mpr z)
      have hstep : wst (st 86) b q t (k + 1) = arr (st 86) (k + 1) (lv + st 86 (15 + 6 * (k + 1)) * pw (st 86)) h := by
        conv => lhs; unfold wst
        rw [if_neg (by rw [hbk]; decide), hw]
        show (if _ then _ else _) = _
        rw [if_neg (fun z => z.elim hs hqk), hlv]
      obtain ⟨a1, lv1, on1, y10, f1, t1, t2⟩ := goes_tail d a (Int32.ofNat fm) t 1 but mute lv (pw (st 86)) (k := k) (kk := k + 1) (nx := k + 1) (by omega) (by omega) (by omega) hR hd x10
      have e0 : a 86 0 = Int32.ofNat (tn (st 86)) := by rw [e86]; exact hV.1.1
      have hz : (0 : Int) ≤ ((k + 1 : Nat) : Int) ∧ ((k + 1 : Nat) : Int) < (tn (st 86) : Int) := by omega
      have start : m_ev none (d + 5) 179 23 [some (.ref 85), some (.int (Int32.ofNat fm)), some (.int t), some (.int 1), some (.int but), some (.int mute), some (.int (Int32.ofNat k)), some (.int lv), some (.int 1), x9, x10] [] (SH, a) = m_ev none (d + 5) 179 102 [some (.ref 85), some (.int (Int32.ofNat fm)), some (.int t), some (.int 1), some (.int but), some (.int mute), some (.int (Int32.ofNat k)), some (.int lv), some (.int 1), some (.int (Int32.ofNat (k + 1))), x10] [.int (Int32.ofNat (k + 1)), .ref 85, .int (pw (st 86)), .int lv] (SH, a) := by
        rw [eX12_goes_23, if_neg i_10, if_neg hmu, if_neg i_10, eX12_goes_50, n_succ, s_isTowM _ a e0 h9]
        simp only [m_bd, Option.toList, List.cons_append, List.nil_append]
        rw [eX12_goes_58, bZ_if, n_int (by omega), if_pos hz, s_has, hbut (k + 1) (by omega) (by omega)]
        simp only [m_bd, Option.toList, List.cons_append, List.nil_append]
        rw [eX12_goes_68, bZ_if, if_neg (by rw [hbk]; decide), eX12_goes_76, if_neg i_10, s_paceW _ a hd, e86]
        simp only [m_bd, Option.toList, List.cons_append, List.nil_append]
        rw [eX12_goes_90, if_neg i_10]
      have hcomm : lv + pw (st 86) * a 86 (15 + 6 * (k + 1)) = lv + st 86 (15 + 6 * (k + 1)) * pw (st 86) := by rw [e86, Int32.mul_comm]
      rw [hcomm, e86] at t1 t2
      by_cases z : st 86 (12 + 6 * (k + 1)) = 5 ∧ lv + st 86 (15 + 6 * (k + 1)) * pw (st 86) < 360
      · rw [if_pos z] at t1 t2
        have hnone : wst (st 86) b q t (k + 1) = none := by rw [hstep]; unfold arr; rw [if_pos z]
        refine ⟨a1, start.trans t1, goI_end ⟨fM_tr hI.1 f1, ?_, ?_, ?_⟩ hk hb (fun _ => hnone)⟩
        · rw [t2.1, t2.2]; exact hI.2.1
        · rw [t2.1, t2.2]; exact hI.2.2.1
        · rw [t2.1]; exact hI.2.2.2
      · rw [if_neg z] at t1 t2
        obtain ⟨u1, u2, u3, u4, u5⟩ := t2
        have hh : a 91 k = h := by
          have := hI.2.2.1 k hk (Nat.le_refl k)
          rw [hw] at this; exact this.2
        have hsome : wst (st 86) b q t (k + 1) = some (lv + st 86 (15 + 6 * (k + 1)) * pw (st 86), h + ads (st 86) (k + 1)) := by rw [hstep]; unfold arr; rw [if_neg z]
        have hI1 : goI st (st 86) b q t fm e (k + 1) a1 := by
          refine ⟨fM_tr hI.1 f1, ?_, ?_, ?_⟩
          · intro i hi
            rw [(u1 i (by omega)).1, (u1 i (by omega)).2]; exact hI.2.1 i hi
          · intro i i1 i2
            by_cases w : i = k + 1
            · subst w
              rw [hsome]
              exact ⟨u2, by rw [u3, hh]⟩
            · have := hI.2.2.1 i i1 (by omega)
              unfold rep1 at this ⊢
              rw [(u1 i w).1, (u1 i w).2]; exact this
          · intro i i1 i2
            rw [(u1 i (by omega)).1]; exact hI.2.2.2 i (by omega) i2
        cases hsl : sil (st 86) (k + 1) with
        | true =>
          refine ⟨a1, ?_, goI_end hI1 (by omega) hb (fun he2 => ?_)⟩
          · rw [start, t1, u5, hsl]
            exact goes_off _ _ _ _ _ _ _ _ _ _ _
          · have hb2 : b (k + 1 + 1) = false := hb _ (by omega) he2
            conv => lhs; unfold wst
            rw [if_neg (by rw [hb2]; decide), hsome]
            show (if _ then _ else _) = _
            rw [if_pos (Or.inl ⟨hsl, hbk⟩)]
        | false =>
          have r := goW_run d hV hf he hbut hq hb hbe m (k + 1) a1 _ _ lv1 (some (.int (Int32.ofNat (k + 1)))) (some (.int y10)) (by omega) (by omega) hI1 hsome (by rw [u4, if_neg (by rw [hbk]; decide)]) (by rw [hsl]; simp)
          obtain ⟨a2, e2, g2⟩ := r
          refine ⟨a2, ?_, g2⟩
          rw [start, t1, u5, hsl]
          exact e2
theorem s_goW (d : Nat) {st : zS} (hV : VN (st 86)) {b q : Nat → Bool} {t but mute : Int32} {fm e : Nat} (hf : fm < tn (st 86)) (hfe : fm < e) (he : e ≤ tn (st 86)) (hbut : ∀ k, k < 9 → fm < k → btm but k = b k) (hq : ∀ k, k < 9 → (Int32.ofNat k = mute ↔ q k = true)) (hbf : b fm = true) (hb : ∀ i, fm < i → i < e → b i = false) (hbe : e < tn (st 86) → b e = true) (h0 : ∀ i, fm < i → i < e → st 90 i = -1) :
    RT (m_evc (d + 6) 179 [.ref 85, .int (Int32.ofNat fm), .int t, .int 1, .int but, .int mute] (SH, st)) none (goI st (st 86) b q t fm e (e - 1)) := by
  have h9 := hV.1.2
  have hI : goI (m_up (m_up st 90 fm t) 91 fm t) (st 86) b q t fm e fm (m_up (m_up st 90 fm t) 91 fm t) := by
    refine ⟨fM_refl _, fun i _ => ⟨rfl, rfl⟩, fun i i1 i2 => ?_, fun i i1 i2 => ?_⟩
    · have : i = fm := by omega
      subst this
      rw [wst_at hbf]
      show _ ∧ _
      rw [up_ne (by decide), up_in, up_in]; exact ⟨rfl, rfl⟩
    · rw [up_ne (by decide), up_nj (by omega)]; exact h0 i i1 i2
  have e86 : (m_up (m_up st 90 fm t) 91 fm t) 86 = st 86 := by rw [up_ne (by decide), up_ne (by decide)]
  have r := goW_run d (st := m_up (m_up st 90 fm t) 91 fm t) (b := b) (q := q) (t := t) (but := but) (mute := mute) (fm := fm) (e := e) (by rw [e86]; exact hV) (by rw [e86]; exact hf) (by rw [e86]; exact he) hbut hq hb (by rw [e86]; exact hbe) (e - 1 - fm) fm (m_up (m_up st 90 fm t) 91 fm t) t t t none none (by omega) (Nat.le_refl _) (by rw [e86]; exact hI) (by rw [e86]; exact wst_at hbf) (by rw [if_pos hbf, Int32.add_zero]) (by rw [hbf]; simp)
  rw [e86] at r
  obtain ⟨a, e1, g⟩ := r
  refine ⟨a, ?_, ?_⟩
  · rw [cal_X12_goes, eX12_goes_0, ix_9 (show fm < 9 by omega)]
    simp only [m_ob]
    exact e1
  · obtain ⟨g1, g2, g3, g4⟩ := g
    refine ⟨fM_tr (fM_up (fM_up (fM_refl _) rfl _ _) rfl _ _) g1, fun i hi => ?_, g3, g4⟩
    rw [(g2 i hi).1, (g2 i hi).2, up_ne (by decide), up_nj (by omega), up_nj (by omega), up_ne (by decide)]
    exact ⟨rfl, rfl⟩
