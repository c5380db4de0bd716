/-! CALLS: clocks, fewest -/
def ckM (f : Nat → cH) (j : Nat) (a : Int32) : Int32 := if dsO (f j) < 0 ∨ a < 0 then -1 else if a < dsO (f j) then dsO (f j) else a
theorem ck_m1 (f : Nat → cH) : ∀ (m j : Nat), lp (ckM f) m j (-1) = -1
  | 0, _ => rfl
  | m + 1, j => by
    show lp (ckM f) m (j + 1) (ckM f j (-1)) = -1
    have : ckM f j (-1) = -1 := by unfold ckM; rw [if_pos (Or.inr n_neg1)]
    rw [this]
    exact ck_m1 f m (j + 1)
theorem ck_b (f : Nat → cH) : ∀ (m j : Nat) (a : Int32), -1 ≤ a.toInt → (∀ i, -1 ≤ (dsO (f i)).toInt) → -1 ≤ (lp (ckM f) m j a).toInt
  | 0, _, _, h, _ => h
  | m + 1, j, a, h, hf => by
    show -1 ≤ (lp (ckM f) m (j + 1) (ckM f j a)).toInt
    apply ck_b f m (j + 1) _ ?_ hf
    unfold ckM
    split
    · decide
    split
    · exact hf j
    · exact h
def ckv (s : Nat → Int32) (x t : Int32) : Int32 := lp (ckM (wst s (bt x) nob t)) (tn s) 0 0
theorem x_clk (d : Nat) (st : zS) {s : Nat → Int32} (hD : ya_D st s) {t : Int32} (ht : TG t) (hB : NB s) (x : Int32) : RT (m_evc (d + 4) 4 [.ref 44, .int x, .int t] (SH, st)) (some (.int (ckv s x t))) (fun st' => fr [44, 47, 48] st st' ∧ ya_D st' s) := by
  have h9 := hD.2.1.1.2
  obtain ⟨st1, e1, f1, g1, g2, g3⟩ := ya_beginAt (d + 1) st x t
  have D1 : ya_D st1 s := ya_D_of hD f1 g2
  -- to the west, from all of the set
  have west : ∃ st2, m_evc (d + 3) 6 [.ref 44, .int 0] (SH, st1) = some (none, (SH, st2)) ∧ fr [47, 48] st1 st2 ∧ rp (-9) (st2 47) (st2 48) (wst s (bt x) nob t) (tn s) := by
    by_cases h0 : tn s = 0
    · refine ⟨st1, ?_, fr_refl _ _, fun k hk => by omega⟩
      rw [cal_aX0_goWest, eaX0_goWest_0, eaX0_goWest_2, if_neg, eaX0_goWest_55]
      rw [D1.1.2.1, D1.1.2.2.1.1, h0]; decide
    · obtain ⟨st2, e2, f2, r2⟩ := ya_goWest d st1 D1 ht (b := bt x) (fun k hk => by rw [g1]) (fm := 0) (by omega) (fun k hk => by
        have : k = 0 := by omega
        subst this
        have := g3 0 (by omega)
        unfold wst
        by_cases q : bt x 0 = true
        · rw [if_pos q] at this ⊢; exact this
        · rw [if_neg q]; rw [if_neg q] at this; exact this.1) (fun k h1 h2 => g3 k h2)
      exact ⟨st2, e2, f2, r2⟩
  obtain ⟨st2, e2, f2, r2⟩ := west
  have D2 : ya_D st2 s := ya_D_of D1 (fr_mono f2 (by decide)) (fun j _ => by rw [f2 44 rfl])
  have hb := fb_wst (b := bt x) (q := nob) hD.2.1 ht
  have en : st2 1 0 = Int32.ofNat (tn s) := by rw [D2.1.2.1]; exact D2.1.2.2.1.1
  refine ⟨st2, ?_, fr_mono (fr_tr f1 f2) (by decide), D2⟩
  rw [cal_X0_farthestByClocks, eX0_farthestByClocks_0, e1]
  simp only [m_bd, Option.toList, List.cons_append, List.nil_append]
  rw [eX0_farthestByClocks_6, e2]
  simp only [m_bd, Option.toList, List.cons_append, List.nil_append]
  rw [eX0_farthestByClocks_11]
  have run : ∀ (m j : Nat) (a : Int32), j + m = tn s → ¬ a < 0 → m_ev none (d + 3) 4 16 [some (.ref 44), some (.int x), some (.int t), some (.int a), some (.int (Int32.ofNat j))] [] (SH, st2) = some (some (.int (lp (ckM (wst s (bt x) nob t)) m j a)), (SH, st2)) := by
    intro m
    induction m with
    | zero =>
      intro j a hj ha
      rw [eX0_farthestByClocks_16, en, if_neg (by rw [n_lt (by omega) (by omega)]; omega), eX0_farthestByClocks_56]
      rfl
    | succ m ih =>
      intro j a hj ha
      rw [eX0_farthestByClocks_16, en, if_pos (by rw [n_lt (by omega) (by omega)]; omega), ya_rch _ st2 r2 hb (show j < tn s by omega) h9]
      simp only [m_bd, Option.toList, List.cons_append, List.nil_append]
      rw [eX0_farthestByClocks_34, bZ_if]
      show _ = some (some (Value.int (lp (ckM (wst s (bt x) nob t)) m (j + 1) (ckM (wst s (bt x) nob t) j a))), (SH, st2))
      cases e : wst s (bt x) nob t j with
      | none =>
        have : ckM (wst s (bt x) nob t) j a = -1 := by unfold ckM; rw [e, if_pos (show dsO none < 0 ∨ a < 0 from Or.inl n_neg1)]
        rw [if_neg iN, this, ck_m1]
      | some ch =>
        obtain ⟨c, g⟩ := ch
        have hn : ¬ ab1 (g - c) < 0 := by
          have h1 := wst_b hD.2.1 ht j (by omega) c g e
          have h2 := wst_hb hD.2.1 hB ht j (by omega) c g e
          have t1 := ht.1
          have e1 : (g - c).toInt = g.toInt - c.toInt := i_subb (by omega)
          unfold ab1
          split
          · rename_i q
            rw [i_lt, t_0, e1] at q
            rw [i_lt, t_0, i_subb (by rw [t_0]; omega), t_0, e1]; omega
          · rename_i q; exact q
        rw [if_pos iS, eX0_farthestByClocks_39, ya_dist _ st2 r2 (show j < tn s by omega) h9 e]
        simp only [m_bd, Option.toList, List.cons_append, List.nil_append]
        rw [eX0_farthestByClocks_46, n_succ]
        have : ckM (wst s (bt x) nob t) j a = (if a < ab1 (g - c) then ab1 (g - c) else a) := by
          unfold ckM
          rw [e]
          show (if ab1 (g - c) < 0 ∨ a < 0 then (-1 : Int32) else if a < ab1 (g - c) then ab1 (g - c) else a) = _
          rw [if_neg (fun z => z.elim hn ha)]
        rw [this]
        exact ih (j + 1) _ (by omega) (by split; exact hn; exact ha)
  exact run (tn s) 0 0 (by omega) (by decide)
/-! the model's -/
theorem wst_none {s : Nat → Int32} {b q : Nat → Bool} {t : Int32} : ∀ i, (∀ j, j ≤ i → b j = false) → wst s b q t i = none
  | 0, h => by unfold wst; rw [if_neg (by rw [h 0 (Nat.le_refl 0)]; decide)]
  | i + 1, h => by
    unfold wst
    rw [if_neg (by rw [h (i + 1) (Nat.le_refl _)]; decide), wst_none i (fun j hj => h j (by omega))]
theorem nx_ex (b : Nat → Bool) (n : Nat) : ∀ (m k : Nat), k + 1 + m = n → ∃ e, k < e ∧ e ≤ n ∧ (∀ i, k < i → i < e → b i = false) ∧ (e < n → b e = true)
  | 0, k, h => ⟨n, by omega, Nat.le_refl n, fun i h1 h2 => by omega, fun h => by omega⟩
  | m + 1, k, h => by
    cases q : b (k + 1) with
    | true => exact ⟨k + 1, by omega, by omega, fun i h1 h2 => by omega, fun _ => q⟩
    | false =>
      obtain ⟨e, e1, e2, e3, e4⟩ := nx_ex b n m (k + 1) (by omega)
      refine ⟨e, by omega, e2, fun i h1 h2 => ?_, e4⟩
      by_cases w : i = k + 1
      · subst w; exact q
      · exact e3 i (by omega) h2
set_option maxRecDepth 100000 in
theorem bt_m : ∀ m : Fin 512, ∀ k : Fin 9, btm (Int32.ofNat m.val) k.val = bt (Int32.ofNat m.val) k.val := by decide +kernel
theorem m_clk (d : Nat) {st : zS} (hV : VN (st 86)) {m : Nat} (hm : m < 512) {t : Int32} (ht : TG t) : RT (m_evc (d + 7) 195 [.ref 85, .int (Int32.ofNat m), .int t] (SH, st)) (some (.int (ckv (st 86) (Int32.ofNat m) t))) (fM st) := by
  have h9 := hV.1.2
  obtain ⟨st0, e0, f0, g0⟩ := s_quiets (d + 5) st
  have fM0 : fM st st0 := ⟨fr_mono f0 (by decide), fun j _ _ => by rw [f0 85 rfl]⟩
  have L := lp_inv (fun j (a : zS) => m_ev none (d + 6) 195 6 [some (.ref 85), some (.int (Int32.ofNat m)), some (.int t), some (.int (Int32.ofNat j)), none, none] [] (SH, a)) (fun k a => fM st a ∧ ∀ i, i < tn (st 86) → ((∃ j, k ≤ j ∧ j ≤ i ∧ bt (Int32.ofNat m) j = true) → a 90 i = -1) ∧ ((∀ j, k ≤ j → j ≤ i → bt (Int32.ofNat m) j = false) → rep1 (-1) (a 90) (a 91) (wst (st 86) (bt (Int32.ofNat m)) nob t i) i)) (tn (st 86)) ?_ (tn (st 86)) 0 st0 (by omega) ⟨fM0, fun i hi => ⟨fun _ => g0 i (by omega), fun h => by rw [wst_none i (fun j hj => h j (Nat.zero_le j) hj)]; exact g0 i (by omega)⟩⟩
  · obtain ⟨st1, e, f1, g1⟩ := L
    have e86 : st1 86 = st 86 := f1.1 86 rfl
    have en : st1 86 0 = Int32.ofNat (tn (st 86)) := by rw [e86]; exact hV.1.1
    have r1 : rp (-1) (st1 90) (st1 91) (wst (st 86) (bt (Int32.ofNat m)) nob t) (tn (st 86)) := fun i hi => (g1 i hi).2 (fun j h1 h2 => by omega)
    have hb := fb_wst (b := bt (Int32.ofNat m)) (q := nob) hV ht
    refine ⟨st1, ?_, f1⟩
    rw [cal_X12_clocked, eX12_clocked_0, e0]
    simp only [m_bd, Option.toList, List.cons_append, List.nil_append]
    rw [eX12_clocked_4]
    have e : m_ev none (d + 6) 195 6 [some (.ref 85), some (.int (Int32.ofNat m)), some (.int t), some (.int 0), none, none] [] (SH, st0) = _ := e
    rw [e, eX12_clocked_6, en, if_neg (by rw [n_lt (by omega) (by omega)]; omega), eX12_clocked_39]
    have L2 := lp_inv (fun j (a : Int32 × Option Value) => m_ev none (d + 6) 195 44 [some (.ref 85), some (.int (Int32.ofNat m)), some (.int t), some (.int a.1), some (.int (Int32.ofNat j)), a.2] [] (SH, st1)) (fun j a => a.1 = lp (ckM (wst (st 86) (bt (Int32.ofNat m)) nob t)) j 0 0) (tn (st 86)) ?_ (tn (st 86)) 0 (0, none) (by omega) rfl
    · obtain ⟨⟨w, x5⟩, e, hw⟩ := L2
      have hw : w = _ := hw
      refine Eq.trans e ?_
      simp only
      rw [eX12_clocked_44, en, if_neg (by rw [n_lt (by omega) (by omega)]; omega), eX12_clocked_112, hw]
      rfl
    · rintro j ⟨w, x5⟩ hj hw
      have hw : w = _ := hw
      have q := rp_neg r1 hb hj
      have hnext : ckM (wst (st 86) (bt (Int32.ofNat m)) nob t) j w = lp (ckM (wst (st 86) (bt (Int32.ofNat m)) nob t)) (j + 1) 0 0 := by rw [lp_last, Nat.zero_add, ← hw]
      have fin : ∀ far : Int32, far = dsO (wst (st 86) (bt (Int32.ofNat m)) nob t j) → m_ev none (d + 6) 195 78 [some (.ref 85), some (.int (Int32.ofNat m)), some (.int t), some (.int w), some (.int (Int32.ofNat j)), x5] [.int far] (SH, st1) = m_ev none (d + 6) 195 44 [some (.ref 85), some (.int (Int32.ofNat m)), some (.int t), some (.int (ckM (wst (st 86) (bt (Int32.ofNat m)) nob t) j w)), some (.int (Int32.ofNat (j + 1))), some (.int far)] [] (SH, st1) := by
        intro far hfar
        rw [eX12_clocked_78]
        unfold ckM
        rw [← hfar]
        by_cases q1 : far < 0
        · rw [if_pos q1, if_pos (show far < 0 ∨ w < 0 from Or.inl q1), eX12_clocked_89, eX12_clocked_105, n_succ]
        · rw [if_neg q1]
          by_cases q2 : w < 0
          · rw [if_pos q2, if_pos (show far < 0 ∨ w < 0 from Or.inr q2), eX12_clocked_89, eX12_clocked_105, n_succ]
          · rw [if_neg q2, if_neg (show ¬ (far < 0 ∨ w < 0) from fun z => z.elim q1 q2), eX12_clocked_93]
            by_cases q3 : w < far
            · rw [if_pos q3, if_pos q3, eX12_clocked_105, n_succ]
            · rw [if_neg q3, if_neg q3, eX12_clocked_104, eX12_clocked_105, n_succ]
      cases e : wst (st 86) (bt (Int32.ofNat m)) nob t j with
      | none =>
        refine ⟨(ckM (wst (st 86) (bt (Int32.ofNat m)) nob t) j w, some (.int (-1))), ?_, hnext⟩
        simp only
        rw [eX12_clocked_44, en, if_pos (by rw [n_lt (by omega) (by omega)]; exact hj), ix_9 (show j < 9 by omega)]
        simp only [m_ob]
        rw [if_pos (q.mpr e)]
        exact fin _ (by rw [e]; rfl)
      | some ch =>
        obtain ⟨c, g⟩ := ch
        refine ⟨(ckM (wst (st 86) (bt (Int32.ofNat m)) nob t) j w, some (.int (ab1 (g - c)))), ?_, hnext⟩
        simp only
        rw [eX12_clocked_44, en, if_pos (by rw [n_lt (by omega) (by omega)]; exact hj), ix_9 (show j < 9 by omega)]
        simp only [m_ob]
        rw [if_neg (fun z => by rw [q.mp z] at e; cases e), eX12_clocked_69, m_off _ st1 r1 hj h9 e]
        simp only [m_bd, Option.toList, List.cons_append, List.nil_append]
        rw [eX12_clocked_75, m_size]
        simp only [m_bd, Option.toList, List.cons_append, List.nil_append]
        exact fin _ (by rw [e]; rfl)
  · rintro k a hk ⟨f, g⟩
    have e86 : a 86 = st 86 := f.1 86 rfl
    have en : a 86 0 = Int32.ofNat (tn (st 86)) := by rw [e86]; exact hV.1.1
    have hlt : Int32.ofNat k < a 86 0 := by rw [en, n_lt (by omega) (by omega)]; exact hk
    cases hb : bt (Int32.ofNat m) k with
    | false =>
      refine ⟨a, ?_, f, fun i hi => ⟨fun ⟨j, j1, j2, j3⟩ => (g i hi).1 ⟨j, by omega, j2, j3⟩, fun h => (g i hi).2 (fun j j1 j2 => ?_)⟩⟩
      · rw [eX12_clocked_6, if_pos hlt, s_has, bt_m ⟨m, hm⟩ ⟨k, by omega⟩, hb]
        simp only [m_bd, Option.toList, List.cons_append, List.nil_append]
        rw [eX12_clocked_21, if_pos (bZ_f (by decide)), eX12_clocked_33, n_succ]
      · by_cases w : j = k
        · subst w; exact hb
        · exact h j (by omega) j2
    | true =>
      obtain ⟨e, k1, k2, k3, k4⟩ := nx_ex (bt (Int32.ofNat m)) (tn (st 86)) (tn (st 86) - (k + 1)) k (by omega)
      obtain ⟨a1, ea, I1, I2, I3, I4⟩ := s_goW d (st := a) (by rw [e86]; exact hV) (b := bt (Int32.ofNat m)) (q := nob) (t := t) (but := Int32.ofNat m) (mute := -1) (fm := k) (e := e) (by rw [e86]; exact hk) k1 (by rw [e86]; exact k2) (fun j j1 j2 => bt_m ⟨m, hm⟩ ⟨j, j1⟩) nob_q hb k3 (by rw [e86]; exact k4) (fun i i1 i2 => (g i (by omega)).1 ⟨k, Nat.le_refl k, by omega, hb⟩)
      rw [e86] at I3
      refine ⟨a1, ?_, fM_tr f I1, fun i hi => ⟨fun ⟨j, j1, j2, j3⟩ => ?_, fun h => ?_⟩⟩
      · rw [eX12_clocked_6, if_pos hlt, s_has, bt_m ⟨m, hm⟩ ⟨k, by omega⟩, hb]
        simp only [m_bd, Option.toList, List.cons_append, List.nil_append]
        rw [eX12_clocked_21, if_neg (by rw [bZ_t trivial]; exact i_10), ea]
        simp only [m_bd, Option.toList, List.cons_append, List.nil_append]
        rw [eX12_clocked_33, n_succ]
      · have hej : e ≤ i := by
          by_cases w : j < e
          · have := k3 j (by omega) w
            rw [this] at j3; cases j3
          · omega
        rw [(I2 i (Or.inr hej)).1]
        exact (g i hi).1 ⟨j, by omega, j2, j3⟩
      · by_cases w : i < k
        · have := (g i hi).2 (fun j j1 j2 => by omega)
          unfold rep1 at this ⊢
          rw [(I2 i (Or.inl w)).1, (I2 i (Or.inl w)).2]; exact this
        · have hie : i < e := by
            by_cases w2 : i < e
            · exact w2
            · have := k4 (by omega)
              rw [h e (by omega) (by omega)] at this; cases this
          exact I3 i (by omega) (by omega)
/-! guards of sets -/
abbrev gS (s : Nat → Int32) (x : Int32) : Prop := 0 ≤ x.toInt ∧ x.toInt < ((2 ^ tn s : Nat) : Int)
theorem p2_b {n : Nat} (h : n ≤ 9) : 2 ^ n ≤ 512 := Nat.pow_le_pow_right (by omega) h
theorem sh_n {n : Nat} (h : n ≤ 9) : (1 : Int32) <<< (Int32.ofNat n &&& 31) = Int32.ofNat (2 ^ n) := by
  have := n_shl (n := 1) (k := n) (by omega)
  rw [show (Int32.ofNat 1) = 1 from rfl, Nat.one_mul] at this
  exact this
theorem p_sub {P : Nat} (h : P ≤ 512) : (Int32.ofNat P - 1).toInt = (P : Int) - 1 := by
  have e1 : (1 : Int32).toInt = 1 := rfl
  rw [i_subb (by rw [n_int (by omega), e1]; omega), n_int (by omega), e1]
theorem s_isSet (d : Nat) (st : zS) {s : Nat → Int32} (h0 : st 1 0 = s 0) (hs : s 0 = Int32.ofNat (tn s) ∧ tn s ≤ 9) (x : Int32) : m_evc (d + 1) 119 [.ref 0, .int x] (SH, st) = some (some (.int (bZ (gS s x))), (SH, st)) := by
  have hp := p2_b hs.2
  rw [cal_X11_isSet, eX11_isSet_0, h0, hs.1, sh_n hs.2]
  by_cases h1 : x < 0
  · rw [if_pos h1, eX11_isSet_21, eX11_isSet_22, if_pos (Or.inl rfl), bZ_f]
    rw [i_lt, t_0] at h1
    intro z
    have := z.1
    omega
  · rw [if_neg h1]
    by_cases h2 : x < Int32.ofNat (2 ^ tn s)
    · rw [if_pos h2, eX11_isSet_22, if_pos (Or.inr rfl), bZ_t]
      rw [i_lt, t_0] at h1
      rw [i_lt, n_int (by omega)] at h2
      exact ⟨by omega, h2⟩
    · rw [if_neg h2, eX11_isSet_21, eX11_isSet_22, if_pos (Or.inl rfl), bZ_f]
      rw [i_lt, n_int (by omega)] at h2
      intro z
      exact h2 z.2
theorem gS_n {s : Nat → Int32} {x : Int32} (h : gS s x) (h9 : tn s ≤ 9) : ∃ m, m < 2 ^ tn s ∧ m < 512 ∧ x = Int32.ofNat m := by
  have h0 : (0 : Int32) ≤ x := by rw [i_le]; exact h.1
  obtain ⟨a, b, c⟩ := n_of h0
  have h2 := h.2
  have := p2_b h9
  exact ⟨x.toNatClampNeg, by omega, by omega, a⟩
def a_clocks (x1 x2 : Int32) (s : Nat → Int32) : Int32 := if gS s x1 ∧ TG x2 then (if ckv s x1 x2 < 0 then -3 else ckv s x1 x2) else -1
theorem x_clocks (d : Nat) {st : zS} (hR : Rel st) (x1 x2 : Int32) : RT (m_evc (d + 8) 102 [.ref 0, .int x1, .int x2] (SH, st)) (some (.int (a_clocks x1 x2 (st 86)))) (scr st) := by
  obtain ⟨hN, hV, h7, e0⟩ := Rel_x hR
  have hB : NB (st 86) := hR.1.2.2.2.2.2.2.2
  have h9 := hV.1.2
  have hd := hV.2.2.2.1
  unfold a_clocks
  rw [cal_X11_clocks, eX11_clocks_0, s_isSet _ st e0 hV.1]
  simp only [m_bd, Option.toList, List.cons_append, List.nil_append]
  rw [eX11_clocks_5, bZ_if]
  by_cases h1 : gS (st 86) x1
  · rw [if_pos h1, s_isTX]
    simp only [m_bd, Option.toList, List.cons_append, List.nil_append]
    rw [eX11_clocks_12, bZ_if]
    by_cases h2 : TG x2
    · rw [if_pos h2, if_pos ⟨h1, h2⟩]
      obtain ⟨st1, e1, f1, D1⟩ := ya_takeD (d + 1) st hN hV hd.2
      rw [sd_self hd] at D1
      obtain ⟨st2, e2, f2, D2⟩ := x_clk (d + 3) st1 D1 h2 hB x1
      refine ⟨st2, ?_, scr_fr (fr_tr f1 f2) (by decide)⟩
      rw [eX11_clocks_17, h7, hd.1, e1]
      simp only [m_bd, Option.toList, List.cons_append, List.nil_append]
      rw [eX11_clocks_31, e2]
      simp only [m_bd, Option.toList, List.cons_append, List.nil_append]
      rw [eX11_clocks_40]
      by_cases q : ckv (st 86) x1 x2 < 0
      · rw [if_pos q, if_pos q, eX11_clocks_51]
      · rw [if_neg q, if_neg q, eX11_clocks_50, eX11_clocks_51]
    · rw [if_neg h2, if_neg (fun z => h2 z.2), eX11_clocks_15]
      exact ⟨st, rfl, scr_refl st⟩
  · rw [if_neg h1, if_neg (fun z => h1 z.1), eX11_clocks_15]
    exact ⟨st, rfl, scr_refl st⟩
theorem mc_clocks (d : Nat) {st : zS} (hR : Rel st) (x1 x2 : Int32) : RT (m_evc (d + 8) 196 [.ref 85, .int x1, .int x2] (SH, st)) (some (.int (a_clocks x1 x2 (st 86)))) (scr st) := by
  obtain ⟨hN, hV, h7, e0⟩ := Rel_x hR
  have h9 := hV.1.2
  have hp := p2_b h9
  unfold a_clocks
  rw [cal_X12_clocks, eX12_clocks_0, s_inb, hV.1.1, sh_n h9]
  simp only [m_bd, Option.toList, List.cons_append, List.nil_append]
  rw [eX12_clocks_17, bZ_if]
  have hi : (0 : Int64).toInt ≤ x1.toInt ∧ x1.toInt ≤ (Int32.ofNat (2 ^ tn (st 86)) - 1).toInt64.toInt ↔ gS (st 86) x1 := by
    have e1 : (Int32.ofNat (2 ^ tn (st 86)) - 1).toInt64.toInt = ((2 ^ tn (st 86) : Nat) : Int) - 1 := by
      rw [Int32.toInt_toInt64, p_sub hp]
    rw [e1, show (0 : Int64).toInt = 0 from rfl]
    constructor
    · intro z; exact ⟨z.1, by have := z.2; omega⟩
    · intro z; exact ⟨z.1, by have := z.2; omega⟩
  by_cases h1 : gS (st 86) x1
  · rw [if_pos (hi.mpr h1), s_isTM]
    simp only [m_bd, Option.toList, List.cons_append, List.nil_append]
    rw [eX12_clocks_24, bZ_if]
    by_cases h2 : TG x2
    · rw [if_pos h2, if_pos ⟨h1, h2⟩]
      obtain ⟨m, m1, m2, rfl⟩ := gS_n h1 h9
      obtain ⟨st2, e2, f2⟩ := m_clk d hV m2 h2
      refine ⟨st2, ?_, scr_M f2⟩
      rw [eX12_clocks_29, e2]
      simp only [m_bd, Option.toList, List.cons_append, List.nil_append]
      rw [eX12_clocks_35]
      by_cases q : ckv (st 86) (Int32.ofNat m) x2 < 0
      · rw [if_pos q, if_pos q, eX12_clocks_46]
      · rw [if_neg q, if_neg q, eX12_clocks_45, eX12_clocks_46]
    · rw [if_neg h2, if_neg (fun z => h2 z.2), eX12_clocks_27]
      exact ⟨st, rfl, scr_refl st⟩
  · rw [if_neg (fun z => h1 (hi.mp z)), if_neg (fun z => h1 z.1), eX12_clocks_27]
    exact ⟨st, rfl, scr_refl st⟩
