/-! GUARDS; a cry asked for, and read -/
theorem s_isTowX (d : Nat) (st : zS) {s : Nat → Int32} (h0 : st 1 0 = s 0) (hs : s 0 = Int32.ofNat (tn s) ∧ tn s ≤ 9) (x : Int32) : m_evc (d + 1) 68 [.ref 1, .int x] (SH, st) = some (some (.int (bZ (gT s x))), (SH, st)) := by
  have e0 : (0 : Int32).toInt = 0 := rfl
  have e1 : (st 1 0).toInt = (tn s : Int) := by rw [h0, hs.1, n_int (by omega)]
  rw [cal_X9_isTower, eX9_isTower_0]
  unfold gT
  by_cases h1 : x < 0
  · rw [if_pos h1, eX9_isTower_16, eX9_isTower_17, if_pos (Or.inl rfl), bZ_f]
    rw [i_lt, e0] at h1
    omega
  · rw [if_neg h1]
    by_cases h2 : x < st 1 0
    · rw [if_pos h2, eX9_isTower_17, if_pos (Or.inr rfl), bZ_t]
      rw [i_lt, e0] at h1
      rw [i_lt, e1] at h2
      omega
    · rw [if_neg h2, eX9_isTower_16, eX9_isTower_17, if_pos (Or.inl rfl), bZ_f]
      rw [i_lt, e1] at h2
      omega
theorem s_isTX (d : Nat) (st : zS) (x : Int32) : m_evc (d + 1) 115 [.int x] (SH, st) = some (some (.int (bZ (TG x))), (SH, st)) := by
  have e0 : (0 : Int32).toInt = 0 := rfl
  have e1 : (1439 : Int32).toInt = 1439 := rfl
  rw [cal_X11_isT, eX11_isT_0]
  by_cases h1 : x < 0
  · rw [if_pos h1, eX11_isT_15, eX11_isT_16, if_pos (Or.inl rfl), bZ_f]
    rw [i_lt, e0] at h1
    intro z
    have := z.1
    omega
  · rw [if_neg h1]
    by_cases h2 : 1439 < x
    · rw [if_pos h2, eX11_isT_15, eX11_isT_16, if_pos (Or.inl rfl), bZ_f]
      rw [i_lt, e1] at h2
      intro z
      have := z.2
      omega
    · rw [if_neg h2, eX11_isT_16, if_pos (Or.inr rfl), bZ_t]
      rw [i_lt, e0] at h1
      rw [i_lt, e1] at h2
      exact ⟨by omega, by omega⟩
theorem s_isMinX (d : Nat) (st : zS) (x : Int32) : m_evc (d + 1) 116 [.int x] (SH, st) = some (some (.int (bZ (gR 0 9999 x))), (SH, st)) := by
  have e0 : (0 : Int32).toInt = 0 := rfl
  have e1 : (9999 : Int32).toInt = 9999 := rfl
  rw [cal_X11_isMinute, eX11_isMinute_0]
  by_cases h1 : x < 0
  · rw [if_pos h1, eX11_isMinute_15, eX11_isMinute_16, if_pos (Or.inl rfl), bZ_f]
    rw [i_lt, e0] at h1
    intro z
    have := z.1
    omega
  · rw [if_neg h1]
    by_cases h2 : 9999 < x
    · rw [if_pos h2, eX11_isMinute_15, eX11_isMinute_16, if_pos (Or.inl rfl), bZ_f]
      rw [i_lt, e1] at h2
      intro z
      have := z.2
      omega
    · rw [if_neg h2, eX11_isMinute_16, if_pos (Or.inr rfl), bZ_t]
      rw [i_lt, e0] at h1
      rw [i_lt, e1] at h2
      exact ⟨by omega, by omega⟩
theorem s_isBndX (d : Nat) (st : zS) (x : Int32) : m_evc (d + 1) 117 [.int x] (SH, st) = some (some (.int (bZ (gR 0 999 x))), (SH, st)) := by
  have e0 : (0 : Int32).toInt = 0 := rfl
  have e1 : (999 : Int32).toInt = 999 := rfl
  rw [cal_X11_isBound, eX11_isBound_0]
  by_cases h1 : x < 0
  · rw [if_pos h1, eX11_isBound_15, eX11_isBound_16, if_pos (Or.inl rfl), bZ_f]
    rw [i_lt, e0] at h1
    intro z
    have := z.1
    omega
  · rw [if_neg h1]
    by_cases h2 : 999 < x
    · rw [if_pos h2, eX11_isBound_15, eX11_isBound_16, if_pos (Or.inl rfl), bZ_f]
      rw [i_lt, e1] at h2
      intro z
      have := z.2
      omega
    · rw [if_neg h2, eX11_isBound_16, if_pos (Or.inr rfl), bZ_t]
      rw [i_lt, e0] at h1
      rw [i_lt, e1] at h2
      exact ⟨by omega, by omega⟩
theorem s_isTM (d : Nat) (st : zS) (x : Int32) : m_evc (d + 2) 158 [.int x] (SH, st) = some (some (.int (bZ (TG x))), (SH, st)) := by
  rw [cal_X12_isTime, eX12_isTime_0, s_inb]
  simp only [m_bd, Option.toList, List.cons_append, List.nil_append]
  rw [eX12_isTime_9, if_pos (of_eq_true (bZ_ok _))]
  rfl
theorem s_isTM0 (d : Nat) (st : zS) (hV : VN (st 86)) (x : Int32) : m_evc (d + 2) 156 [.ref 85, .int x] (SH, st) = some (some (.int (bZ (gT (st 86) x))), (SH, st)) := s_isTowM d st hV.1.1 hV.1.2 x
theorem s_isCry (d : Nat) (st : zS) {s : Nat → Int32} (h0 : st 1 0 = s 0) (hs : s 0 = Int32.ofNat (tn s) ∧ tn s ≤ 9) (x t : Int32) : m_evc (d + 2) 118 [.ref 0, .int x, .int t] (SH, st) = some (some (.int (bZ (gT s x ∧ TG t))), (SH, st)) := by
  rw [cal_X11_isCry, eX11_isCry_0, s_isTowX _ st h0 hs]
  simp only [m_bd, Option.toList, List.cons_append, List.nil_append]
  rw [eX11_isCry_8, bZ_if]
  by_cases h1 : gT s x
  · rw [if_pos h1, s_isTX]
    simp only [m_bd, Option.toList, List.cons_append, List.nil_append]
    rw [eX11_isCry_15, bZ_if]
    by_cases h2 : TG t
    · rw [if_pos h2, eX11_isCry_23, if_pos (Or.inr rfl), bZ_t ⟨h1, h2⟩]
    · rw [if_neg h2, eX11_isCry_22, eX11_isCry_23, if_pos (Or.inl rfl), bZ_f (fun z => h2 z.2)]
  · rw [if_neg h1, eX11_isCry_22, eX11_isCry_23, if_pos (Or.inl rfl), bZ_f (fun z => h1 z.1)]
theorem s_isAsk (d : Nat) (st : zS) (hV : VN (st 86)) (x t y : Int32) : m_evc (d + 3) 187 [.ref 85, .int x, .int t, .int y] (SH, st) = some (some (.int (bZ (gT (st 86) x ∧ TG t ∧ gT (st 86) y))), (SH, st)) := by
  rw [cal_X12_isAsk, eX12_isAsk_0, s_isTM0 _ st hV]
  simp only [m_bd, Option.toList, List.cons_append, List.nil_append]
  rw [eX12_isAsk_5, bZ_if]
  by_cases h1 : gT (st 86) x
  · rw [if_pos h1, s_isTM]
    simp only [m_bd, Option.toList, List.cons_append, List.nil_append]
    rw [eX12_isAsk_12, bZ_if]
    by_cases h2 : TG t
    · rw [if_pos h2, s_isTM0 _ st hV]
      simp only [m_bd, Option.toList, List.cons_append, List.nil_append]
      rw [eX12_isAsk_20, bZ_if]
      by_cases h3 : gT (st 86) y
      · rw [if_pos h3, eX12_isAsk_28, if_pos (Or.inr rfl), bZ_t ⟨h1, h2, h3⟩]
      · rw [if_neg h3, eX12_isAsk_27, eX12_isAsk_28, if_pos (Or.inl rfl), bZ_f (fun z => h3 z.2.2)]
    · rw [if_neg h2, eX12_isAsk_27, eX12_isAsk_28, if_pos (Or.inl rfl), bZ_f (fun z => h2 z.2.1)]
  · rw [if_neg h1, eX12_isAsk_27, eX12_isAsk_28, if_pos (Or.inl rfl), bZ_f (fun z => h1 z.1)]
/-- where a cry comes, as rows of numbers tell it -/
def rp (z : Int32) (cm hd : Nat → Int32) (f : Nat → cH) (n : Nat) : Prop := ∀ k, k < n → rep1 z cm hd (f k) k
def fb (f : Nat → cH) (n : Nat) : Prop := ∀ k, k < n → ∀ c h, f k = some (c, h) → 0 ≤ c.toInt
theorem fb_bth {s : Nat → Int32} (hV : VN s) {fm : Nat} (hf : fm < tn s) {t : Int32} (ht : TG t) : fb (bth s fm t) (tn s) := fun k hk c h e => by
  have := bth_b hV hf ht hk e
  have := ht.1
  omega
theorem fb_wst {s : Nat → Int32} (hV : VN s) {b q : Nat → Bool} {t : Int32} (ht : TG t) : fb (wst s b q t) (tn s) := fun k hk c h e => by
  have := wst_b hV ht k hk c h e
  have := ht.1
  omega
theorem s_cryB (d : Nat) (st : zS) {s : Nat → Int32} (hN : CN st s) (hV : VN s) (h7 : st 1 7 = s 2) {t : Int32} (ht : TG t) {fm : Nat} (hf : fm < tn s) : RT (m_evc (d + 7) 120 [.ref 0, .int (Int32.ofNat fm), .int t] (SH, st)) none (fun st' => fr [17, 44, 45, 46, 47, 48] st st' ∧ ya_D st' s ∧ rp (-9) (st' 47) (st' 48) (bth s fm t) (tn s)) := by
  have hd := hV.2.2.2.1
  obtain ⟨st1, e1, f1, D1⟩ := ya_takeD d st hN hV hd.2
  rw [sd_self hd] at D1
  obtain ⟨st2, e2, f2, D2, r2⟩ := ya_goBoth (d + 2) st1 D1 ht hf
  refine ⟨st2, ?_, fr_mono (fr_tr f1 f2) (by decide), D2, r2⟩
  rw [cal_X11_cryBothWays, eX11_cryBothWays_0, h7, hd.1, e1]
  simp only [m_bd, Option.toList, List.cons_append, List.nil_append]
  rw [eX11_cryBothWays_14, e2]
  simp only [m_bd, Option.toList, List.cons_append, List.nil_append]
  rw [eX11_cryBothWays_23]
theorem s_cryO (d : Nat) (st : zS) {s : Nat → Int32} (hN : CN st s) (hV : VN s) (h7 : st 1 7 = s 2) {t : Int32} (ht : TG t) {fm : Nat} (hf : fm < tn s) (w : Int32) : RT (m_evc (d + 7) 121 [.ref 0, .int (Int32.ofNat fm), .int t, .int w] (SH, st)) none (fun st' => fr [17, 44, 45, 46, 47, 48] st st' ∧ ya_D st' s ∧ rp (-9) (st' 47) (st' 48) (fun k => if w = 0 then eas s fm t k else wes s fm t k) (tn s)) := by
  have hd := hV.2.2.2.1
  obtain ⟨st1, e1, f1, D1⟩ := ya_takeD d st hN hV hd.2
  rw [sd_self hd] at D1
  obtain ⟨st2, e2, f2, D2, r2⟩ := ya_goOne (d + 2) st1 D1 ht hf w
  refine ⟨st2, ?_, fr_mono (fr_tr f1 f2) (by decide), D2, r2⟩
  rw [cal_X11_cryOneWay, eX11_cryOneWay_0, h7, hd.1, e1]
  simp only [m_bd, Option.toList, List.cons_append, List.nil_append]
  rw [eX11_cryOneWay_14, e2]
  simp only [m_bd, Option.toList, List.cons_append, List.nil_append]
  rw [eX11_cryOneWay_24]
def ab1 (x : Int32) : Int32 := if x < 0 then 0 - x else x
theorem ab1_X (x : Int32) : (if 0 ≤ x then x else 0 - x) = ab1 x := by
  unfold ab1
  by_cases h : x < 0
  · rw [if_pos h, if_neg (Int32.not_le.mpr h)]
  · rw [if_neg h, if_pos (Int32.not_lt.mp h)]
theorem rp_none {cm hd : Nat → Int32} {f : Nat → cH} {n k : Nat} (r : rp (-9) cm hd f n) (hb : fb f n) (hk : k < n) : (¬ cm k = -9) ↔ (f k).isSome = true := by
  have h := r k hk
  cases e : f k with
  | none => rw [e] at h; have : cm k = -9 := h; simp [this]
  | some ch =>
    obtain ⟨c, g⟩ := ch
    rw [e] at h
    have h1 := hb k hk c g e
    rw [h.1]
    simp [c_m9 h1]
theorem rp_neg {cm hd : Nat → Int32} {f : Nat → cH} {n k : Nat} (r : rp (-1) cm hd f n) (hb : fb f n) (hk : k < n) : (cm k < 0) ↔ f k = none := by
  have h := r k hk
  cases e : f k with
  | none => rw [e] at h; have : cm k = -1 := h; rw [this]; exact ⟨fun _ => rfl, fun _ => n_neg1⟩
  | some ch =>
    obtain ⟨c, g⟩ := ch
    rw [e] at h
    have h1 := hb k hk c g e
    rw [h.1]
    exact ⟨fun z => absurd z (c_n0 h1), fun z => by cases z⟩
theorem rp_at {z : Int32} {cm hd : Nat → Int32} {f : Nat → cH} {n k : Nat} {c g : Int32} (r : rp z cm hd f n) (hk : k < n) (e : f k = some (c, g)) : cm k = c ∧ hd k = g := by
  have h := r k hk
  rw [e] at h; exact h
theorem ya_rch (d : Nat) (st : zS) {f : Nat → cH} {n k : Nat} (r : rp (-9) (st 47) (st 48) f n) (hb : fb f n) (hk : k < n) (hn : n ≤ 9) : m_evc (d + 1) 10 [.ref 44, .int (Int32.ofNat k)] (SH, st) = some (some (.int (bZ ((f k).isSome = true))), (SH, st)) := by
  rw [ya_reaches d st (by omega), bZ_c (rp_none r hb hk)]
theorem yb_rch (d : Nat) (st : zS) {f : Nat → cH} {n k : Nat} (r : rp (-9) (st 52) (st 53) f n) (hb : fb f n) (hk : k < n) (hn : n ≤ 9) : m_evc (d + 1) 10 [.ref 49, .int (Int32.ofNat k)] (SH, st) = some (some (.int (bZ ((f k).isSome = true))), (SH, st)) := by
  rw [yb_reaches d st (by omega), bZ_c (rp_none r hb hk)]
theorem ya_off (d : Nat) (st : zS) {f : Nat → cH} {n k : Nat} {c g : Int32} (r : rp (-9) (st 47) (st 48) f n) (hk : k < n) (hn : n ≤ 9) (e : f k = some (c, g)) : m_evc (d + 1) 12 [.ref 44, .int (Int32.ofNat k)] (SH, st) = some (some (.int (g - c)), (SH, st)) := by
  obtain ⟨h1, h2⟩ := rp_at r hk e
  rw [cal_X0_offOf, eX0_offOf_0, ix_9 (show k < 9 by omega)]
  simp only [m_ob]
  rw [h1, h2]
theorem ya_dist (d : Nat) (st : zS) {f : Nat → cH} {n k : Nat} {c g : Int32} (r : rp (-9) (st 47) (st 48) f n) (hk : k < n) (hn : n ≤ 9) (e : f k = some (c, g)) : m_evc (d + 2) 13 [.ref 44, .int (Int32.ofNat k)] (SH, st) = some (some (.int (ab1 (g - c))), (SH, st)) := by
  rw [cal_X0_distanceOf, eX0_distanceOf_0, ya_off _ st r hk hn e]
  simp only [m_bd, Option.toList, List.cons_append, List.nil_append]
  rw [eX0_distanceOf_5, ab1_X]
theorem ya_noon (d : Nat) (st : zS) {f : Nat → cH} {n k : Nat} {c g : Int32} (r : rp (-9) (st 47) (st 48) f n) (hk : k < n) (hn : n ≤ 9) (e : f k = some (c, g)) : m_evc (d + 1) 15 [.ref 44, .int (Int32.ofNat k)] (SH, st) = some (some (.int (c + 720 - g)), (SH, st)) := by
  obtain ⟨h1, h2⟩ := rp_at r hk e
  rw [cal_X0_noonOf, eX0_noonOf_0, ix_9 (show k < 9 by omega)]
  simp only [m_ob]
  rw [h1, h2]
theorem m_off (d : Nat) (st : zS) {f : Nat → cH} {n k : Nat} {c g : Int32} (r : rp (-1) (st 90) (st 91) f n) (hk : k < n) (hn : n ≤ 9) (e : f k = some (c, g)) : m_evc (d + 1) 182 [.ref 85, .int (Int32.ofNat k)] (SH, st) = some (some (.int (g - c)), (SH, st)) := by
  obtain ⟨h1, h2⟩ := rp_at r hk e
  rw [cal_X12_offOf, eX12_offOf_0, ix_9 (show k < 9 by omega)]
  simp only [m_ob]
  rw [h1, h2]
theorem m_noon (d : Nat) (st : zS) {f : Nat → cH} {n k : Nat} {c g : Int32} (r : rp (-1) (st 90) (st 91) f n) (hk : k < n) (hn : n ≤ 9) (e : f k = some (c, g)) : m_evc (d + 1) 201 [.ref 85, .int (Int32.ofNat k)] (SH, st) = some (some (.int (c + 720 - g)), (SH, st)) := by
  obtain ⟨h1, h2⟩ := rp_at r hk e
  rw [cal_X12_noonOf, eX12_noonOf_0, ix_9 (show k < 9 by omega)]
  simp only [m_ob]
  rw [h1, h2]
theorem m_size (d : Nat) (st : zS) (x : Int32) : m_evc (d + 1) 160 [.int x] (SH, st) = some (some (.int (ab1 x)), (SH, st)) := by
  rw [cal_X12_size, eX12_size_0]
  unfold ab1
  by_cases h : x < 0
  · rw [if_pos h, if_pos h, eX12_size_11]
  · rw [if_neg h, if_neg h, eX12_size_10, eX12_size_11]
/-- sums over towers -/
def cntF (f : Nat → cH) (j : Nat) (a : Int32) : Int32 := match f j with
  | none => a
  | some _ => a + 1
def sumF (f : Nat → cH) (j : Nat) (a : Int32) : Int32 := match f j with
  | none => a
  | some (c, g) => a + ab1 (g - c)
theorem ya_cnt (d : Nat) (st : zS) {f : Nat → cH} {n : Nat} (h0 : st 1 0 = Int32.ofNat n) (hn : n ≤ 9) (r : rp (-9) (st 47) (st 48) f n) (hb : fb f n) : m_evc (d + 2) 11 [.ref 44] (SH, st) = some (some (.int (lp (cntF f) n 0 0)), (SH, st)) := by
  have L := lp_ev (fun j (a : Int32) => m_ev none (d + 1) 11 4 [some (.ref 44), some (.int a), some (.int (Int32.ofNat j))] [] (SH, st)) (cntF f) n (fun a => some (some (.int a), (SH, st))) ?_ ?_ n 0 0 (by omega)
  · rw [cal_X0_reached, eX0_reached_0]
    exact L
  · intro j a hj
    rw [eX0_reached_4, h0, if_pos (by rw [n_lt (by omega) (by omega)]; exact hj), ya_rch _ st r hb hj hn]
    simp only [m_bd, Option.toList, List.cons_append, List.nil_append]
    rw [eX0_reached_20, bZ_if]
    unfold cntF
    cases f j with
    | none => rw [if_neg (by simp), eX0_reached_26, n_succ]
    | some ch => rw [if_pos (show (some ch).isSome = true from rfl), eX0_reached_26, n_succ]
  · intro a
    rw [eX0_reached_4, h0, if_neg (by rw [n_lt (by omega) (by omega)]; omega), eX0_reached_32]
theorem ya_sum (d : Nat) (st : zS) {f : Nat → cH} {n : Nat} (h0 : st 1 0 = Int32.ofNat n) (hn : n ≤ 9) (r : rp (-9) (st 47) (st 48) f n) (hb : fb f n) : m_evc (d + 3) 14 [.ref 44] (SH, st) = some (some (.int (lp (sumF f) n 0 0)), (SH, st)) := by
  have L := lp_ev (fun j (a : Int32) => m_ev none (d + 2) 14 4 [some (.ref 44), some (.int a), some (.int (Int32.ofNat j))] [] (SH, st)) (sumF f) n (fun a => some (some (.int a), (SH, st))) ?_ ?_ n 0 0 (by omega)
  · rw [cal_X0_sumOfDistances, eX0_sumOfDistances_0]
    exact L
  · intro j a hj
    rw [eX0_sumOfDistances_4, h0, if_pos (by rw [n_lt (by omega) (by omega)]; exact hj), ya_rch _ st r hb hj hn]
    simp only [m_bd, Option.toList, List.cons_append, List.nil_append]
    rw [eX0_sumOfDistances_20, bZ_if]
    unfold sumF
    cases e : f j with
    | none => rw [if_neg (by simp), eX0_sumOfDistances_31, n_succ]
    | some ch =>
      obtain ⟨c, g⟩ := ch
      rw [if_pos (show (some (c, g)).isSome = true from rfl), ya_dist _ st r hj hn e]
      simp only [m_bd, Option.toList, List.cons_append, List.nil_append]
      rw [eX0_sumOfDistances_29, eX0_sumOfDistances_31, n_succ]
  · intro a
    rw [eX0_sumOfDistances_4, h0, if_neg (by rw [n_lt (by omega) (by omega)]; omega), eX0_sumOfDistances_37]
theorem m_cnt (d : Nat) (st : zS) {f : Nat → cH} {n : Nat} (h0 : st 86 0 = Int32.ofNat n) (hn : n ≤ 9) (r : rp (-1) (st 90) (st 91) f n) (hb : fb f n) : m_evc (d + 1) 181 [.ref 85] (SH, st) = some (some (.int (lp (cntF f) n 0 0)), (SH, st)) := by
  have L := lp_ev (fun j (a : Int32) => m_ev none d 181 4 [some (.ref 85), some (.int a), some (.int (Int32.ofNat j))] [] (SH, st)) (cntF f) n (fun a => some (some (.int a), (SH, st))) ?_ ?_ n 0 0 (by omega)
  · rw [cal_X12_comers, eX12_comers_0]
    exact L
  · intro j a hj
    rw [eX12_comers_4, h0, if_pos (by rw [n_lt (by omega) (by omega)]; exact hj), ix_9 (show j < 9 by omega)]
    simp only [m_ob]
    have q := rp_neg r hb hj
    unfold cntF
    cases e : f j with
    | none => rw [if_pos (q.mpr e), eX12_comers_29, n_succ, Int32.add_zero]
    | some ch => rw [if_neg (fun z => by rw [q.mp z] at e; cases e), eX12_comers_28, eX12_comers_29, n_succ]
  · intro a
    rw [eX12_comers_4, h0, if_neg (by rw [n_lt (by omega) (by omega)]; omega), eX12_comers_37]
theorem m_sum (d : Nat) (st : zS) {f : Nat → cH} {n : Nat} (h0 : st 86 0 = Int32.ofNat n) (hn : n ≤ 9) (r : rp (-1) (st 90) (st 91) f n) (hb : fb f n) : m_evc (d + 2) 205 [.ref 85] (SH, st) = some (some (.int (lp (sumF f) n 0 0)), (SH, st)) := by
  have L := lp_ev (fun j (a : Int32) => m_ev none (d + 1) 205 4 [some (.ref 85), some (.int a), some (.int (Int32.ofNat j))] [] (SH, st)) (sumF f) n (fun a => some (some (.int a), (SH, st))) ?_ ?_ n 0 0 (by omega)
  · rw [cal_X12_offs, eX12_offs_0]
    exact L
  · intro j a hj
    rw [eX12_offs_4, h0, if_pos (by rw [n_lt (by omega) (by omega)]; exact hj), ix_9 (show j < 9 by omega)]
    simp only [m_ob]
    have q := rp_neg r hb hj
    unfold sumF
    cases e : f j with
    | none => rw [if_pos (q.mpr e), eX12_offs_36, n_succ, Int32.add_zero]
    | some ch =>
      obtain ⟨c, g⟩ := ch
      rw [if_neg (fun z => by rw [q.mp z] at e; cases e), eX12_offs_28, m_off _ st r hj hn e]
      simp only [m_bd, Option.toList, List.cons_append, List.nil_append]
      rw [eX12_offs_33, m_size]
      simp only [m_bd, Option.toList, List.cons_append, List.nil_append]
      rw [eX12_offs_36, n_succ]
  · intro a
    rw [eX12_offs_4, h0, if_neg (by rw [n_lt (by omega) (by omega)]; omega), eX12_offs_44]
