/-! BOUNDS of what is added and held; rows with one number changed -/
theorem i_mulb {a b : Int32} (h : -1000000 ≤ a.toInt * b.toInt ∧ a.toInt * b.toInt ≤ 1000000) : (a * b).toInt = a.toInt * b.toInt := by
  rw [Int32.toInt_mul]
  apply Int.bmod_eq_of_le <;> omega
theorem i_subb {a b : Int32} (h : -2000000000 ≤ a.toInt - b.toInt ∧ a.toInt - b.toInt ≤ 2000000000) : (a - b).toInt = a.toInt - b.toInt := by
  rw [Int32.toInt_sub]
  apply Int.bmod_eq_of_le <;> omega
theorem ab_b {s : Nat → Int32} (hV : VN s) (hB : NB s) {k : Nat} (hk : k < tn s) : 0 ≤ (ab s k (rof s k)).toInt ∧ (ab s k (rof s k)).toInt ≤ 1980 := by
  obtain ⟨_, ⟨a1, a2⟩, _, ⟨m1, m2⟩⟩ := hV.2.1 k hk
  cases ho : rof s k with
  | none =>
    rw [show ab s k none = s (13 + 6 * k) from rfl]
    exact ⟨a1, by omega⟩
  | some r =>
    obtain ⟨n1, n2⟩ := hB r (rof_lt ho)
    rw [show ab s k (some r) = if s (79 + 4 * r) = 0 then s (80 + 4 * r) else if s (79 + 4 * r) = 1 then s (13 + 6 * k) + s (80 + 4 * r) else if s (79 + 4 * r) = 2 then s (80 + 4 * r) * s (15 + 6 * k) else s (13 + 6 * k) from rfl]
    split
    · omega
    split
    · rw [x_add (by omega)]; omega
    split
    · have h1 : 0 * 1 ≤ (s (80 + 4 * r)).toInt * (s (15 + 6 * k)).toInt := Int.mul_le_mul n1 m1 (by omega) (by omega)
      have h2 : (s (80 + 4 * r)).toInt * (s (15 + 6 * k)).toInt ≤ 99 * 20 := Int.mul_le_mul n2 m2 (by omega) (by omega)
      rw [i_mulb (by omega)]; omega
    · omega
theorem ads_bd {s : Nat → Int32} (hV : VN s) (hB : NB s) {k : Nat} (hk : k < tn s) : 0 ≤ (ads s k).toInt ∧ (ads s k).toInt ≤ 4000 := by
  obtain ⟨a1, a2⟩ := ab_b hV hB hk
  obtain ⟨_, _, ⟨d1, d2⟩, _⟩ := hV.2.1 k hk
  unfold ads aw
  have e2 : (2 : Int32).toInt = 2 := rfl
  have h2 : (2 * ab s k (rof s k)).toInt = 2 * (ab s k (rof s k)).toInt := by
    rw [i_mulb (by rw [e2]; omega), e2]
  have e10 : (10 : Int32).toInt = 10 := rfl
  split
  · omega
  split
  · split
    · rw [x_add (by omega)]; omega
    · rw [x_add (by rw [t_0]; omega), t_0]; omega
  split
  · rw [x_add (by omega)]; omega
  · omega
theorem wst_hb {s : Nat → Int32} (hV : VN s) (hB : NB s) {b q : Nat → Bool} {t : Int32} (ht : TG t) : ∀ k, k < tn s → ∀ c h, wst s b q t k = some (c, h) → 0 ≤ h.toInt ∧ h.toInt ≤ 1439 + 4000 * k
  | 0, _, c, h, e => by
    have h1 := ht.1
    have h2 := ht.2
    unfold wst at e
    split at e
    · cases e; omega
    · cases e
  | k + 1, hk, c, h, e => by
    have h1 := ht.1
    have h2 := ht.2
    unfold wst at e
    split at e
    · cases e; omega
    · split at e
      · cases e
      · rename_i c0 h0 e0
        obtain ⟨b1, b2⟩ := wst_hb hV hB ht k (by omega) c0 h0 e0
        obtain ⟨g1, g2⟩ := ads_bd hV hB hk
        have h9 := hV.1.2
        split at e
        · cases e
        · have e := arr_some e
          rw [← e.2.1, x_add (by omega)]
          omega
theorem est_hb {s : Nat → Int32} (hV : VN s) (hB : NB s) {fm : Nat} (hf : fm < tn s) {t : Int32} (ht : TG t) : ∀ j, j ≤ fm → ∀ c h, est s fm t j = some (c, h) → 0 ≤ h.toInt ∧ h.toInt ≤ 1439 + 4000 * j
  | 0, _, c, h, e => by
    have h1 := ht.1
    have h2 := ht.2
    unfold est at e
    cases e; omega
  | j + 1, hj, c, h, e => by
    have h1 := ht.1
    have h2 := ht.2
    unfold est at e
    split at e
    · cases e
    · rename_i c0 h0 e0
      obtain ⟨b1, b2⟩ := est_hb hV hB hf ht j (by omega) c0 h0 e0
      obtain ⟨g1, g2⟩ := ads_bd hV hB (show fm - j - 1 < tn s by omega)
      have h9 := hV.1.2
      split at e
      · cases e
      · have e := arr_some e
        rw [← e.2.1, x_add (by omega)]
        omega
theorem bth_db {s : Nat → Int32} (hV : VN s) (hB : NB s) {fm : Nat} (hf : fm < tn s) {t : Int32} (ht : TG t) {k : Nat} (hk : k < tn s) {c h : Int32} (e : bth s fm t k = some (c, h)) : 0 ≤ (ab1 (h - c)).toInt ∧ (ab1 (h - c)).toInt ≤ 50000 := by
  have h9 := hV.1.2
  obtain ⟨c1, c2⟩ := bth_b hV hf ht hk e
  have t1 := ht.1
  have hh : 0 ≤ h.toInt ∧ h.toInt ≤ 1439 + 4000 * 9 := by
    unfold bth at e
    split at e
    · have := wst_hb hV hB ht k hk c h e; omega
    · unfold eas at e
      split at e
      · have := est_hb hV hB hf ht (fm - k) (by omega) c h e; omega
      · cases e
  have e1 : (h - c).toInt = h.toInt - c.toInt := i_subb (by omega)
  unfold ab1
  split
  · rename_i q
    rw [i_lt, t_0, e1] at q
    rw [i_subb (by rw [t_0]; omega), t_0, e1]; omega
  · rename_i q
    rw [i_lt, t_0, e1] at q
    rw [e1]; omega
theorem NB_sd {s : Nat → Int32} (h : NB s) (dd : Nat) : NB (sd s dd) := fun r hr => by
  rw [sd_ne (show 80 + 4 * r ≠ 2 by omega)]
  exact h r hr
def chg (s : Nat → Int32) (p : Nat) (v : Int32) : Nat → Int32 := fun j => if j = p then v else s j
theorem chg_ne {s : Nat → Int32} {p j : Nat} {v : Int32} (h : j ≠ p) : chg s p v j = s j := if_neg h
theorem chg_at (s : Nat → Int32) (p : Nat) (v : Int32) : chg s p v p = v := if_pos rfl
theorem chg_up (st : zS) (p : Nat) (v : Int32) : m_up st 86 p v 86 = chg (st 86) p v := by
  funext j; simp [m_up, chg]
theorem chg_back {s : Nat → Int32} {p : Nat} {v w : Int32} (h : w = s p) : chg (chg s p v) p w = s := by
  funext j
  unfold chg
  split
  · rename_i e; subst e; exact h
  · rfl
theorem VN_of {s s' : Nat → Int32} (h : VN s) (h0 : s' 0 = s 0) (h2 : s' 2 = s 2) (h4 : s' 4 = s 4) (h78 : ∀ j, 78 ≤ j → s j = s' j) (hT : ∀ k, k < tn s → (1 ≤ (s' (12 + 6 * k)).toInt ∧ (s' (12 + 6 * k)).toInt ≤ 5) ∧ (0 ≤ (s' (13 + 6 * k)).toInt ∧ (s' (13 + 6 * k)).toInt ≤ 99) ∧ (0 ≤ (s' (14 + 6 * k)).toInt ∧ (s' (14 + 6 * k)).toInt ≤ 9) ∧ (1 ≤ (s' (15 + 6 * k)).toInt ∧ (s' (15 + 6 * k)).toInt ≤ 20)) (hW : ∀ j, j < 7 → -3 ≤ (s' (5 + j)).toInt ∧ (s' (5 + j)).toInt ≤ 3) : VN s' := by
  obtain ⟨a, b, c, e, g⟩ := h
  have et : tn s' = tn s := by unfold tn; rw [h0]
  refine ⟨?_, ?_, hW, ?_, RG_cs h78 h4.symm g⟩
  · rw [et, h0]; exact a
  · rw [et]; exact hT
  · unfold DG; rw [h2]; exact e
theorem VN_kind {s : Nat → Int32} (h : VN s) (k : Nat) {v : Int32} (hv : 1 ≤ v.toInt ∧ v.toInt ≤ 5) (hk : k < 9) : VN (chg s (12 + 6 * k) v) := by
  refine VN_of h (chg_ne (by omega)) (chg_ne (by omega)) (chg_ne (by omega)) (fun j hj => (chg_ne (by omega)).symm) (fun i hi => ?_) (fun j hj => ?_)
  · obtain ⟨a, b, c, e⟩ := h.2.1 i hi
    rw [chg_ne (show 13 + 6 * i ≠ 12 + 6 * k by omega), chg_ne (show 14 + 6 * i ≠ 12 + 6 * k by omega), chg_ne (show 15 + 6 * i ≠ 12 + 6 * k by omega)]
    refine ⟨?_, b, c, e⟩
    by_cases q : i = k
    · subst q; rw [chg_at]; exact hv
    · rw [chg_ne (by omega)]; exact a
  · rw [chg_ne (by omega)]; exact h.2.2.1 j hj
theorem VN_add {s : Nat → Int32} (h : VN s) (k : Nat) {v : Int32} (hv : 0 ≤ v.toInt ∧ v.toInt ≤ 99) (hk : k < 9) : VN (chg s (13 + 6 * k) v) := by
  refine VN_of h (chg_ne (by omega)) (chg_ne (by omega)) (chg_ne (by omega)) (fun j hj => (chg_ne (by omega)).symm) (fun i hi => ?_) (fun j hj => ?_)
  · obtain ⟨a, b, c, e⟩ := h.2.1 i hi
    rw [chg_ne (show 12 + 6 * i ≠ 13 + 6 * k by omega), chg_ne (show 14 + 6 * i ≠ 13 + 6 * k by omega), chg_ne (show 15 + 6 * i ≠ 13 + 6 * k by omega)]
    refine ⟨a, ?_, c, e⟩
    by_cases q : i = k
    · subst q; rw [chg_at]; exact hv
    · rw [chg_ne (by omega)]; exact b
  · rw [chg_ne (by omega)]; exact h.2.2.1 j hj
theorem VN_wind {s : Nat → Int32} (h : VN s) {d : Nat} (hd : d < 7) {v : Int32} (hv : -3 ≤ v.toInt ∧ v.toInt ≤ 3) : VN (chg s (5 + d) v) := by
  refine VN_of h (chg_ne (by omega)) (chg_ne (by omega)) (chg_ne (by omega)) (fun j hj => (chg_ne (by omega)).symm) (fun i hi => ?_) (fun j hj => ?_)
  · rw [chg_ne (by omega), chg_ne (by omega), chg_ne (by omega), chg_ne (by omega)]
    exact h.2.1 i hi
  · by_cases q : j = d
    · subst q; rw [chg_at]; exact hv
    · rw [chg_ne (by omega)]; exact h.2.2.1 j hj
theorem NB_chg {s : Nat → Int32} (h : NB s) {p : Nat} (hp : p < 78) (h4 : p ≠ 4) (v : Int32) : NB (chg s p v) := fun r hr => by
  rw [chg_ne (by omega)] at hr ⊢
  exact h r hr
theorem tn_chg {s : Nat → Int32} {p : Nat} (hp : p ≠ 0) (v : Int32) : tn (chg s p v) = tn s := by
  unfold tn; rw [chg_ne (by omega)]
/-- CN of another state and row -/
theorem CN_mk {st st' : zS} {s s' : Nat → Int32} (h : CN st s) (hV : VN s') (h9 : ∀ i, 9 ≤ i → i ≤ 14 → st' i = st i) (e0 : st' 1 0 = st 1 0) (h0 : s' 0 = s 0) (h4 : s' 4 = s 4) (h78 : ∀ j, 78 ≤ j → s j = s' j) (hT : ∀ k, k < tn s → st' 2 k = s' (12 + 6 * k) ∧ st' 3 k = s' (13 + 6 * k) ∧ st' 4 k = s' (14 + 6 * k) ∧ st' 5 k = s' (15 + 6 * k)) (hW : ∀ j, j < 7 → st' 8 j = s' (5 + j)) : CN st' s' := by
  have et : tn s' = tn s := by unfold tn; rw [h0]
  refine ⟨?_, ?_, hV.1, ?_, hW, hV.2.1, hV.2.2.1⟩
  · exact CBr_cs h78 h4.symm (CB_eq h.1 (h9 9 (by omega) (by omega)) (h9 10 (by omega) (by omega)) (h9 11 (by omega) (by omega)) (h9 12 (by omega) (by omega)) (h9 13 (by omega) (by omega)) (h9 14 (by omega) (by omega)))
  · rw [e0, h0]; exact h.2.1
  · rw [et]; exact hT
theorem CN_kind {a : zS} {s : Nat → Int32} (h : CN a s) (hV : VN s) {k : Nat} (hk : k < 9) {v : Int32} (hv : 1 ≤ v.toInt ∧ v.toInt ≤ 5) : CN (m_up a 2 k v) (chg s (12 + 6 * k) v) := by
  refine CN_mk h (VN_kind hV k hv hk) (fun i h1 h2 => up_ne (by omega)) (by rw [up_ne (by decide)]) (chg_ne (by omega)) (chg_ne (by omega)) (fun j hj => (chg_ne (by omega)).symm) (fun i hi => ?_) (fun j hj => ?_)
  · obtain ⟨p1, p2, p3, p4⟩ := h.2.2.2.1 i hi
    rw [up_ne (show 3 ≠ 2 by decide), up_ne (show 4 ≠ 2 by decide), up_ne (show 5 ≠ 2 by decide), chg_ne (show 13 + 6 * i ≠ 12 + 6 * k by omega), chg_ne (show 14 + 6 * i ≠ 12 + 6 * k by omega), chg_ne (show 15 + 6 * i ≠ 12 + 6 * k by omega)]
    refine ⟨?_, p2, p3, p4⟩
    by_cases q : i = k
    · subst q; rw [chg_at, up_in]
    · rw [chg_ne (by omega), up_nj q]; exact p1
  · rw [up_ne (by decide), chg_ne (by omega)]; exact h.2.2.2.2.1 j hj
theorem CN_add {a : zS} {s : Nat → Int32} (h : CN a s) (hV : VN s) {k : Nat} (hk : k < 9) {v : Int32} (hv : 0 ≤ v.toInt ∧ v.toInt ≤ 99) : CN (m_up a 3 k v) (chg s (13 + 6 * k) v) := by
  refine CN_mk h (VN_add hV k hv hk) (fun i h1 h2 => up_ne (by omega)) (by rw [up_ne (by decide)]) (chg_ne (by omega)) (chg_ne (by omega)) (fun j hj => (chg_ne (by omega)).symm) (fun i hi => ?_) (fun j hj => ?_)
  · obtain ⟨p1, p2, p3, p4⟩ := h.2.2.2.1 i hi
    rw [up_ne (show 2 ≠ 3 by decide), up_ne (show 4 ≠ 3 by decide), up_ne (show 5 ≠ 3 by decide), chg_ne (show 12 + 6 * i ≠ 13 + 6 * k by omega), chg_ne (show 14 + 6 * i ≠ 13 + 6 * k by omega), chg_ne (show 15 + 6 * i ≠ 13 + 6 * k by omega)]
    refine ⟨p1, ?_, p3, p4⟩
    by_cases q : i = k
    · subst q; rw [chg_at, up_in]
    · rw [chg_ne (by omega), up_nj q]; exact p2
  · rw [up_ne (by decide), chg_ne (by omega)]; exact h.2.2.2.2.1 j hj
theorem CN_wind {a : zS} {s : Nat → Int32} (h : CN a s) (hV : VN s) {d : Nat} (hd : d < 7) {v : Int32} (hv : -3 ≤ v.toInt ∧ v.toInt ≤ 3) : CN (m_up a 8 d v) (chg s (5 + d) v) := by
  refine CN_mk h (VN_wind hV hd hv) (fun i h1 h2 => up_ne (by omega)) (by rw [up_ne (by decide)]) (chg_ne (by omega)) (chg_ne (by omega)) (fun j hj => (chg_ne (by omega)).symm) (fun i hi => ?_) (fun j hj => ?_)
  · rw [up_ne (by decide), up_ne (by decide), up_ne (by decide), up_ne (by decide), chg_ne (by omega), chg_ne (by omega), chg_ne (by omega), chg_ne (by omega)]
    exact h.2.2.2.1 i hi
  · by_cases q : j = d
    · subst q; rw [chg_at, up_in]
    · rw [chg_ne (by omega), up_nj q]; exact h.2.2.2.2.1 j hj
/-- nothing but the cry's own numbers, and the model's row -/
def fM6 (st st' : zS) : Prop := fr [85, 86, 89, 90, 91] st st' ∧ ∀ j, j ≠ 5 → j ≠ 6 → st' 85 j = st 85 j
theorem fM6_refl (st : zS) : fM6 st st := ⟨fr_refl _ _, fun _ _ _ => rfl⟩
theorem fM6_tr {a b c : zS} (h : fM6 a b) (g : fM b c) : fM6 a c := ⟨fr_mono (fr_tr h.1 g.1) (by decide), fun j h5 h6 => by rw [g.2 j h5 h6, h.2 j h5 h6]⟩
theorem fM6_up {a b : zS} (h : fM6 a b) (p : Nat) (v : Int32) : fM6 a (m_up b 86 p v) := ⟨fr_up h.1 rfl, fun j h5 h6 => by rw [up_ne (by decide), h.2 j h5 h6]⟩
theorem fM6_end {a b : zS} (h : fM6 a b) (e : b 86 = a 86) : scr a b := by
  refine ⟨fun i hi => ?_, h.2 3 (by decide) (by decide), h.2 15 (by decide) (by decide), h.2 17 (by decide) (by decide), h.2 31 (by decide) (by decide)⟩
  by_cases q : i = 86
  · subst q; exact e
  · apply h.1
    cases z : [85, 86, 89, 90, 91].elem i with
    | false => rfl
    | true =>
      exfalso
      have hm : i ∈ [85, 86, 89, 90, 91] := by simpa [List.elem_eq_contains, List.contains_iff_mem] using z
      simp only [List.mem_cons, List.not_mem_nil, or_false] at hm
      have : i = 85 ∨ i = 89 ∨ i = 90 ∨ i = 91 := by omega
      rcases this with w | w | w | w <;> subst w <;> cases hi
