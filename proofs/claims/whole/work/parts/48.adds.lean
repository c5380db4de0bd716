/-! WHAT THE CLASS ADDS: ruleFor, changed, addedBy, isSilent, takeDay -/
theorem fcv_cg {f g : Nat → Int32} (h : ∀ j, j < 6 → f j = g j) (c : Int32) : fcv f c = fcv g c := by
  unfold fcv
  rw [h 0 (by omega), h 1 (by omega), h 2 (by omega), h 3 (by omega), h 4 (by omega), h 5 (by omega)]
theorem mstep_cg {f g : Nat → Int32} (h : ∀ j, j < 6 → f j = g j) (c : Int32) (K : List Int32) : mstep f c K = mstep g c K := by
  unfold mstep
  rw [fcv_cg h]
theorem mev_cg {f g : Nat → Int32} (h : ∀ j, j < 6 → f j = g j) : ∀ (l K : List Int32), mev f l K = mev g l K
  | [], _ => rfl
  | c :: l, K => by
    unfold mev
    rw [mstep_cg h]
    split
    · exact mev_cg h l _
    · rfl
theorem cnd_cg {s : Nat → Int32} {f g : Nat → Int32} (h : ∀ j, j < 6 → f j = g j) (r : Nat) : cnd s r f = cnd s r g := by
  unfold cnd; rw [mev_cg h]
theorem ruf_cg {s : Nat → Int32} {f g : Nat → Int32} (h : ∀ j, j < 6 → f j = g j) (kd : Int32) : ∀ m r, ruf s kd f m r = ruf s kd g m r
  | 0, _ => rfl
  | m + 1, r => by
    show (if _ then _ else _) = (if _ then _ else _)
    rw [cnd_cg h, ruf_cg h kd m (r + 1)]
/-- rules don't see what stands ahead of them -/
theorem cl_cs {s t : Nat → Int32} (h : ∀ j, 78 ≤ j → s j = t j) : ∀ m i, cl s i m = cl t i m
  | 0, _ => rfl
  | m + 1, i => by
    show _ :: _ = _ :: _
    rw [h _ (by omega), cl_cs h m (i + 1)]
theorem bg_cs {s t : Nat → Int32} (h : ∀ j, 78 ≤ j → s j = t j) : ∀ r, bg s r = bg t r
  | 0 => rfl
  | r + 1 => by
    show (s _).toNatClampNeg = (t _).toNatClampNeg
    rw [h _ (by omega)]
theorem cnd_cs {s t : Nat → Int32} (h : ∀ j, 78 ≤ j → s j = t j) (r : Nat) (f : Nat → Int32) : cnd s r f = cnd t r f := by
  unfold cnd; rw [bg_cs h, bg_cs h, cl_cs h]
theorem ruf_cs {s t : Nat → Int32} (h : ∀ j, 78 ≤ j → s j = t j) (kd : Int32) (f : Nat → Int32) : ∀ m r, ruf s kd f m r = ruf t kd f m r
  | 0, _ => rfl
  | m + 1, r => by
    show (if _ then _ else _) = (if _ then _ else _)
    rw [cnd_cs h, h _ (show 78 ≤ 78 + 4 * r by omega), ruf_cs h kd f m (r + 1)]
theorem RG_cs {s t : Nat → Int32} (h : ∀ j, 78 ≤ j → s j = t j) (h4 : s 4 = t 4) (hR : RG s) : RG t := by
  obtain ⟨a, b, c⟩ := hR
  refine ⟨by rw [← h4]; exact a, by rw [← h4]; exact b, fun r hr => ?_⟩
  have := c r (by rw [h4]; exact hr)
  rw [bg_cs h, bg_cs h, h _ (show 78 ≤ 81 + 4 * r by omega), cl_cs h] at this
  exact this
theorem CBr_cs {bf kd dd nm en sp s t : Nat → Int32} (h : ∀ j, 78 ≤ j → s j = t j) (h4 : s 4 = t 4) (hB : CBr bf kd dd nm en sp s) : CBr bf kd dd nm en sp t := by
  obtain ⟨a, b, c⟩ := hB
  refine ⟨RG_cs h h4 a, by rw [← h4]; exact b, fun r hr => ?_⟩
  have := c r (by rw [h4]; exact hr)
  rw [bg_cs h, bg_cs h, h _ (show 78 ≤ 78 + 4 * r by omega), h _ (show 78 ≤ 79 + 4 * r by omega), h _ (show 78 ≤ 80 + 4 * r by omega), cl_cs h] at this
  exact this
/-- the row with another day -/
def sd (s : Nat → Int32) (dd : Nat) : Nat → Int32 := fun j => if j = 2 then Int32.ofNat dd else s j
theorem sd_ne {s : Nat → Int32} {dd j : Nat} (h : j ≠ 2) : sd s dd j = s j := if_neg h
theorem sd_2 (s : Nat → Int32) (dd : Nat) : sd s dd 2 = Int32.ofNat dd := rfl
theorem sd_self {s : Nat → Int32} (h : DG s) : sd s (s 2).toNatClampNeg = s := by
  funext j
  unfold sd
  split
  · rename_i e; subst e; exact h.1.symm
  · rfl
def tn (s : Nat → Int32) : Nat := (s 0).toNatClampNeg
/-- what a cry reads of the class's valley is what stands in the model's row -/
def CN (st : zS) (s : Nat → Int32) : Prop := CB st s ∧ st 1 0 = s 0 ∧ (s 0 = Int32.ofNat (tn s) ∧ tn s ≤ 9) ∧ (∀ k, k < tn s → st 2 k = s (12 + 6 * k) ∧ st 3 k = s (13 + 6 * k) ∧ st 4 k = s (14 + 6 * k) ∧ st 5 k = s (15 + 6 * k)) ∧ (∀ j, j < 7 → st 8 j = s (5 + j)) ∧ (∀ k, k < tn s → (1 ≤ (s (12 + 6 * k)).toInt ∧ (s (12 + 6 * k)).toInt ≤ 5) ∧ (0 ≤ (s (13 + 6 * k)).toInt ∧ (s (13 + 6 * k)).toInt ≤ 99) ∧ (0 ≤ (s (14 + 6 * k)).toInt ∧ (s (14 + 6 * k)).toInt ≤ 9) ∧ (1 ≤ (s (15 + 6 * k)).toInt ∧ (s (15 + 6 * k)).toInt ≤ 20)) ∧ (∀ j, j < 7 → -3 ≤ (s (5 + j)).toInt ∧ (s (5 + j)).toInt ≤ 3)
theorem CB_eq {st st' : zS} {s : Nat → Int32} (h : CB st s) (h9 : st' 9 = st 9) (h10 : st' 10 = st 10) (h11 : st' 11 = st 11) (h12 : st' 12 = st 12) (h13 : st' 13 = st 13) (h14 : st' 14 = st 14) : CB st' s := by
  unfold CB; rw [h9, h10, h11, h12, h13, h14]; exact h
theorem CN_fr {cs : List Nat} {st st' : zS} {s : Nat → Int32} (h : CN st s) (f : fr cs st st') (hc : (cs.all fun c => c == 17 || c == 0 || Nat.blt 17 c) = true) : CN st' s := by
  have g : ∀ i, 1 ≤ i → i ≤ 16 → st' i = st i := by
    intro i h1 h2
    apply f
    cases q : cs.elem i with
    | false => rfl
    | true =>
      have hm : i ∈ cs := by simpa [List.elem_eq_contains, List.contains_iff_mem] using q
      have := List.all_eq_true.mp hc i hm
      simp only [Bool.or_eq_true, beq_iff_eq, Nat.blt_eq] at this
      omega
  obtain ⟨a, b, c, e, w, r⟩ := h
  refine ⟨CB_eq a (g _ (by omega) (by omega)) (g _ (by omega) (by omega)) (g _ (by omega) (by omega)) (g _ (by omega) (by omega)) (g _ (by omega) (by omega)) (g _ (by omega) (by omega)), ?_, c, ?_, ?_, r⟩
  · rw [g 1 (by omega) (by omega)]; exact b
  · rw [g 2 (by omega) (by omega), g 3 (by omega) (by omega), g 4 (by omega) (by omega), g 5 (by omega) (by omega)]; exact e
  · rw [g 8 (by omega) (by omega)]; exact w
theorem s_ruleFor (d : Nat) (st : zS) {s : Nat → Int32} (hN : CN st s) {k dd : Nat} (hk : k < tn s) (hd : dd < 7) : RT (m_evc (d + 4) 71 [.ref 1, .int (Int32.ofNat k), .int (Int32.ofNat dd)] (SH, st)) (some (.int (oz (rof (sd s dd) k)))) (fr [17] st) := by
  have hk9 : k < 9 := by have := hN.2.2.1.2; omega
  obtain ⟨e2, e3, e4, e5⟩ := hN.2.2.2.1 k hk
  have e8 := hN.2.2.2.2.1 dd hd
  have hF : fr [17] st (m_up (m_up (m_up (m_up (m_up (m_up st 17 0 (Int32.ofNat dd)) 17 1 (st 8 dd + 3)) 17 2 (st 3 k)) 17 3 (st 4 k)) 17 4 (st 5 k)) 17 5 (Int32.ofNat k)) := fr_up (fr_up (fr_up (fr_up (fr_up (fr_up0 _ _ _ _) rfl) rfl) rfl) rfl) rfl
  refine ⟨_, ?_, hF⟩
  rw [cal_X9_ruleFor, eX9_ruleFor_0, ix_7 hd, ix_9 hk9]
  simp only [m_ob]
  have h0 : ∀ x : Int32, m_evc (d + 3) 29 [.ref 9, .int x, .ref 17] (SH, m_up (m_up (m_up (m_up (m_up (m_up st 17 0 (Int32.ofNat dd)) 17 1 (st 8 dd + 3)) 17 2 (st 3 k)) 17 3 (st 4 k)) 17 4 (st 5 k)) 17 5 (Int32.ofNat k)) = some (some (.int (oz (ruf s x (m_up (m_up (m_up (m_up (m_up (m_up st 17 0 (Int32.ofNat dd)) 17 1 (st 8 dd + 3)) 17 2 (st 3 k)) 17 3 (st 4 k)) 17 4 (st 5 k)) 17 5 (Int32.ofNat k) 17) (s 4).toNatClampNeg 0))), (SH, m_up (m_up (m_up (m_up (m_up (m_up st 17 0 (Int32.ofNat dd)) 17 1 (st 8 dd + 3)) 17 2 (st 3 k)) 17 3 (st 4 k)) 17 4 (st 5 k)) 17 5 (Int32.ofNat k))) := by
    intro x
    rw [cal_X5_firstFor, eX5_firstFor_0]
    exact firstFor_run d _ (CN_fr hN hF rfl).1 x (s 4).toNatClampNeg 0 (by omega)
  rw [h0]
  simp only [m_bd, Option.toList, List.cons_append, List.nil_append]
  rw [eX9_ruleFor_81]
  congr 4
  unfold rof
  rw [sd_ne (show 12 + 6 * k ≠ 2 by omega), sd_ne (show 4 ≠ 2 by omega), ← ruf_cs (s := s) (t := sd s dd) (fun j hj => (sd_ne (by omega)).symm), e2]
  apply congrArg oz
  apply ruf_cg
  intro j hj
  have : (Int32.ofNat dd).toNatClampNeg = dd := n_nat (by omega)
  match j, hj with
  | 0, _ => simp [m_up, fcs, sd_2]
  | 1, _ => simp [m_up, fcs, sd_2, this, sd_ne (show 5 + dd ≠ 2 by omega), e8]
  | 2, _ => simp [m_up, fcs, sd_ne (show 13 + 6 * k ≠ 2 by omega), e3]
  | 3, _ => simp [m_up, fcs, sd_ne (show 14 + 6 * k ≠ 2 by omega), e4]
  | 4, _ => simp [m_up, fcs, sd_ne (show 15 + 6 * k ≠ 2 by omega), e5]
  | 5, _ => simp [m_up, fcs]
theorem oz_neg {q : Nat} (h : q < 9) : ¬ (oz (some q) < 0) := by show ¬ (Int32.ofNat q < 0); rw [n_pos _ (by omega)]; exact id
theorem s_changed (d : Nat) (st : zS) {s : Nat → Int32} (hB : CB st s) {o : Option Nat} (ho : ∀ q, o = some q → q < (s 4).toNatClampNeg) {k : Nat} : m_evc (d + 1) 33 [.ref 9, .int (oz o), .int (s (13 + 6 * k)), .int (s (15 + 6 * k))] (SH, st) = some (some (.int (ab s k o)), (SH, st)) := by
  have h8 := hB.1.2.1
  rw [cal_X5_changed, eX5_changed_0]
  cases o with
  | none => rw [if_pos (show oz none < 0 from n_neg1), eX5_changed_12]; rfl
  | some q =>
    have hq := ho q rfl
    have hq8 : q < 8 := by omega
    rw [if_neg (oz_neg (by omega)), if_pos (by show Int32.ofNat q < _; rw [hB.2.1, hB.1.1, n_lt (by omega) (by omega)]; exact hq), eX5_changed_14]
    obtain ⟨_, a2, a3, _⟩ := hB.2.2 q hq
    show m_ob (m_ix (Int32.ofNat q) 8) _ = _
    rw [ix_8 hq8]
    simp only [m_ob, a2]
    have ecase : ∀ c : Int32, m_case c [[0, 48], [1, 55], [2, 64]] 73 = if c = 0 then 48 else if c = 1 then 55 else if c = 2 then 64 else 73 := fun c => rfl
    rw [ecase]
    have hi : m_ix (oz (some q)) 8 = some q := ix_8 hq8
    unfold ab
    by_cases h0 : s (79 + 4 * q) = 0
    · simp only [if_pos h0]
      rw [eX5_changed_48, hi]; simp only [m_ob, a3]
    simp only [if_neg h0]
    by_cases h1 : s (79 + 4 * q) = 1
    · simp only [if_pos h1]
      rw [eX5_changed_55, hi]; simp only [m_ob, a3]
    simp only [if_neg h1]
    by_cases h2 : s (79 + 4 * q) = 2
    · simp only [if_pos h2]
      rw [eX5_changed_64, hi]; simp only [m_ob, a3]
    simp only [if_neg h2]
    rw [eX5_changed_73]
theorem s_silX (d : Nat) (st : zS) {s : Nat → Int32} (hB : CB st s) {o : Option Nat} (ho : ∀ q, o = some q → q < (s 4).toNatClampNeg) : m_evc (d + 1) 32 [.ref 9, .int (oz o)] (SH, st) = some (some (.int (bZ (slw s o = true))), (SH, st)) := by
  have h8 := hB.1.2.1
  rw [cal_X5_isSilent, eX5_isSilent_0]
  cases o with
  | none => rw [if_pos (show oz none < 0 from n_neg1), eX5_isSilent_26, eX5_isSilent_27]; rfl
  | some q =>
    have hq := ho q rfl
    have hq8 : q < 8 := by omega
    rw [if_neg (oz_neg (by omega)), if_pos (by show Int32.ofNat q < _; rw [hB.2.1, hB.1.1, n_lt (by omega) (by omega)]; exact hq)]
    obtain ⟨_, a2, a3, _⟩ := hB.2.2 q hq
    have hi : m_ix (oz (some q)) 8 = some q := ix_8 hq8
    rw [hi]
    simp only [m_ob, a2]
    unfold slw
    by_cases h : s (79 + 4 * q) = 3
    · simp [h, eX5_isSilent_27, bZ]
    · simp [h, eX5_isSilent_26, eX5_isSilent_27, bZ]
theorem ruf_lt {s : Nat → Int32} {kd : Int32} {f : Nat → Int32} : ∀ {m r q : Nat}, ruf s kd f m r = some q → r ≤ q ∧ q < r + m
  | 0, _, _, h => by cases h
  | m + 1, r, q, h => by
    unfold ruf at h
    split at h
    · cases h; omega
    · have := ruf_lt h; omega
theorem rof_lt {s : Nat → Int32} {k q : Nat} (h : rof s k = some q) : q < (s 4).toNatClampNeg := by
  have := ruf_lt h; omega
theorem ab_sd {s : Nat → Int32} {dd k : Nat} (o : Option Nat) : ab (sd s dd) k o = ab s k o := by
  unfold ab
  cases o with
  | none => simp only [sd_ne (show 13 + 6 * k ≠ 2 by omega)]
  | some q => simp only [sd_ne (show 79 + 4 * q ≠ 2 by omega), sd_ne (show 80 + 4 * q ≠ 2 by omega), sd_ne (show 13 + 6 * k ≠ 2 by omega), sd_ne (show 15 + 6 * k ≠ 2 by omega)]
theorem slw_sd {s : Nat → Int32} {dd : Nat} (o : Option Nat) : slw (sd s dd) o = slw s o := by
  cases o with
  | none => rfl
  | some q => unfold slw; simp only [sd_ne (show 79 + 4 * q ≠ 2 by omega)]
theorem s_addedBy (d : Nat) (st : zS) {s : Nat → Int32} (hN : CN st s) {k dd : Nat} (hk : k < tn s) (hd : dd < 7) {o : Option Nat} (ho : ∀ q, o = some q → q < (s 4).toNatClampNeg) : m_evc (d + 2) 72 [.ref 1, .int (oz o), .int (Int32.ofNat k), .int (Int32.ofNat dd)] (SH, st) = some (some (.int (aw (sd s dd) k (ab (sd s dd) k o))), (SH, st)) := by
  have hk9 : k < 9 := by have := hN.2.2.1.2; omega
  obtain ⟨e2, e3, e4, e5⟩ := hN.2.2.2.1 k hk
  obtain ⟨⟨r1, r2⟩, _⟩ := hN.2.2.2.2.2.1 k hk
  rw [cal_X9_addedBy, eX9_addedBy_0, ix_9 hk9]
  simp only [m_ob, e3, e5]
  rw [s_changed d st hN.1 ho]
  simp only [m_bd, Option.toList, List.cons_append, List.nil_append]
  rw [eX9_addedBy_20, ix_9 hk9]
  simp only [m_ob, e2]
  have ecase : ∀ c : Int32, m_case c [[2, 60], [3, 65], [4, 83], [5, 93]] 103 = if c = 2 then 60 else if c = 3 then 65 else if c = 4 then 83 else if c = 5 then 93 else 103 := fun c => rfl
  rw [ecase, ab_sd]
  unfold aw
  simp only [sd_ne (show 12 + 6 * k ≠ 2 by omega), sd_ne (show 14 + 6 * k ≠ 2 by omega)]
  by_cases h2 : s (12 + 6 * k) = 2
  · simp only [if_pos h2]; rw [eX9_addedBy_60]
  simp only [if_neg h2]
  by_cases h3 : s (12 + 6 * k) = 3
  · simp only [if_pos h3]; rw [eX9_addedBy_65]
    by_cases h6 : Int32.ofNat dd = 6
    · simp only [if_pos h6]; rw [eX9_addedBy_81]
      rw [if_pos (show sd s dd 2 = 6 from h6)]
    · simp only [if_neg h6]; rw [eX9_addedBy_80, eX9_addedBy_81]
      rw [if_neg (show ¬ sd s dd 2 = 6 from h6)]
  simp only [if_neg h3]
  have t3 : (3 : Int32).toInt = 3 := rfl
  have t4 : (4 : Int32).toInt = 4 := rfl
  have t5 : (5 : Int32).toInt = 5 := rfl
  have t2 : (2 : Int32).toInt = 2 := rfl
  by_cases h4 : s (12 + 6 * k) = 4
  · have : (3 : Int32) < s (12 + 6 * k) := by rw [h4]; decide
    simp only [if_pos h4, if_pos this]; rw [eX9_addedBy_83, ix_9 hk9]; simp only [m_ob, e4]
  simp only [if_neg h4]
  by_cases h5 : s (12 + 6 * k) = 5
  · have : (3 : Int32) < s (12 + 6 * k) := by rw [h5]; decide
    simp only [if_pos h5, if_pos this]; rw [eX9_addedBy_93, ix_9 hk9]; simp only [m_ob, e4]
  simp only [if_neg h5]
  have : ¬ (3 : Int32) < s (12 + 6 * k) := by
    rw [i_lt, t3]
    intro q
    have q4 : (s (12 + 6 * k)).toInt ≠ 4 := fun c => h4 (Int32.toInt_inj.mp (by rw [c, t4]))
    have q5 : (s (12 + 6 * k)).toInt ≠ 5 := fun c => h5 (Int32.toInt_inj.mp (by rw [c, t5]))
    omega
  simp only [if_neg this]; rw [eX9_addedBy_103]
theorem nar_b (b : Bool) : vp_nar .boolean (bZ (b = true)) = bZ (b = true) := by cases b <;> rfl
/-- takeDay of the first cry / the second one -/
theorem ya_takeDay (d : Nat) (st : zS) {s : Nat → Int32} (hN : CN st s) {dd : Nat} (hd : dd < 7) : RT (m_evc (d + 6) 1 [.ref 44, .int (Int32.ofNat dd)] (SH, st)) none (fun st' => fr [17, 44, 45, 46] st st' ∧ st' 44 3 = 4 + s (5 + dd) ∧ st' 44 4 = 4 - s (5 + dd) ∧ (∀ j, j ≠ 3 → j ≠ 4 → st' 44 j = st 44 j) ∧ ∀ k, k < tn s → st' 45 k = ads (sd s dd) k ∧ st' 46 k = bZ (sil (sd s dd) k = true)) := by
  have h9 := hN.2.2.1.2
  have e8 := hN.2.2.2.2.1 dd hd
  have f0 : fr [17, 44, 45, 46] st (m_up (m_up st 44 3 (4 + s (5 + dd))) 44 4 (4 - s (5 + dd))) := fr_up (fr_up (fr_refl _ _) rfl) rfl
  have L := lp_inv (fun j (a : zS × Option Value) => m_ev none (d + 5) 1 28 [some (.ref 44), some (.int (Int32.ofNat dd)), some (.int (Int32.ofNat j)), a.2] [] (SH, a.1))
    (fun j a => fr [17, 45, 46] (m_up (m_up st 44 3 (4 + s (5 + dd))) 44 4 (4 - s (5 + dd))) a.1 ∧ ∀ k, k < j → a.1 45 k = ads (sd s dd) k ∧ a.1 46 k = bZ (sil (sd s dd) k = true)) (tn s) ?_ (tn s) 0 ((m_up (m_up st 44 3 (4 + s (5 + dd))) 44 4 (4 - s (5 + dd))), none) (by omega) ⟨fr_refl _ _, fun k hk => by omega⟩
  · obtain ⟨⟨st2, x3⟩, e, f2, g2⟩ := L
    simp only at e f2 g2
    refine ⟨st2, ?_, fr_mono (fr_tr f0 f2) (by decide), ?_, ?_, ?_, g2⟩
    · rw [cal_aX0_takeDay, eaX0_takeDay_0, s_mileX, ix_7 hd]
      simp only [m_ob, m_bd, Option.toList, List.cons_append, List.nil_append, if_neg i_10]
      rw [eaX0_takeDay_10, s_mileX, ix_7 hd]
      simp only [m_ob, m_bd, Option.toList, List.cons_append, List.nil_append, if_true]
      rw [eaX0_takeDay_23]
      have q8 : (m_up st 44 3 (4 + st 8 dd)) 8 dd = st 8 dd := by rw [up_ne (by decide)]
      rw [q8, e8]
      refine Eq.trans e ?_
      have hn := (CN_fr (CN_fr hN f0 rfl) f2 rfl).2.1
      rw [eaX0_takeDay_28, if_neg, eaX0_takeDay_88]
      rw [hn, hN.2.2.1.1, n_lt (by omega) (by omega)]; omega
    · rw [f2 44 rfl]; simp [m_up]
    · rw [f2 44 rfl]; simp [m_up]
    · intro j h3 h4
      rw [f2 44 rfl, up_nj h4, up_nj h3]
  · rintro j ⟨st1, x3⟩ hj ⟨f1, g1⟩
    simp only at f1 g1
    have hN1 := CN_fr (CN_fr hN f0 rfl) f1 rfl
    obtain ⟨st2, e2, f2⟩ := s_ruleFor (d + 1) st1 hN1 hj hd
    have hN2 := CN_fr hN1 f2 rfl
    have ho : ∀ q, rof (sd s dd) j = some q → q < (s 4).toNatClampNeg := by
      intro q hq
      have := rof_lt hq
      rw [sd_ne (show 4 ≠ 2 by omega)] at this
      exact this
    refine ⟨((m_up (m_up st2 45 j (aw (sd s dd) j (ab (sd s dd) j (rof (sd s dd) j)))) 46 j (bZ (slw s (rof (sd s dd) j) = true))), some (.int (oz (rof (sd s dd) j)))), ?_, ?_, ?_⟩
    · simp only
      rw [eaX0_takeDay_28, if_pos (by rw [hN1.2.1, hN.2.2.1.1, n_lt (by omega) (by omega)]; exact hj), e2]
      simp only [m_bd, Option.toList, List.cons_append, List.nil_append]
      rw [eaX0_takeDay_48, s_addedBy (d + 3) st2 hN2 hj hd ho]
      simp only [m_bd, Option.toList, List.cons_append, List.nil_append]
      rw [eaX0_takeDay_64, ix_9 (show j < 9 by omega)]
      simp only [m_ob]
      have hN3 : CN (m_up st2 45 j (aw (sd s dd) j (ab (sd s dd) j (rof (sd s dd) j)))) s := CN_fr hN2 (fr_up0 _ _ _ _) rfl
      rw [s_silX (d + 4) _ hN3.1 ho]
      simp only [m_bd, Option.toList, List.cons_append, List.nil_append]
      rw [eaX0_takeDay_81, ix_9 (show j < 9 by omega)]
      simp only [m_ob, n_succ, nar_b]
    · exact fr_up (fr_up (fr_mono (fr_tr f1 f2) (by decide)) rfl) rfl
    · intro k hk
      simp only
      by_cases q : k = j
      · subst q
        rw [up_ne (by decide), up_in, up_in]
        exact ⟨rfl, by rw [← slw_sd (s := s) (dd := dd)]; rfl⟩
      · rw [up_ne (by decide), up_nj q, up_nj q, up_ne (by decide), f2 45 rfl, f2 46 rfl]
        exact g1 k (by omega)
/-- takeDay of the first cry / the second one -/
theorem yb_takeDay (d : Nat) (st : zS) {s : Nat → Int32} (hN : CN st s) {dd : Nat} (hd : dd < 7) : RT (m_evc (d + 6) 1 [.ref 49, .int (Int32.ofNat dd)] (SH, st)) none (fun st' => fr [17, 49, 50, 51] st st' ∧ st' 49 3 = 4 + s (5 + dd) ∧ st' 49 4 = 4 - s (5 + dd) ∧ (∀ j, j ≠ 3 → j ≠ 4 → st' 49 j = st 49 j) ∧ ∀ k, k < tn s → st' 50 k = ads (sd s dd) k ∧ st' 51 k = bZ (sil (sd s dd) k = true)) := by
  have h9 := hN.2.2.1.2
  have e8 := hN.2.2.2.2.1 dd hd
  have f0 : fr [17, 49, 50, 51] st (m_up (m_up st 49 3 (4 + s (5 + dd))) 49 4 (4 - s (5 + dd))) := fr_up (fr_up (fr_refl _ _) rfl) rfl
  have L := lp_inv (fun j (a : zS × Option Value) => m_ev none (d + 5) 1 28 [some (.ref 49), some (.int (Int32.ofNat dd)), some (.int (Int32.ofNat j)), a.2] [] (SH, a.1))
    (fun j a => fr [17, 50, 51] (m_up (m_up st 49 3 (4 + s (5 + dd))) 49 4 (4 - s (5 + dd))) a.1 ∧ ∀ k, k < j → a.1 50 k = ads (sd s dd) k ∧ a.1 51 k = bZ (sil (sd s dd) k = true)) (tn s) ?_ (tn s) 0 ((m_up (m_up st 49 3 (4 + s (5 + dd))) 49 4 (4 - s (5 + dd))), none) (by omega) ⟨fr_refl _ _, fun k hk => by omega⟩
  · obtain ⟨⟨st2, x3⟩, e, f2, g2⟩ := L
    simp only at e f2 g2
    refine ⟨st2, ?_, fr_mono (fr_tr f0 f2) (by decide), ?_, ?_, ?_, g2⟩
    · rw [cal_bX0_takeDay, ebX0_takeDay_0, s_mileX, ix_7 hd]
      simp only [m_ob, m_bd, Option.toList, List.cons_append, List.nil_append, if_neg i_10]
      rw [ebX0_takeDay_10, s_mileX, ix_7 hd]
      simp only [m_ob, m_bd, Option.toList, List.cons_append, List.nil_append, if_true]
      rw [ebX0_takeDay_23]
      have q8 : (m_up st 49 3 (4 + st 8 dd)) 8 dd = st 8 dd := by rw [up_ne (by decide)]
      rw [q8, e8]
      refine Eq.trans e ?_
      have hn := (CN_fr (CN_fr hN f0 rfl) f2 rfl).2.1
      rw [ebX0_takeDay_28, if_neg, ebX0_takeDay_88]
      rw [hn, hN.2.2.1.1, n_lt (by omega) (by omega)]; omega
    · rw [f2 49 rfl]; simp [m_up]
    · rw [f2 49 rfl]; simp [m_up]
    · intro j h3 h4
      rw [f2 49 rfl, up_nj h4, up_nj h3]
  · rintro j ⟨st1, x3⟩ hj ⟨f1, g1⟩
    simp only at f1 g1
    have hN1 := CN_fr (CN_fr hN f0 rfl) f1 rfl
    obtain ⟨st2, e2, f2⟩ := s_ruleFor (d + 1) st1 hN1 hj hd
    have hN2 := CN_fr hN1 f2 rfl
    have ho : ∀ q, rof (sd s dd) j = some q → q < (s 4).toNatClampNeg := by
      intro q hq
      have := rof_lt hq
      rw [sd_ne (show 4 ≠ 2 by omega)] at this
      exact this
    refine ⟨((m_up (m_up st2 50 j (aw (sd s dd) j (ab (sd s dd) j (rof (sd s dd) j)))) 51 j (bZ (slw s (rof (sd s dd) j) = true))), some (.int (oz (rof (sd s dd) j)))), ?_, ?_, ?_⟩
    · simp only
      rw [ebX0_takeDay_28, if_pos (by rw [hN1.2.1, hN.2.2.1.1, n_lt (by omega) (by omega)]; exact hj), e2]
      simp only [m_bd, Option.toList, List.cons_append, List.nil_append]
      rw [ebX0_takeDay_48, s_addedBy (d + 3) st2 hN2 hj hd ho]
      simp only [m_bd, Option.toList, List.cons_append, List.nil_append]
      rw [ebX0_takeDay_64, ix_9 (show j < 9 by omega)]
      simp only [m_ob]
      have hN3 : CN (m_up st2 50 j (aw (sd s dd) j (ab (sd s dd) j (rof (sd s dd) j)))) s := CN_fr hN2 (fr_up0 _ _ _ _) rfl
      rw [s_silX (d + 4) _ hN3.1 ho]
      simp only [m_bd, Option.toList, List.cons_append, List.nil_append]
      rw [ebX0_takeDay_81, ix_9 (show j < 9 by omega)]
      simp only [m_ob, n_succ, nar_b]
    · exact fr_up (fr_up (fr_mono (fr_tr f1 f2) (by decide)) rfl) rfl
    · intro k hk
      simp only
      by_cases q : k = j
      · subst q
        rw [up_ne (by decide), up_in, up_in]
        exact ⟨rfl, by rw [← slw_sd (s := s) (dd := dd)]; rfl⟩
      · rw [up_ne (by decide), up_nj q, up_nj q, up_ne (by decide), f2 50 rfl, f2 51 rfl]
        exact g1 k (by omega)
