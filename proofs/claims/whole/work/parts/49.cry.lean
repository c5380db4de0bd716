/-! A CRY, thought: when it comes to a tower and what is held there -/
abbrev cH : Type := Option (Int32 × Int32)
def pw (s : Nat → Int32) : Int32 := 4 + s (5 + (s 2).toNatClampNeg)
def pe (s : Nat → Int32) : Int32 := 4 - s (5 + (s 2).toNatClampNeg)
def arr (s : Nat → Int32) (k : Nat) (m h : Int32) : cH := if s (12 + 6 * k) = 5 ∧ m < 360 then none else some (m, h + ads s k)
/-- to the west, from all of a set, not on from those that are mute -/
def wst (s : Nat → Int32) (b q : Nat → Bool) (t : Int32) : Nat → cH
  | 0 => if b 0 = true then some (t, t) else none
  | k + 1 => if b (k + 1) = true then some (t, t) else match wst s b q t k with
    | none => none
    | some (c, h) => if (sil s k = true ∧ b k = false) ∨ q k = true then none else arr s (k + 1) ((c + (if b k = true then 0 else s (14 + 6 * k))) + s (15 + 6 * (k + 1)) * pw s) h
/-- to the east: so many towers on -/
def est (s : Nat → Int32) (fm : Nat) (t : Int32) : Nat → cH
  | 0 => some (t, t)
  | j + 1 => match est s fm t j with
    | none => none
    | some (c, h) => if sil s (fm - j) = true ∧ j ≠ 0 then none else arr s (fm - j - 1) ((c + (if j = 0 then 0 else s (14 + 6 * (fm - j)))) + s (15 + 6 * (fm - j)) * pe s) h
def isb (fm : Nat) : Nat → Bool := fun k => k == fm
def nob : Nat → Bool := fun _ => false
def wes (s : Nat → Int32) (fm : Nat) (t : Int32) (k : Nat) : cH := wst s (isb fm) nob t k
def eas (s : Nat → Int32) (fm : Nat) (t : Int32) (k : Nat) : cH := if k ≤ fm then est s fm t (fm - k) else none
def bth (s : Nat → Int32) (fm : Nat) (t : Int32) (k : Nat) : cH := if fm ≤ k then wes s fm t k else eas s fm t k
/-- what rows of numbers say of where a cry comes -/
def rep1 (z : Int32) (cm hd : Nat → Int32) (o : cH) (k : Nat) : Prop := match o with
  | none => cm k = z
  | some (c, h) => cm k = c ∧ hd k = h
abbrev TG (t : Int32) : Prop := 0 ≤ t.toInt ∧ t.toInt ≤ 1439
/-- the numbers of a row from which cries are reckoned are what they may be -/
def VN (s : Nat → Int32) : Prop := (s 0 = Int32.ofNat (tn s) ∧ tn s ≤ 9) ∧ (∀ k, k < tn s → (1 ≤ (s (12 + 6 * k)).toInt ∧ (s (12 + 6 * k)).toInt ≤ 5) ∧ (0 ≤ (s (13 + 6 * k)).toInt ∧ (s (13 + 6 * k)).toInt ≤ 99) ∧ (0 ≤ (s (14 + 6 * k)).toInt ∧ (s (14 + 6 * k)).toInt ≤ 9) ∧ (1 ≤ (s (15 + 6 * k)).toInt ∧ (s (15 + 6 * k)).toInt ≤ 20)) ∧ (∀ j, j < 7 → -3 ≤ (s (5 + j)).toInt ∧ (s (5 + j)).toInt ≤ 3) ∧ DG s ∧ RG s
theorem t_mul {a b : Int32} (ha : 1 ≤ a.toInt ∧ a.toInt ≤ 20) (hb : 1 ≤ b.toInt ∧ b.toInt ≤ 7) : 1 ≤ (a * b).toInt ∧ (a * b).toInt ≤ 140 := by
  have h1 : 1 * 1 ≤ a.toInt * b.toInt := Int.mul_le_mul ha.1 hb.1 (by omega) (by omega)
  have h2 : a.toInt * b.toInt ≤ 20 * 7 := Int.mul_le_mul ha.2 hb.2 (by omega) (by omega)
  have e : (a * b).toInt = a.toInt * b.toInt := by
    rw [Int32.toInt_mul]
    apply Int.bmod_eq_of_le <;> omega
  rw [e]; omega
theorem pw_b {s : Nat → Int32} (h : VN s) : 1 ≤ (pw s).toInt ∧ (pw s).toInt ≤ 7 := by
  obtain ⟨_, _, w, d, _⟩ := h
  have := w _ d.2
  have e4 : (4 : Int32).toInt = 4 := rfl
  unfold pw
  rw [x_add (by rw [e4]; omega), e4]; omega
theorem pe_b {s : Nat → Int32} (h : VN s) : 1 ≤ (pe s).toInt ∧ (pe s).toInt ≤ 7 := by
  obtain ⟨_, _, w, d, _⟩ := h
  have := w _ d.2
  have e4 : (4 : Int32).toInt = 4 := rfl
  unfold pe
  have e : (4 - s (5 + (s 2).toNatClampNeg)).toInt = 4 - (s (5 + (s 2).toNatClampNeg)).toInt := by
    rw [Int32.toInt_sub, e4]
    apply Int.bmod_eq_of_le <;> omega
  rw [e]; omega
theorem step_b {c dl ml p : Int32} {L : Nat} (hL : L ≤ 9) (hc : 0 ≤ c.toInt ∧ c.toInt ≤ 1439 + 149 * L) (hd : 0 ≤ dl.toInt ∧ dl.toInt ≤ 9) (hm : 1 ≤ ml.toInt ∧ ml.toInt ≤ 20) (hp : 1 ≤ p.toInt ∧ p.toInt ≤ 7) : c.toInt ≤ ((c + dl) + ml * p).toInt ∧ ((c + dl) + ml * p).toInt ≤ 1439 + 149 * (L + 1 : Nat) := by
  have h1 := t_mul hm hp
  have e1 : (c + dl).toInt = c.toInt + dl.toInt := x_add (by omega)
  have e2 : ((c + dl) + ml * p).toInt = (c + dl).toInt + (ml * p).toInt := x_add (by omega)
  omega
theorem if0_b {p : Prop} [Decidable p] {x : Int32} (h : 0 ≤ x.toInt ∧ x.toInt ≤ 9) : 0 ≤ (if p then 0 else x).toInt ∧ (if p then 0 else x).toInt ≤ 9 := by
  have : (0 : Int32).toInt = 0 := rfl
  split <;> omega
theorem arr_some {s : Nat → Int32} {k : Nat} {m h c g : Int32} (e : arr s k m h = some (c, g)) : m = c ∧ h + ads s k = g ∧ ¬ (s (12 + 6 * k) = 5 ∧ m < 360) := by
  unfold arr at e
  by_cases q : s (12 + 6 * k) = 5 ∧ m < 360
  · rw [if_pos q] at e; cases e
  · rw [if_neg q] at e
    simp only [Option.some.injEq, Prod.mk.injEq] at e
    exact ⟨e.1, e.2, q⟩
theorem wst_b {s : Nat → Int32} (hV : VN s) {b q : Nat → Bool} {t : Int32} (ht : TG t) : ∀ k, k < tn s → ∀ c h, wst s b q t k = some (c, h) → t.toInt ≤ c.toInt ∧ c.toInt ≤ 1439 + 149 * k
  | 0, _, c, h, e => by
    unfold wst at e
    split at e
    · cases e; exact ⟨Int.le_refl _, by have := ht.2; omega⟩
    · cases e
  | k + 1, hk, c, h, e => by
    unfold wst at e
    split at e
    · cases e; exact ⟨Int.le_refl _, by have := ht.2; omega⟩
    · split at e
      · cases e
      · rename_i c0 h0 e0
        obtain ⟨b1, b2⟩ := wst_b hV ht k (by omega) c0 h0 e0
        split at e
        · cases e
        · have e := arr_some e
          have hm := (hV.2.1 (k + 1) hk).2.2.2
          have hdl := (hV.2.1 k (by omega)).2.2.1
          have h9 := hV.1.2
          have := step_b (L := k) (by omega) ⟨by have := ht.1; omega, b2⟩ (if0_b (p := b k = true) hdl) hm (pw_b hV)
          rw [e.1] at this
          omega
theorem est_b {s : Nat → Int32} (hV : VN s) {fm : Nat} (hf : fm < tn s) {t : Int32} (ht : TG t) : ∀ j, j ≤ fm → ∀ c h, est s fm t j = some (c, h) → t.toInt ≤ c.toInt ∧ c.toInt ≤ 1439 + 149 * j
  | 0, _, c, h, e => by
    unfold est at e
    cases e; exact ⟨Int.le_refl _, by have := ht.2; omega⟩
  | j + 1, hj, c, h, e => by
    unfold est at e
    split at e
    · cases e
    · rename_i c0 h0 e0
      obtain ⟨b1, b2⟩ := est_b hV hf ht j (by omega) c0 h0 e0
      split at e
      · cases e
      · have e := arr_some e
        have hm := (hV.2.1 (fm - j) (by omega)).2.2.2
        have hdl := (hV.2.1 (fm - j) (by omega)).2.2.1
        have h9 := hV.1.2
        have := step_b (L := j) (by omega) ⟨by have := ht.1; omega, b2⟩ (if0_b (p := j = 0) hdl) hm (pe_b hV)
        rw [e.1] at this
        omega
theorem wes_lo {s : Nat → Int32} {fm : Nat} {q : Nat → Bool} {t : Int32} : ∀ k, k < fm → wst s (isb fm) q t k = none
  | 0, h => by
    unfold wst
    rw [if_neg]
    unfold isb; simp; omega
  | k + 1, h => by
    unfold wst
    rw [if_neg (by unfold isb; simp; omega), wes_lo k (by omega)]
theorem wst_at {s : Nat → Int32} {b q : Nat → Bool} {t : Int32} : ∀ {k : Nat}, b k = true → wst s b q t k = some (t, t)
  | 0, h => by unfold wst; rw [if_pos h]
  | k + 1, h => by unfold wst; rw [if_pos h]
theorem bth_b {s : Nat → Int32} (hV : VN s) {fm : Nat} (hf : fm < tn s) {t : Int32} (ht : TG t) {k : Nat} (hk : k < tn s) {c h : Int32} (e : bth s fm t k = some (c, h)) : t.toInt ≤ c.toInt ∧ c.toInt ≤ 3000 := by
  have h9 := hV.1.2
  unfold bth at e
  split at e
  · have := wst_b hV ht k hk c h e; omega
  · unfold eas at e
    split at e
    · have := est_b hV hf ht (fm - k) (by omega) c h e; omega
    · cases e
theorem c_m9 {c : Int32} (h : 0 ≤ c.toInt) : ¬ c = -9 := by
  intro e; rw [e] at h; revert h; decide
theorem c_n0 {c : Int32} (h : 0 ≤ c.toInt) : ¬ c < 0 := by
  rw [i_lt]
  have : (0 : Int32).toInt = 0 := rfl
  omega
/-- a place in the bits of a set -/
def bt (x : Int32) (k : Nat) : Bool := (((x : Int32).toUInt32 >>> ((Int32.ofNat k : Int32).toUInt32 &&& Int32.toUInt32 31)).toInt32 &&& 1) == 1
set_option maxRecDepth 100000 in
theorem bt_one : ∀ a : Fin 9, ∀ b : Fin 9, bt (1 <<< (Int32.ofNat a.val &&& 31)) b.val = isb a.val b.val := by decide +kernel
theorem bt_1 {a b : Nat} (ha : a < 9) (hb : b < 9) : bt (1 <<< (Int32.ofNat a &&& 31)) b = isb a b := bt_one ⟨a, ha⟩ ⟨b, hb⟩
theorem ya_isB (d : Nat) (st : zS) (k : Nat) : m_evc (d + 1) 8 [.ref 44, .int (Int32.ofNat k)] (SH, st) = some (some (.int (bZ (bt (st 44 5) k = true))), (SH, st)) := by
  rw [cal_aX0_isBeginning, eaX0_isBeginning_0]
  have e : (bt (st 44 5) k = true) ↔ ((((st 44 5) : Int32).toUInt32 >>> ((Int32.ofNat k : Int32).toUInt32 &&& Int32.toUInt32 31)).toInt32 &&& 1) = 1 := by unfold bt; exact beq_iff_eq
  by_cases h : ((((st 44 5) : Int32).toUInt32 >>> ((Int32.ofNat k : Int32).toUInt32 &&& Int32.toUInt32 31)).toInt32 &&& 1) = 1
  · rw [if_pos h, eaX0_isBeginning_17, if_pos (Or.inr rfl), bZ_t (e.mpr h)]
  · rw [if_neg h, eaX0_isBeginning_16, eaX0_isBeginning_17, if_pos (Or.inl rfl), bZ_f (fun c => h (e.mp c))]
theorem ya_reaches (d : Nat) (st : zS) {k : Nat} (hk : k < 9) : m_evc (d + 1) 10 [.ref 44, .int (Int32.ofNat k)] (SH, st) = some (some (.int (bZ (¬ st 47 k = -9))), (SH, st)) := by
  rw [cal_aX0_reaches, eaX0_reaches_0, ix_9 hk]
  simp only [m_ob]
  by_cases h : st 47 k = -9
  · rw [if_pos h, eaX0_reaches_15, eaX0_reaches_16, if_pos (Or.inl rfl)]
    simp [h, bZ]
  · rw [if_neg h, eaX0_reaches_16, if_pos (Or.inr rfl)]
    simp [h, bZ]
theorem ya_beginAt (d : Nat) (st : zS) (x t : Int32) : RT (m_evc (d + 2) 5 [.ref 44, .int x, .int t] (SH, st)) none (fun st' => fr [44, 47, 48] st st' ∧ st' 44 5 = x ∧ (∀ j, j ≠ 5 → st' 44 j = st 44 j) ∧ ∀ k, k < 9 → st' 47 k = (if bt x k = true then t else -9) ∧ st' 48 k = (if bt x k = true then t else -9)) := by
  have L := lp_inv (fun j (a : zS) => m_ev none (d + 1) 5 7 [some (.ref 44), some (.int x), some (.int t), some (.int (Int32.ofNat j))] [] (SH, a))
    (fun j a => fr [47, 48] (m_up st 44 5 x) a ∧ ∀ k, k < j → a 47 k = (if bt x k = true then t else -9) ∧ a 48 k = (if bt x k = true then t else -9)) 9 ?_ 9 0 (m_up st 44 5 x) (by omega) ⟨fr_refl _ _, fun k hk => by omega⟩
  · obtain ⟨st2, e, f2, g2⟩ := L
    refine ⟨st2, ?_, fr_mono (fr_tr (fr_up0 _ _ _ _) f2) (by decide), ?_, ?_, g2⟩
    · rw [cal_aX0_beginAt, eaX0_beginAt_0]
      refine Eq.trans e ?_
      rw [eaX0_beginAt_7, if_neg (by decide), eaX0_beginAt_51]
    · rw [f2 44 rfl, up_in]
    · intro j hj; rw [f2 44 rfl, up_nj hj]
  · rintro j st1 hj ⟨f1, g1⟩
    have h5 : st1 44 5 = x := by rw [f1 44 rfl, up_in]
    have hlt : Int32.ofNat j < 9 := by
      rw [show (9 : Int32) = Int32.ofNat 9 from rfl, n_lt (by omega) (by omega)]; exact hj
    refine ⟨m_up (m_up st1 47 j (if bt x j = true then t else -9)) 48 j (if bt x j = true then t else -9), ?_, fr_up (fr_up f1 rfl) rfl, ?_⟩
    · rw [eaX0_beginAt_7, if_pos hlt, ya_isB, h5]
      simp only [m_bd, Option.toList, List.cons_append, List.nil_append]
      rw [eaX0_beginAt_23, bZ_if]
      by_cases hb : bt x j = true
      · simp only [if_pos hb]
        rw [eaX0_beginAt_32, ix_9 hj]
        simp only [m_ob, up_in, n_succ]
      · simp only [if_neg hb]
        rw [eaX0_beginAt_30, eaX0_beginAt_32, ix_9 hj]
        simp only [m_ob, up_in, n_succ]
    · intro k hk
      by_cases q : k = j
      · subst q
        rw [up_ne (by decide), up_in, up_in]; exact ⟨rfl, rfl⟩
      · rw [up_ne (by decide), up_nj q, up_nj q, up_ne (by decide)]
        exact g1 k (by omega)
def ya_brg (st : zS) (k to : Nat) (x : Int32) : zS := if st 47 k = -9 then st else if ¬ st 46 k = 0 ∧ ¬ bt (st 44 5) k = true then st else
  if st 2 to = 5 ∧ (st 47 k + (if bt (st 44 5) k = true then 0 else st 4 k)) + x < 360 then st else m_up (m_up st 47 to ((st 47 k + (if bt (st 44 5) k = true then 0 else st 4 k)) + x)) 48 to (st 48 k + st 45 to)
theorem ya_bring (d : Nat) (st : zS) {k to : Nat} (hk : k < 9) (ht : to < 9) (x : Int32) : m_evc (d + 2) 9 [.ref 44, .int (Int32.ofNat k), .int (Int32.ofNat to), .int x] (SH, st) = some (none, (SH, ya_brg st k to x)) := by
  have go : m_ev none (d + 1) 9 26 [some (.ref 44), some (.int (Int32.ofNat k)), some (.int (Int32.ofNat to)), some (.int x), none] [] (SH, st) = some (none, (SH, if st 2 to = 5 ∧ (st 47 k + (if bt (st 44 5) k = true then 0 else st 4 k)) + x < 360 then st else m_up (m_up st 47 to ((st 47 k + (if bt (st 44 5) k = true then 0 else st 4 k)) + x)) 48 to (st 48 k + st 45 to))) := by
    have on : ∀ y : Int32, m_ev none (d + 1) 9 53 [some (.ref 44), some (.int (Int32.ofNat k)), some (.int (Int32.ofNat to)), some (.int x), none] [.int y, .int (st 47 k)] (SH, st) = some (none, (SH, if st 2 to = 5 ∧ (st 47 k + y) + x < 360 then st else m_up (m_up st 47 to ((st 47 k + y) + x)) 48 to (st 48 k + st 45 to))) := by
      intro y
      have w80 : m_ev none (d + 1) 9 80 [some (.ref 44), some (.int (Int32.ofNat k)), some (.int (Int32.ofNat to)), some (.int x), some (.int ((st 47 k + y) + x))] [] (SH, st) = some (none, (SH, m_up (m_up st 47 to ((st 47 k + y) + x)) 48 to (st 48 k + st 45 to))) := by
        rw [eaX0_bring_80, ix_9 ht, ix_9 hk]
        simp only [m_ob]
      rw [eaX0_bring_53, ix_9 ht]
      simp only [m_ob]
      by_cases h5 : st 2 to = 5
      · by_cases h6 : (st 47 k + y) + x < 360
        · simp only [h5, h6, if_true, and_self]
        · simp only [h5, h6, if_true, if_false, and_false]
          exact w80
      · simp only [h5, if_false, false_and]
        exact w80
    rw [eaX0_bring_26, ix_9 hk]
    simp only [m_ob, ya_isB, m_bd, Option.toList, List.cons_append, List.nil_append]
    rw [eaX0_bring_37, bZ_if]
    by_cases hb : bt (st 44 5) k = true
    · simp only [if_pos hb]
      rw [on]
    · simp only [if_neg hb]
      rw [eaX0_bring_44, ix_9 hk]
      simp only [m_ob]
      rw [on]
  rw [cal_aX0_bring, eaX0_bring_0, ya_reaches _ _ hk]
  simp only [m_bd, Option.toList, List.cons_append, List.nil_append]
  rw [eaX0_bring_5, bZ_if]
  unfold ya_brg
  by_cases h1 : st 47 k = -9
  · simp only [h1, not_true, if_false, if_true, eaX0_bring_25]
  simp only [h1, not_false_iff, if_true, if_false]
  rw [ix_9 hk]
  simp only [m_ob]
  by_cases h2 : st 46 k = 0
  · simp only [h2, if_true, not_true, false_and, if_false]
    exact go
  · simp only [h2, if_false, not_false_iff, true_and, ya_isB, m_bd, Option.toList, List.cons_append, List.nil_append]
    rw [eaX0_bring_22, bZ_if]
    by_cases hb : bt (st 44 5) k = true
    · simp only [hb, if_true, not_true, if_false]
      simp only [hb, if_true] at go
      exact go
    · rw [if_neg hb, eaX0_bring_25, if_pos hb]
theorem yb_isB (d : Nat) (st : zS) (k : Nat) : m_evc (d + 1) 8 [.ref 49, .int (Int32.ofNat k)] (SH, st) = some (some (.int (bZ (bt (st 49 5) k = true))), (SH, st)) := by
  rw [cal_bX0_isBeginning, ebX0_isBeginning_0]
  have e : (bt (st 49 5) k = true) ↔ ((((st 49 5) : Int32).toUInt32 >>> ((Int32.ofNat k : Int32).toUInt32 &&& Int32.toUInt32 31)).toInt32 &&& 1) = 1 := by unfold bt; exact beq_iff_eq
  by_cases h : ((((st 49 5) : Int32).toUInt32 >>> ((Int32.ofNat k : Int32).toUInt32 &&& Int32.toUInt32 31)).toInt32 &&& 1) = 1
  · rw [if_pos h, ebX0_isBeginning_17, if_pos (Or.inr rfl), bZ_t (e.mpr h)]
  · rw [if_neg h, ebX0_isBeginning_16, ebX0_isBeginning_17, if_pos (Or.inl rfl), bZ_f (fun c => h (e.mp c))]
theorem yb_reaches (d : Nat) (st : zS) {k : Nat} (hk : k < 9) : m_evc (d + 1) 10 [.ref 49, .int (Int32.ofNat k)] (SH, st) = some (some (.int (bZ (¬ st 52 k = -9))), (SH, st)) := by
  rw [cal_bX0_reaches, ebX0_reaches_0, ix_9 hk]
  simp only [m_ob]
  by_cases h : st 52 k = -9
  · rw [if_pos h, ebX0_reaches_15, ebX0_reaches_16, if_pos (Or.inl rfl)]
    simp [h, bZ]
  · rw [if_neg h, ebX0_reaches_16, if_pos (Or.inr rfl)]
    simp [h, bZ]
theorem yb_beginAt (d : Nat) (st : zS) (x t : Int32) : RT (m_evc (d + 2) 5 [.ref 49, .int x, .int t] (SH, st)) none (fun st' => fr [49, 52, 53] st st' ∧ st' 49 5 = x ∧ (∀ j, j ≠ 5 → st' 49 j = st 49 j) ∧ ∀ k, k < 9 → st' 52 k = (if bt x k = true then t else -9) ∧ st' 53 k = (if bt x k = true then t else -9)) := by
  have L := lp_inv (fun j (a : zS) => m_ev none (d + 1) 5 7 [some (.ref 49), some (.int x), some (.int t), some (.int (Int32.ofNat j))] [] (SH, a))
    (fun j a => fr [52, 53] (m_up st 49 5 x) a ∧ ∀ k, k < j → a 52 k = (if bt x k = true then t else -9) ∧ a 53 k = (if bt x k = true then t else -9)) 9 ?_ 9 0 (m_up st 49 5 x) (by omega) ⟨fr_refl _ _, fun k hk => by omega⟩
  · obtain ⟨st2, e, f2, g2⟩ := L
    refine ⟨st2, ?_, fr_mono (fr_tr (fr_up0 _ _ _ _) f2) (by decide), ?_, ?_, g2⟩
    · rw [cal_bX0_beginAt, ebX0_beginAt_0]
      refine Eq.trans e ?_
      rw [ebX0_beginAt_7, if_neg (by decide), ebX0_beginAt_51]
    · rw [f2 49 rfl, up_in]
    · intro j hj; rw [f2 49 rfl, up_nj hj]
  · rintro j st1 hj ⟨f1, g1⟩
    have h5 : st1 49 5 = x := by rw [f1 49 rfl, up_in]
    have hlt : Int32.ofNat j < 9 := by
      rw [show (9 : Int32) = Int32.ofNat 9 from rfl, n_lt (by omega) (by omega)]; exact hj
    refine ⟨m_up (m_up st1 52 j (if bt x j = true then t else -9)) 53 j (if bt x j = true then t else -9), ?_, fr_up (fr_up f1 rfl) rfl, ?_⟩
    · rw [ebX0_beginAt_7, if_pos hlt, yb_isB, h5]
      simp only [m_bd, Option.toList, List.cons_append, List.nil_append]
      rw [ebX0_beginAt_23, bZ_if]
      by_cases hb : bt x j = true
      · simp only [if_pos hb]
        rw [ebX0_beginAt_32, ix_9 hj]
        simp only [m_ob, up_in, n_succ]
      · simp only [if_neg hb]
        rw [ebX0_beginAt_30, ebX0_beginAt_32, ix_9 hj]
        simp only [m_ob, up_in, n_succ]
    · intro k hk
      by_cases q : k = j
      · subst q
        rw [up_ne (by decide), up_in, up_in]; exact ⟨rfl, rfl⟩
      · rw [up_ne (by decide), up_nj q, up_nj q, up_ne (by decide)]
        exact g1 k (by omega)
def yb_brg (st : zS) (k to : Nat) (x : Int32) : zS := if st 52 k = -9 then st else if ¬ st 51 k = 0 ∧ ¬ bt (st 49 5) k = true then st else
  if st 2 to = 5 ∧ (st 52 k + (if bt (st 49 5) k = true then 0 else st 4 k)) + x < 360 then st else m_up (m_up st 52 to ((st 52 k + (if bt (st 49 5) k = true then 0 else st 4 k)) + x)) 53 to (st 53 k + st 50 to)
theorem yb_bring (d : Nat) (st : zS) {k to : Nat} (hk : k < 9) (ht : to < 9) (x : Int32) : m_evc (d + 2) 9 [.ref 49, .int (Int32.ofNat k), .int (Int32.ofNat to), .int x] (SH, st) = some (none, (SH, yb_brg st k to x)) := by
  have go : m_ev none (d + 1) 9 26 [some (.ref 49), some (.int (Int32.ofNat k)), some (.int (Int32.ofNat to)), some (.int x), none] [] (SH, st) = some (none, (SH, if st 2 to = 5 ∧ (st 52 k + (if bt (st 49 5) k = true then 0 else st 4 k)) + x < 360 then st else m_up (m_up st 52 to ((st 52 k + (if bt (st 49 5) k = true then 0 else st 4 k)) + x)) 53 to (st 53 k + st 50 to))) := by
    have on : ∀ y : Int32, m_ev none (d + 1) 9 53 [some (.ref 49), some (.int (Int32.ofNat k)), some (.int (Int32.ofNat to)), some (.int x), none] [.int y, .int (st 52 k)] (SH, st) = some (none, (SH, if st 2 to = 5 ∧ (st 52 k + y) + x < 360 then st else m_up (m_up st 52 to ((st 52 k + y) + x)) 53 to (st 53 k + st 50 to))) := by
      intro y
      have w80 : m_ev none (d + 1) 9 80 [some (.ref 49), some (.int (Int32.ofNat k)), some (.int (Int32.ofNat to)), some (.int x), some (.int ((st 52 k + y) + x))] [] (SH, st) = some (none, (SH, m_up (m_up st 52 to ((st 52 k + y) + x)) 53 to (st 53 k + st 50 to))) := by
        rw [ebX0_bring_80, ix_9 ht, ix_9 hk]
        simp only [m_ob]
      rw [ebX0_bring_53, ix_9 ht]
      simp only [m_ob]
      by_cases h5 : st 2 to = 5
      · by_cases h6 : (st 52 k + y) + x < 360
        · simp only [h5, h6, if_true, and_self]
        · simp only [h5, h6, if_true, if_false, and_false]
          exact w80
      · simp only [h5, if_false, false_and]
        exact w80
    rw [ebX0_bring_26, ix_9 hk]
    simp only [m_ob, yb_isB, m_bd, Option.toList, List.cons_append, List.nil_append]
    rw [ebX0_bring_37, bZ_if]
    by_cases hb : bt (st 49 5) k = true
    · simp only [if_pos hb]
      rw [on]
    · simp only [if_neg hb]
      rw [ebX0_bring_44, ix_9 hk]
      simp only [m_ob]
      rw [on]
  rw [cal_bX0_bring, ebX0_bring_0, yb_reaches _ _ hk]
  simp only [m_bd, Option.toList, List.cons_append, List.nil_append]
  rw [ebX0_bring_5, bZ_if]
  unfold yb_brg
  by_cases h1 : st 52 k = -9
  · simp only [h1, not_true, if_false, if_true, ebX0_bring_25]
  simp only [h1, not_false_iff, if_true, if_false]
  rw [ix_9 hk]
  simp only [m_ob]
  by_cases h2 : st 51 k = 0
  · simp only [h2, if_true, not_true, false_and, if_false]
    exact go
  · simp only [h2, if_false, not_false_iff, true_and, yb_isB, m_bd, Option.toList, List.cons_append, List.nil_append]
    rw [ebX0_bring_22, bZ_if]
    by_cases hb : bt (st 49 5) k = true
    · simp only [hb, if_true, not_true, if_false]
      simp only [hb, if_true] at go
      exact go
    · rw [if_neg hb, ebX0_bring_25, if_pos hb]
