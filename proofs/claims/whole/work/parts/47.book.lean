/-! RULES IN THE CLASS: steps over truths, what a rule says, which it is -/
def lft (c : Int32) : Int32 := (((c : Int32).toUInt32 >>> ((14 : Int32).toUInt32 &&& Int32.toUInt32 31)).toInt32 &&& 16383)
def rgt (c : Int32) : Int32 := c &&& 16383
def sgn (c : Int32) : Int32 := ((c : Int32).toUInt32 >>> ((28 : Int32).toUInt32 &&& Int32.toUInt32 31)).toInt32
def opv (f : Nat → Int32) (o : Int32) : Int32 := if o < 10000 then o else if o - 10000 < 6 then f (o - 10000).toNatClampNeg else o
def cmb (f : Nat → Int32) (c : Int32) : Bool := if sgn c = 1 then decide (opv f (lft c) < opv f (rgt c)) else if sgn c = 2 then opv f (lft c) == opv f (rgt c) else decide (opv f (rgt c) < opv f (lft c))
def cstep (f : Nat → Int32) (c : Int32) (k : List Bool) : Option (List Bool) :=
  if c = 1 then (match k with
    | x :: y :: k => some ((y || x) :: k)
    | _ => none) else if c = 2 then (match k with
    | x :: y :: k => some ((y && x) :: k)
    | _ => none) else if c = 3 then (match k with
    | x :: k => some ((!x) :: k)
    | _ => none) else if k.length < 25 then some (cmb f c :: k) else none
def cev (f : Nat → Int32) : List Int32 → List Bool → Option (List Bool)
  | [], k => some k
  | c :: l, k => match cstep f c k with
    | some k' => cev f l k'
    | none => none
def cls (S : Nat → Int32) : Nat → Nat → List Int32
  | _, 0 => []
  | i, m + 1 => S i :: cls S (i + 1) m
def cb (E : Nat → Int32) : Nat → Nat
  | 0 => 0
  | r + 1 => (E r).toNatClampNeg
def cmt (k : List Bool) : Bool := match k with
  | [] => true
  | b :: _ => b
theorem opv_ix {o : Int32} (h : ¬ o < 10000) (h6 : o - 10000 < 6) : m_ix (o - 10000) 6 = some (o - 10000).toNatClampNeg := by
  rw [i_lt] at h h6
  have e1 : (10000 : Int32).toInt = 10000 := rfl
  have e2 : (6 : Int32).toInt = 6 := rfl
  have e3 : o.toInt < 2147483648 := Int32.toInt_lt o
  have e4 : (o - 10000).toInt = o.toInt - 10000 := by
    rw [Int32.toInt_sub, e1]
    apply Int.bmod_eq_of_le <;> omega
  rw [e1] at h
  rw [e2, e4] at h6
  unfold m_ix
  rw [if_neg]
  intro q
  rcases q with q | q
  · rw [i_lt, e4] at q
    have : (0 : Int32).toInt = 0 := rfl
    omega
  · have : (o - 10000).toNatClampNeg = (o - 10000).toInt.toNat := rfl
    rw [this, e4] at q
    omega
theorem s_isTrue (d : Nat) (st : zS) (c : Int32) : m_evc (d + 1) 31 [.int c, .ref 17] (SH, st) = some (some (.int (bZ (cmb (st 17) c = true))), (SH, st)) := by
  have T65 : ∀ x2 x3 : Int32, m_ev none d 31 65 [some (.int c), some (.ref 17), some (.int x2), some (.int x3)] [] (SH, st) = some (some (.int (bZ ((if sgn c = 1 then decide (x2 < x3) else if sgn c = 2 then x2 == x3 else decide (x3 < x2)) = true))), (SH, st)) := by
    intro x2 x3
    rw [eX5_isTrue_65]
    have e : m_case ((c : Int32).toUInt32 >>> ((28 : Int32).toUInt32 &&& Int32.toUInt32 31)).toInt32 [[1, 96], [2, 107]] 118 = if sgn c = 1 then 96 else if sgn c = 2 then 107 else 118 := rfl
    rw [e]
    split
    · rw [eX5_isTrue_96]
      by_cases h : x2 < x3
      · simp [h, eX5_isTrue_106, bZ]
      · simp [h, eX5_isTrue_105, eX5_isTrue_106, bZ]
    split
    · rw [eX5_isTrue_107]
      by_cases h : x2 = x3
      · simp [h, eX5_isTrue_117, bZ]
      · simp [h, eX5_isTrue_116, eX5_isTrue_117, bZ]
    · rw [eX5_isTrue_118]
      by_cases h : x3 < x2
      · simp [h, eX5_isTrue_128, bZ]
      · simp [h, eX5_isTrue_127, eX5_isTrue_128, bZ]
  have T40 : ∀ x2 x3 : Int32, m_ev none d 31 40 [some (.int c), some (.ref 17), some (.int x2), some (.int x3)] [] (SH, st) = some (some (.int (bZ ((if sgn c = 1 then decide (x2 < opv (st 17) x3) else if sgn c = 2 then x2 == opv (st 17) x3 else decide (opv (st 17) x3 < x2)) = true))), (SH, st)) := by
    intro x2 x3
    rw [eX5_isTrue_40]
    by_cases h : x3 < 10000
    · have : opv (st 17) x3 = x3 := by unfold opv; rw [if_pos h]
      rw [if_pos h, T65, this]
    · rw [if_neg h]
      by_cases h6 : x3 - 10000 < 6
      · have : opv (st 17) x3 = st 17 (x3 - 10000).toNatClampNeg := by unfold opv; rw [if_neg h, if_pos h6]
        rw [if_pos h6, opv_ix h h6, this]
        simp only [m_ob]
        rw [T65]
      · have : opv (st 17) x3 = x3 := by unfold opv; rw [if_neg h, if_neg h6]
        rw [if_neg h6, T65, this]
  rw [cal_X5_isTrue, eX5_isTrue_0]
  change (if lft c < 10000 then m_ev none d 31 40 [some (.int c), some (.ref 17), some (.int (lft c)), some (.int (rgt c))] [] (SH, st) else if lft c - 10000 < 6 then m_ob (m_ix (lft c - 10000) 6) (fun q1 => m_ev none d 31 40 [some (.int c), some (.ref 17), some (.int (st 17 q1)), some (.int (rgt c))] [] (SH, st)) else m_ev none d 31 40 [some (.int c), some (.ref 17), some (.int (lft c)), some (.int (rgt c))] [] (SH, st)) = _
  unfold cmb
  by_cases h : lft c < 10000
  · have : opv (st 17) (lft c) = lft c := by unfold opv; rw [if_pos h]
    rw [if_pos h, T40, this]
  · rw [if_neg h]
    by_cases h6 : lft c - 10000 < 6
    · have : opv (st 17) (lft c) = st 17 (lft c - 10000).toNatClampNeg := by unfold opv; rw [if_neg h, if_pos h6]
      rw [if_pos h6, opv_ix h h6, this]
      simp only [m_ob]
      rw [T40]
    · have : opv (st 17) (lft c) = lft c := by unfold opv; rw [if_neg h, if_neg h6]
      rw [if_neg h6, T40, this]
theorem b_nat (b : Bool) : bZ (b = true) = Int32.ofNat b.toNat := by cases b <;> simp [bZ] <;> rfl
theorem b_is1 (b : Bool) : (Int32.ofNat b.toNat = 1) = (b = true) := by cases b <;> simp <;> decide
theorem isMet_step (d : Nat) (st : zS) {r i e : Nat} (hr : r < 8) (he : st 13 r = Int32.ofNat e) (hie : i < e) (h200 : e ≤ 200) {K K' : List Bool} (hK : K.length ≤ 25) (hm : cstep (st 17) (st 14 i) K = some K') (x5 : Option Value) :
    K'.length ≤ 25 ∧ ∃ y5, m_ev none (d + 1) 30 20 [some (.ref 9), some (.int (Int32.ofNat r)), some (.ref 17), some (.int (Int32.ofNat (enc K))), some (.int (Int32.ofNat i)), x5] [] (SH, st) = m_ev none (d + 1) 30 20 [some (.ref 9), some (.int (Int32.ofNat r)), some (.ref 17), some (.int (Int32.ofNat (enc K'))), some (.int (Int32.ofNat (i + 1))), some (.int y5)] [] (SH, st) := by
  have hlt : Int32.ofNat i < Int32.ofNat e := by rw [n_lt (by omega) (by omega)]; exact hie
  have ecase : ∀ c : Int32, m_case c [[1, 68], [2, 78], [3, 99]] 106 = if c = 1 then 68 else if c = 2 then 78 else if c = 3 then 99 else 106 := fun c => rfl
  rw [eX5_isMet_20, ix_8 hr]
  simp only [m_ob]
  rw [he, if_pos hlt, ix_200 (show i < 200 by omega)]
  simp only [m_ob, ecase]
  unfold cstep at hm
  by_cases h1 : st 14 i = 1
  · rw [if_pos h1] at hm ⊢
    match K, hm, hK with
    | [], hm, _ => cases hm
    | [_], hm, _ => cases hm
    | x :: y :: K, hm, hK =>
      cases hm
      simp only [List.length_cons] at hK
      have hk := enc_30 (k := K) (by omega)
      have hk1 := enc_30 (k := y :: K) (by simp only [List.length_cons]; omega)
      refine ⟨by simp only [List.length_cons]; omega, Int32.ofNat (enc (y :: K)), ?_⟩
      rw [eX5_isMet_68, eX5_isMet_130]
      rw [show enc (x :: y :: K) = 2 * enc (y :: K) + x.toNat from rfl, b_half hk1, b_low, show enc (y :: K) = 2 * enc K + y.toNat from rfl, b_or, n_succ]
      rfl
  rw [if_neg h1] at hm ⊢
  by_cases h2 : st 14 i = 2
  · rw [if_pos h2] at hm ⊢
    match K, hm, hK with
    | [], hm, _ => cases hm
    | [_], hm, _ => cases hm
    | x :: y :: K, hm, hK =>
      cases hm
      simp only [List.length_cons] at hK
      have hk := enc_30 (k := K) (by omega)
      have hk1 := enc_30 (k := y :: K) (by simp only [List.length_cons]; omega)
      refine ⟨by simp only [List.length_cons]; omega, Int32.ofNat (enc (y :: K)), ?_⟩
      rw [eX5_isMet_78]
      rw [show enc (x :: y :: K) = 2 * enc (y :: K) + x.toNat from rfl, b_half hk1, b_low]
      cases x with
      | true =>
        rw [if_pos (show Int32.ofNat true.toNat = 1 from rfl), eX5_isMet_95, eX5_isMet_130, n_succ, Bool.and_true]
      | false =>
        rw [if_neg (by decide), eX5_isMet_90, eX5_isMet_95, eX5_isMet_130, n_succ, Bool.and_false, show enc (y :: K) = 2 * enc K + y.toNat from rfl, b_off hk]
        rfl
  rw [if_neg h2] at hm ⊢
  by_cases h3 : st 14 i = 3
  · rw [if_pos h3] at hm ⊢
    match K, hm, hK with
    | [], hm, _ => cases hm
    | x :: K, hm, hK =>
      cases hm
      simp only [List.length_cons] at hK
      refine ⟨by simp only [List.length_cons]; omega, ((((Int32.ofNat (enc (x :: K))) : Int32).toUInt32 >>> ((1 : Int32).toUInt32 &&& Int32.toUInt32 31)).toInt32), ?_⟩
      rw [eX5_isMet_99, eX5_isMet_130, show enc (x :: K) = 2 * enc K + x.toNat from rfl, b_xor, n_succ]
      rfl
  rw [if_neg h3] at hm ⊢
  by_cases h4 : K.length < 25
  · rw [if_pos h4] at hm
    cases hm
    refine ⟨by simp only [List.length_cons]; omega, ((((Int32.ofNat (enc K)) : Int32).toUInt32 >>> ((1 : Int32).toUInt32 &&& Int32.toUInt32 31)).toInt32), ?_⟩
    rw [eX5_isMet_106, ix_200 (show i < 200 by omega)]
    simp only [m_ob, s_isTrue, m_bd, Option.toList, List.cons_append, List.nil_append]
    rw [eX5_isMet_120, b_shl]
    have hb : Int32.ofNat (enc (cmb (st 17) (st 14 i) :: K)) = Int32.ofNat (2 * enc K) ||| Int32.ofNat (cmb (st 17) (st 14 i)).toNat := by
      have := b_or (m := enc K) (b := false) (c := cmb (st 17) (st 14 i))
      rw [show 2 * enc K + false.toNat = 2 * enc K from rfl] at this
      rw [this, Bool.false_or]; rfl
    rw [hb]
    cases hc : cmb (st 17) (st 14 i) with
    | true =>
      rw [show bZ (true = true) = 1 from rfl, if_neg i_10, eX5_isMet_128, eX5_isMet_130, n_succ]
      rfl
    | false =>
      rw [show bZ (false = true) = 0 from rfl, if_pos rfl, eX5_isMet_127, eX5_isMet_128, eX5_isMet_130, n_succ]
      rfl
  · rw [if_neg h4] at hm; cases hm
theorem isMet_run (d : Nat) (st : zS) {r e : Nat} (hr : r < 8) (he : st 13 r = Int32.ofNat e) (h200 : e ≤ 200) : ∀ (m i : Nat) (K K' : List Bool) (x5 : Option Value), i + m = e → K.length ≤ 25 → cev (st 17) (cls (st 14) i m) K = some K' →
    ∃ y5, m_ev none (d + 1) 30 20 [some (.ref 9), some (.int (Int32.ofNat r)), some (.ref 17), some (.int (Int32.ofNat (enc K))), some (.int (Int32.ofNat i)), x5] [] (SH, st) = m_ev none (d + 1) 30 136 [some (.ref 9), some (.int (Int32.ofNat r)), some (.ref 17), some (.int (Int32.ofNat (enc K'))), some (.int (Int32.ofNat e)), y5] [] (SH, st)
  | 0, i, K, K', x5, hi, hK, hm => by
    have : i = e := by omega
    subst this
    cases hm
    refine ⟨x5, ?_⟩
    rw [eX5_isMet_20, ix_8 hr]
    simp only [m_ob]
    rw [he, if_neg]
    rw [n_lt (by omega) (by omega)]; omega
  | m + 1, i, K, K', x5, hi, hK, hm => by
    unfold cls cev at hm
    split at hm
    · rename_i K1 h1
      obtain ⟨l1, y5, e1⟩ := isMet_step d st hr he (show i < e by omega) h200 hK h1 x5
      obtain ⟨z5, e2⟩ := isMet_run d st hr he h200 m (i + 1) K1 K' (some (.int y5)) (by omega) l1 hm
      exact ⟨z5, e1.trans e2⟩
    · cases hm
/-- the class's rules (rows of a book) and the model's say the same -/
def CBr (bf kd dd nm en sp s : Nat → Int32) : Prop := RG s ∧ bf 0 = s 4 ∧ ∀ r, r < (s 4).toNatClampNeg → kd r = s (78 + 4 * r) ∧ dd r = s (79 + 4 * r) ∧ nm r = s (80 + 4 * r) ∧ en r = Int32.ofNat (cb en (r + 1)) ∧ cb en r ≤ cb en (r + 1) ∧ cb en (r + 1) ≤ 200 ∧ ∀ f, ∃ K : List Bool, K.length ≤ 1 ∧ cev f (cls sp (cb en r) (cb en (r + 1) - cb en r)) [] = some K ∧ mev f (cl s (bg s r) (bg s (r + 1) - bg s r)) [] = some (K.map fun b => bZ (b = true))
def CB (st : zS) (s : Nat → Int32) : Prop := CBr (st 9) (st 10) (st 11) (st 12) (st 13) (st 14) s
theorem s_isMet (d : Nat) (st : zS) {s : Nat → Int32} (hB : CB st s) {r : Nat} (hr : r < (s 4).toNatClampNeg) : m_evc (d + 2) 30 [.ref 9, .int (Int32.ofNat r), .ref 17] (SH, st) = some (some (.int (bZ (cnd s r (st 17) = true))), (SH, st)) := by
  obtain ⟨hR, h0, hA⟩ := hB
  obtain ⟨_, _, _, a4, a5, a6, a7⟩ := hA r hr
  obtain ⟨K, k1, k2, k3⟩ := a7 (st 17)
  have hr8 : r < 8 := by have := hR.2.1; omega
  obtain ⟨y5, e1⟩ := isMet_run d st hr8 a4 a6 (cb (st 13) (r + 1) - cb (st 13) r) (cb (st 13) r) [] K none (by omega) (by simp) k2
  have hc : cnd s r (st 17) = cmt K := by
    unfold cnd; rw [k3]
    match K with
    | [] => rfl
    | true :: _ => rfl
    | false :: _ => rfl
  have start : m_evc (d + 2) 30 [.ref 9, .int (Int32.ofNat r), .ref 17] (SH, st) = m_ev none (d + 1) 30 20 [some (.ref 9), some (.int (Int32.ofNat r)), some (.ref 17), some (.int (Int32.ofNat (enc []))), some (.int (Int32.ofNat (cb (st 13) r))), none] [] (SH, st) := by
    rw [cal_X5_isMet, eX5_isMet_0]
    cases r with
    | zero =>
      rw [if_pos (show Int32.ofNat 0 = 0 from rfl), eX5_isMet_18]
      rfl
    | succ q =>
      rw [if_neg (by rw [show (0 : Int32) = Int32.ofNat 0 from rfl, n_eq (by omega) (by omega)]; omega), eX5_isMet_10, n_pred, ix_8 (show q < 8 by omega)]
      simp only [m_ob]
      rw [eX5_isMet_18, (hA q (by omega)).2.2.2.1]
      rfl
  rw [start, e1, eX5_isMet_136, hc]
  match K with
  | [] =>
    rw [show Int32.ofNat (enc []) &&& 1 = 1 by decide, if_pos rfl, eX5_isMet_148]
    rfl
  | b :: K =>
    rw [show enc (b :: K) = 2 * enc K + b.toNat from rfl, b_low]
    cases b with
    | true => rw [if_pos (show Int32.ofNat true.toNat = 1 from rfl), eX5_isMet_148]; rfl
    | false => rw [if_neg (by decide), eX5_isMet_147, eX5_isMet_148]; rfl
theorem s_isUnderX (d : Nat) (st : zS) (x y : Int32) : m_evc (d + 1) 90 [.int x, .int y] (SH, st) = some (some (.int (bZ (uk x y = true))), (SH, st)) := by
  rw [cal_X11_isUnder, eX11_isUnder_0]
  simp only [eX11_isUnder_19, eX11_isUnder_29, eX11_isUnder_33, eX11_isUnder_34, true_or, or_true, if_true]
  unfold uk bZ
  by_cases h1 : x = y
  · simp [h1]
  by_cases h2 : y = 0
  · simp [h1, h2]
  by_cases h3 : x = 3
  · subst h3
    by_cases h4 : y = 2
    · simp [h4]
    · simp [h1, h2, h4]
  · by_cases h5 : x = 5
    · subst h5
      by_cases h6 : y = 4
      · simp [h6]
      · simp [h1, h2, h6]
    · simp [h1, h2, h3, h5]
def oz (o : Option Nat) : Int32 := match o with
  | none => -1
  | some q => Int32.ofNat q
theorem firstFor_run (d : Nat) (st : zS) {s : Nat → Int32} (hB : CB st s) (kd : Int32) : ∀ (m r : Nat), r + m = (s 4).toNatClampNeg → m_ev none (d + 2) 29 2 [some (.ref 9), some (.int kd), some (.ref 17), some (.int (Int32.ofNat r))] [] (SH, st) = some (some (.int (oz (ruf s kd (st 17) m r))), (SH, st))
  | 0, r, h => by
    have h8 := hB.1.2.1
    rw [eX5_firstFor_2, if_neg, eX5_firstFor_40]
    · rfl
    · rw [hB.2.1, hB.1.1, n_lt (by omega) (by omega)]; omega
  | m + 1, r, h => by
    have h8 := hB.1.2.1
    have hr : r < (s 4).toNatClampNeg := by omega
    rw [eX5_firstFor_2, if_pos (by rw [hB.2.1, hB.1.1, n_lt (by omega) (by omega)]; omega), ix_8 (show r < 8 by omega)]
    simp only [m_ob, s_isUnderX, m_bd, Option.toList, List.cons_append, List.nil_append]
    rw [eX5_firstFor_20, bZ_if, (hB.2.2 r hr).1]
    by_cases hu : uk kd (s (78 + 4 * r)) = true
    · rw [if_pos hu, s_isMet d st hB hr]
      simp only [m_bd, Option.toList, List.cons_append, List.nil_append]
      rw [eX5_firstFor_29, bZ_if]
      by_cases hc : cnd s r (st 17) = true
      · have hq : ruf s kd (st 17) (m + 1) r = some r := by
          show (if _ then _ else _) = _
          rw [hu, hc]; rfl
        rw [if_pos hc, hq]
        rfl
      · have hq : ruf s kd (st 17) (m + 1) r = ruf s kd (st 17) m (r + 1) := by
          show (if _ then _ else _) = _
          rw [hu]; simp [hc]
        rw [if_neg hc, eX5_firstFor_34, n_succ, hq]
        exact firstFor_run d st hB kd m (r + 1) (by omega)
    · have hq : ruf s kd (st 17) (m + 1) r = ruf s kd (st 17) m (r + 1) := by
        show (if _ then _ else _) = _
        simp [hu]
      rw [if_neg hu, eX5_firstFor_34, n_succ, hq]
      exact firstFor_run d st hB kd m (r + 1) (by omega)
