/-! RULES IN THE MODEL: a condition as a row of codes, what it says; which rule, what is added -/
def fcv (f : Nat → Int32) (c : Int32) : Int32 := if c = -6 then f 5 else if c = -5 then f 4 else if c = -4 then f 3 else if c = -3 then f 2 else if c = -2 then f 1 else if c = -1 then f 0 else c
def hdP (c x y : Int32) : Int32 := if c = -21 then bZ (x = 1 ∧ y = 1) else if c = -13 then bZ (y < x) else if c = -12 then bZ (x = y) else if c = -11 then bZ (x < y) else bZ (x = 1 ∨ y = 1)
def mstep (f : Nat → Int32) (c : Int32) (k : List Int32) : Option (List Int32) :=
  if -10 < c then some (fcv f c :: k) else if c = -20 then (match k with
    | x :: k => some ((1 - x) :: k)
    | _ => none) else (match k with
    | y :: x :: k => some (hdP c x y :: k)
    | _ => none)
def mev (f : Nat → Int32) : List Int32 → List Int32 → Option (List Int32)
  | [], k => some k
  | c :: l, k => match mstep f c k with
    | some k' => mev f l k'
    | none => none
/-- what stands in a row of codes from a place on -/
def cl (s : Nat → Int32) : Nat → Nat → List Int32
  | _, 0 => []
  | i, m + 1 => s (110 + i) :: cl s (i + 1) m
def mt (k : List Int32) : Bool := match k with
  | [] => true
  | x :: _ => x == 1
def bg (s : Nat → Int32) : Nat → Nat
  | 0 => 0
  | r + 1 => (s (81 + 4 * r)).toNatClampNeg
def cnd (s : Nat → Int32) (r : Nat) (f : Nat → Int32) : Bool := match mev f (cl s (bg s r) (bg s (r + 1) - bg s r)) [] with
  | some k => mt k
  | none => true
def uk (kd a : Int32) : Bool := a == 0 || kd == a || (a == 2 && kd == 3) || (a == 4 && kd == 5)
def ruf (s : Nat → Int32) (kd : Int32) (f : Nat → Int32) : Nat → Nat → Option Nat
  | 0, _ => none
  | m + 1, r => if uk kd (s (78 + 4 * r)) && cnd s r f then some r else ruf s kd f m (r + 1)
def fcs (s : Nat → Int32) (k : Nat) : Nat → Int32
  | 0 => s 2
  | 1 => s (5 + (s 2).toNatClampNeg) + 3
  | 2 => s (13 + 6 * k)
  | 3 => s (14 + 6 * k)
  | 4 => s (15 + 6 * k)
  | _ => Int32.ofNat k
def rof (s : Nat → Int32) (k : Nat) : Option Nat := ruf s (s (12 + 6 * k)) (fcs s k) (s 4).toNatClampNeg 0
def ab (s : Nat → Int32) (k : Nat) (o : Option Nat) : Int32 := match o with
  | none => s (13 + 6 * k)
  | some r => if s (79 + 4 * r) = 0 then s (80 + 4 * r) else if s (79 + 4 * r) = 1 then s (13 + 6 * k) + s (80 + 4 * r) else if s (79 + 4 * r) = 2 then s (80 + 4 * r) * s (15 + 6 * k) else s (13 + 6 * k)
def aw (s : Nat → Int32) (k : Nat) (a : Int32) : Int32 := if s (12 + 6 * k) = 2 then 2 * a else if s (12 + 6 * k) = 3 then 2 * a + (if s 2 = 6 then 10 else 0) else if 3 < s (12 + 6 * k) then a + s (14 + 6 * k) else a
def ads (s : Nat → Int32) (k : Nat) : Int32 := aw s k (ab s k (rof s k))
def slw (s : Nat → Int32) (o : Option Nat) : Bool := match o with
  | none => false
  | some r => s (79 + 4 * r) == 3
def sil (s : Nat → Int32) (k : Nat) : Bool := slw s (rof s k)
/-- the rules of the model's row stand well: their places, their conditions -/
def RG (s : Nat → Int32) : Prop := s 4 = Int32.ofNat (s 4).toNatClampNeg ∧ (s 4).toNatClampNeg ≤ 8 ∧ ∀ r, r < (s 4).toNatClampNeg → s (81 + 4 * r) = Int32.ofNat (bg s (r + 1)) ∧ bg s r ≤ bg s (r + 1) ∧ bg s (r + 1) ≤ 200 ∧ ∀ f, ∃ k, k.length ≤ 1 ∧ mev f (cl s (bg s r) (bg s (r + 1) - bg s r)) [] = some k
def DG (s : Nat → Int32) : Prop := s 2 = Int32.ofNat (s 2).toNatClampNeg ∧ (s 2).toNatClampNeg < 7
theorem s_its (d : Nat) (st : zS) (a b : Int32) : m_evc (d + 2) 164 [.ref 85, .int a, .int b] (SH, st) = m_ob (m_ix ((12 + 6 * a) + b) 310) fun q => some (some (.int (st 86 q)), (SH, st)) := by
  simp only [cal_X12_its, eX12_its_0, cal_X12_at, eX12_at_0, m_bd, Option.toList, List.cons_append, List.nil_append, eX12_its_9]
theorem s_its0 (d : Nat) (st : zS) {k : Nat} (h : k < 9) : m_evc (d + 2) 164 [.ref 85, .int (Int32.ofNat k), .int 0] (SH, st) = some (some (.int (st 86 (12 + 6 * k))), (SH, st)) := by rw [s_its, ix_T0 h]; rfl
theorem s_its1 (d : Nat) (st : zS) {k : Nat} (h : k < 9) : m_evc (d + 2) 164 [.ref 85, .int (Int32.ofNat k), .int 1] (SH, st) = some (some (.int (st 86 (13 + 6 * k))), (SH, st)) := by rw [s_its, ix_T1 h]; rfl
theorem s_its2 (d : Nat) (st : zS) {k : Nat} (h : k < 9) : m_evc (d + 2) 164 [.ref 85, .int (Int32.ofNat k), .int 2] (SH, st) = some (some (.int (st 86 (14 + 6 * k))), (SH, st)) := by rw [s_its, ix_T2 h]; rfl
theorem s_its3 (d : Nat) (st : zS) {k : Nat} (h : k < 9) : m_evc (d + 2) 164 [.ref 85, .int (Int32.ofNat k), .int 3] (SH, st) = some (some (.int (st 86 (15 + 6 * k))), (SH, st)) := by rw [s_its, ix_T3 h]; rfl
theorem s_its4 (d : Nat) (st : zS) {k : Nat} (h : k < 9) : m_evc (d + 2) 164 [.ref 85, .int (Int32.ofNat k), .int 4] (SH, st) = some (some (.int (st 86 (16 + 6 * k))), (SH, st)) := by rw [s_its, ix_T4 h]; rfl
theorem s_its5 (d : Nat) (st : zS) {k : Nat} (h : k < 9) : m_evc (d + 2) 164 [.ref 85, .int (Int32.ofNat k), .int 5] (SH, st) = some (some (.int (st 86 (17 + 6 * k))), (SH, st)) := by rw [s_its, ix_T5 h]; rfl
theorem n_m6 : Int32.ofNat 4294967290 = -6 := by decide
theorem n_m5 : Int32.ofNat 4294967291 = -5 := by decide
theorem n_m4 : Int32.ofNat 4294967292 = -4 := by decide
theorem n_m3 : Int32.ofNat 4294967293 = -3 := by decide
theorem n_m2 : Int32.ofNat 4294967294 = -2 := by decide
theorem n_m1 : Int32.ofNat 4294967295 = -1 := by decide
theorem n_m21 : Int32.ofNat 4294967275 = -21 := by decide
theorem n_m13 : Int32.ofNat 4294967283 = -13 := by decide
theorem n_m12 : Int32.ofNat 4294967284 = -12 := by decide
theorem n_m11 : Int32.ofNat 4294967285 = -11 := by decide
theorem s_fact (d : Nat) (st : zS) {k : Nat} (hk : k < 9) (hd : DG (st 86)) (c : Int32) : m_evc (d + 3) 168 [.ref 85, .int c, .int (Int32.ofNat k)] (SH, st) = some (some (.int (fcv (fcs (st 86) k) c)), (SH, st)) := by
  obtain ⟨d1, d2⟩ := hd
  have e2 : m_ix (5 + st 86 2) 310 = some (5 + (st 86 2).toNatClampNeg) := by
    have := ix_W d2
    rw [← d1] at this; exact this
  rw [cal_X12_fact, eX12_fact_0]
  simp only [m_case, fcv, n_m6, n_m5, n_m4, n_m3, n_m2, n_m1]
  split
  · rw [eX12_fact_84]; rfl
  split
  · rw [eX12_fact_77, s_its3 _ _ hk]
    simp only [m_bd, Option.toList, List.cons_append, List.nil_append, eX12_fact_83, fcs]
  split
  · rw [eX12_fact_70, s_its2 _ _ hk]
    simp only [m_bd, Option.toList, List.cons_append, List.nil_append, eX12_fact_76, fcs]
  split
  · rw [eX12_fact_63, s_its1 _ _ hk]
    simp only [m_bd, Option.toList, List.cons_append, List.nil_append, eX12_fact_69, fcs]
  split
  · rw [eX12_fact_47, e2]; rfl
  split
  · rw [eX12_fact_40]; rfl
  · rw [eX12_fact_86]
theorem s_isHolding (d : Nat) (st : zS) (c x y : Int32) : m_evc (d + 1) 169 [.int c, .int x, .int y] (SH, st) = some (some (.int (hdP c x y)), (SH, st)) := by
  rw [cal_X12_isHolding, eX12_isHolding_0]
  simp only [m_case, hdP, n_m21, n_m13, n_m12, n_m11]
  split
  · rw [eX12_isHolding_77]
    by_cases h1 : x = 1
    · by_cases h2 : y = 1
      · simp only [h1, h2, if_true, eX12_isHolding_92, bZ, and_self, or_true, if_true]
      · simp only [h1, h2, if_true, if_false, eX12_isHolding_91, eX12_isHolding_92, bZ, and_false, true_or, if_true]
    · simp only [h1, if_false, eX12_isHolding_91, eX12_isHolding_92, bZ, false_and, true_or, if_true]
  split
  · rw [eX12_isHolding_66]
    by_cases h1 : y < x
    · simp only [h1, if_true, eX12_isHolding_76, bZ, or_true, if_true]
    · simp only [h1, if_false, eX12_isHolding_75, eX12_isHolding_76, bZ, true_or, if_true]
  split
  · rw [eX12_isHolding_55]
    by_cases h1 : x = y
    · simp only [h1, if_true, eX12_isHolding_65, bZ, or_true, if_true]
    · simp only [h1, if_false, eX12_isHolding_64, eX12_isHolding_65, bZ, true_or, if_true]
  split
  · rw [eX12_isHolding_44]
    by_cases h1 : x < y
    · simp only [h1, if_true, eX12_isHolding_54, bZ, or_true, if_true]
    · simp only [h1, if_false, eX12_isHolding_53, eX12_isHolding_54, bZ, true_or, if_true]
  · rw [eX12_isHolding_93]
    by_cases h1 : x = 1
    · simp only [h1, if_true, eX12_isHolding_103, eX12_isHolding_108, bZ, true_or, or_true, if_true]
    · by_cases h2 : y = 1
      · simp only [h1, h2, if_true, if_false, eX12_isHolding_103, eX12_isHolding_108, bZ, or_true, or_true, if_true]
      · simp only [h1, h2, if_false, eX12_isHolding_107, eX12_isHolding_108, bZ, or_self, true_or, if_true]
theorem hdP_01 (c x y : Int32) : hdP c x y = 0 ∨ hdP c x y = 1 := by
  unfold hdP
  split
  · simp only [bZ_ok]
  split
  · simp only [bZ_ok]
  split
  · simp only [bZ_ok]
  split
  · simp only [bZ_ok]
  · simp only [bZ_ok]
set_option maxRecDepth 20000 in
theorem c81_b (F : mG → Option mF) (cal : mK) (st : Nat → Nat → Int32) (x1 x2 x3 y x5 x6 : Int32) : m_BK none cal F [(.aload_n 0, 1, (0, 0), []),
  (.getfield 19, 3, (0, 0), [[4, 5115, 0, 1], [12]]),
  (.iload 4, 2, (0, 0), []),
  (.iconst 1, 1, (1, 0), []),
  (.isub, 1, (0, 0), []),
  (.iload 6, 2, (0, 0), []),
  (.aload_n 0, 1, (0, 0), []),
  (.getfield 19, 3, (0, 0), [[4, 5115, 0, 1], [12]]),
  (.iload 4, 2, (0, 0), []),
  (.iconst 1, 1, (1, 0), []),
  (.isub, 1, (0, 0), []),
  (.iaload, 1, (0, 0), []),
  (.aload_n 0, 1, (0, 0), []),
  (.getfield 19, 3, (0, 0), [[4, 5115, 0, 1], [12]]),
  (.iload 4, 2, (0, 0), []),
  (.iaload, 1, (0, 0), []),
  (.invokestatic 88, 3, (0, 0), [[3, 169, 6025, 6026, 0]])] 84 [some (.ref 85), some (.int x1), some (.int x2), some (.int x3), some (.int y), some (.int x5), some (.int x6)] [] (SH, st) = m_ob (m_ix (y - 1) 200) fun q1 => m_ob (m_ix y 200) fun q2 => m_bd (cal 169 [.int x6, .int (st 89 q1), .int (st 89 q2)] (SH, st)) fun w h => F (.inr (113, [some (.ref 85), some (.int x1), some (.int x2), some (.int x3), some (.int y), some (.int x5), some (.int x6)], w.toList ++ [.int (y - 1), .ref 89], h)) := rfl
set_option maxRecDepth 20000 in
theorem c81_c (F : mG → Option mF) (cal : mK) (r : List mO) (st : Nat → Nat → Int32) (x1 x2 x3 x4 x5 x6 : Int32) : m_BK none cal F ((.iinc 4 (-1), 3, ((-1), 0), []) :: r) 81 [some (.ref 85), some (.int x1), some (.int x2), some (.int x3), some (.int x4), some (.int x5), some (.int x6)] [] (SH, st) = m_BK none cal F r 84 [some (.ref 85), some (.int x1), some (.int x2), some (.int x3), some (.int (x4 + (-1))), some (.int x5), some (.int x6)] [] (SH, st) := by
  rw [m_BK]
  · rfl
  all_goals (intros; contradiction)
theorem eX12_isSo_81 (d : Nat) (st : Nat → Nat → Int32) (x1 x2 x3 x4 x5 x6 : Int32) : m_ev none d 170 81 [some (.ref 85), some (.int x1), some (.int x2), some (.int x3), some (.int x4), some (.int x5), some (.int x6)] [] (SH, st) = m_ob (m_ix ((x4 + (-1)) - 1) 200) fun q1 => m_ob (m_ix (x4 + (-1)) 200) fun q2 => m_bd (m_evc d 169 [.int x6, .int (st 89 q1), .int (st 89 q2)] (SH, st)) fun w h => m_ev none d 170 113 [some (.ref 85), some (.int x1), some (.int x2), some (.int x3), some (.int (x4 + (-1))), some (.int x5), some (.int x6)] (w.toList ++ [.int ((x4 + (-1)) - 1), .ref 89]) h := by
  rw [m_ev_K]
  have e : mP 170 81 = qX12_isSo_81 := rfl
  rw [e]
  unfold qX12_isSo_81
  rw [c81_c, c81_b]
  rfl
def sk (f : Nat → Int32) : List Int32 → Prop
  | [] => True
  | x :: k => f k.length = x ∧ sk f k
theorem sk_up {f : Nat → Int32} {n : Nat} {v : Int32} : ∀ {k : List Int32}, sk f k → k.length ≤ n → sk (fun b => if b = n then v else f b) k
  | [], _, _ => trivial
  | x :: k, h, hn => by
    simp only [List.length_cons] at hn
    refine ⟨?_, sk_up h.2 (by omega)⟩
    show (if k.length = n then v else f k.length) = x
    rw [if_neg (by omega)]; exact h.1
theorem sk_top {f : Nat → Int32} {v : Int32} {k : List Int32} (h : sk f k) : sk (fun b => if b = k.length then v else f b) (v :: k) := ⟨by simp, sk_up h (Nat.le_refl _)⟩
theorem up_row (st : zS) (i j : Nat) (v : Int32) : m_up st i j v i = fun b => if b = j then v else st i b := by
  funext b; simp [m_up]
