/-! THE TAPE: where tokens begin and end, what words are worth (b: the bytes, n: how many) -/
def ru (P : Nat → Bool) : Nat → Nat → Nat
  | 0, p => p
  | m + 1, p => if P p = true then ru P m (p + 1) else p
def rz (P : Nat → Bool) (p : Nat) : Nat := ru P (200 - p) p
theorem ru_ge (P : Nat → Bool) : ∀ m p, p ≤ ru P m p
  | 0, p => Nat.le_refl p
  | m + 1, p => by
    show p ≤ if P p = true then ru P m (p + 1) else p
    split
    · have := ru_ge P m (p + 1); omega
    · omega
theorem ru_all (P : Nat → Bool) : ∀ m p i, p ≤ i → i < ru P m p → P i = true
  | 0, p, i, h, g => by
    have g : i < p := g
    omega
  | m + 1, p, i, h, g => by
    have g : i < if P p = true then ru P m (p + 1) else p := g
    split at g
    · by_cases q : i = p
      · subst q; assumption
      · exact ru_all P m (p + 1) i (by omega) g
    · omega
theorem ru_le {P : Nat → Bool} {n : Nat} (hP : ∀ i, P i = true → i < n) : ∀ m p, p ≤ n → ru P m p ≤ n
  | 0, p, h => h
  | m + 1, p, h => by
    show (if P p = true then ru P m (p + 1) else p) ≤ n
    split
    · rename_i q
      exact ru_le hP m (p + 1) (hP p q)
    · exact h
theorem ru_end {P : Nat → Bool} (hP : ∀ i, P i = true → i < 200) : ∀ m p, 200 ≤ p + m → P (ru P m p) = false
  | 0, p, h => by
    show P p = false
    cases q : P p with
    | false => rfl
    | true => have := hP p q; omega
  | m + 1, p, h => by
    show P (if P p = true then ru P m (p + 1) else p) = false
    split
    · exact ru_end hP m (p + 1) (by omega)
    · rename_i q
      simpa using q
theorem rz_t {P : Nat → Bool} {p : Nat} (h : P p = true) (hp : p < 200) : rz P p = rz P (p + 1) := by
  unfold rz
  rw [show 200 - p = (200 - (p + 1)) + 1 by omega]
  show (if P p = true then _ else _) = _
  rw [if_pos h]
theorem rz_f {P : Nat → Bool} {p : Nat} (h : P p = false) : rz P p = p := by
  unfold rz
  cases 200 - p with
  | zero => rfl
  | succ m =>
    show (if P p = true then _ else _) = _
    rw [if_neg (by rw [h]; decide)]
theorem rz_ge (P : Nat → Bool) (p : Nat) : p ≤ rz P p := ru_ge P _ p
theorem rz_all {P : Nat → Bool} {p i : Nat} (h : p ≤ i) (g : i < rz P p) : P i = true := ru_all P _ p i h g
theorem rz_le {P : Nat → Bool} {n p : Nat} (hP : ∀ i, P i = true → i < n) (h : p ≤ n) : rz P p ≤ n := ru_le hP _ p h
theorem rz_end {P : Nat → Bool} {p : Nat} (hP : ∀ i, P i = true → i < 200) : P (rz P p) = false := ru_end hP _ p (by omega)
def Lz (b : Nat → Nat) (n i : Nat) : Bool := decide (i < n ∧ 97 ≤ b i ∧ b i ≤ 122)
def Dz (b : Nat → Nat) (n i : Nat) : Bool := decide (i < n ∧ 48 ≤ b i ∧ b i ≤ 57)
def Bz (b : Nat → Nat) (n i : Nat) : Bool := decide (i < n ∧ b i = 32)
theorem Lz_i {b : Nat → Nat} {n i : Nat} : Lz b n i = true ↔ (i < n ∧ 97 ≤ b i ∧ b i ≤ 122) := decide_eq_true_iff
theorem Dz_i {b : Nat → Nat} {n i : Nat} : Dz b n i = true ↔ (i < n ∧ 48 ≤ b i ∧ b i ≤ 57) := decide_eq_true_iff
theorem Bz_i {b : Nat → Nat} {n i : Nat} : Bz b n i = true ↔ (i < n ∧ b i = 32) := decide_eq_true_iff
/-- where the next token begins -/
def fz (b : Nat → Nat) (n p : Nat) : Nat := rz (Bz b n) p
/-- where a token ends -/
def ez (b : Nat → Nat) (n a : Nat) : Nat := if Lz b n a = true then rz (Lz b n) a else if Dz b n a = true then rz (Dz b n) a else if a < n then a + 1 else a
theorem fz_ge (b : Nat → Nat) (n p : Nat) : p ≤ fz b n p := rz_ge _ p
theorem fz_le {b : Nat → Nat} {n p : Nat} (h : p ≤ n) : fz b n p ≤ n := rz_le (fun i q => (Bz_i.mp q).1) h
theorem fz_nb {b : Nat → Nat} {n p : Nat} (h : n ≤ 200) : Bz b n (fz b n p) = false := rz_end (fun i q => by have := (Bz_i.mp q).1; omega)
theorem ez_gt {b : Nat → Nat} {n a : Nat} (hn : n ≤ 200) (h : a < n) : a < ez b n a := by
  unfold ez
  split
  · rename_i q
    rw [rz_t q (by omega)]
    have := rz_ge (Lz b n) (a + 1); omega
  split
  · rename_i _ q
    rw [rz_t q (by omega)]
    have := rz_ge (Dz b n) (a + 1); omega
  · omega
theorem ez_le {b : Nat → Nat} {n a : Nat} (h : a ≤ n) : ez b n a ≤ n := by
  unfold ez
  split
  · exact rz_le (fun i q => (Lz_i.mp q).1) h
  split
  · exact rz_le (fun i q => (Dz_i.mp q).1) h
  · split <;> omega
theorem ez_ge {b : Nat → Nat} {n a : Nat} : a ≤ ez b n a := by
  unfold ez
  split
  · exact rz_ge _ a
  split
  · exact rz_ge _ a
  · split <;> omega
/-- what a word is worth, its letters as digits to the base 32 -/
def wv (b : Nat → Nat) (a : Nat) : Nat → Nat
  | 0 => 0
  | m + 1 => if 36028797018963967 < wv b a m then wv b a m else 32 * wv b a m + (b (a + m) - 96)
def dv (b : Nat → Nat) (a : Nat) : Nat → Nat
  | 0 => 0
  | m + 1 => 10 * dv b a m + (b (a + m) - 48)
/-- a token: its sort and what it tells (0 a name, 1 a number, 2 a byte, 3 a number too long, 4 the end) -/
def tk (b : Nat → Nat) (n a : Nat) : Nat × Nat := if Lz b n a = true then (0, wv b a (ez b n a - a)) else if Dz b n a = true then (if ez b n a - a ≤ 4 then (1, dv b a (ez b n a - a)) else (3, 0)) else if a < n then (2, b a) else (4, 0)
def wd (t : Nat × Nat) : Nat := if t.1 = 0 then t.2 else 0
def spn (g : Nat → Nat) : Nat → Nat
  | 0 => 0
  | L + 1 => 32 * spn g L + (g L - 96)
theorem wv_spn {b : Nat → Nat} {a : Nat} {g : Nat → Nat} : ∀ m L, (∀ i, i < m → 97 ≤ b (a + i) ∧ b (a + i) ≤ 122) → (∀ i, i < L → 97 ≤ g i ∧ g i ≤ 122) → spn g L ≤ 36028797018963967 → (wv b a m = spn g L ↔ (m = L ∧ ∀ i, i < L → b (a + i) = g i))
  | 0, 0, _, _, _ => ⟨fun _ => ⟨rfl, fun i hi => by omega⟩, fun _ => rfl⟩
  | 0, L + 1, _, hg, _ => by
    have := hg L (by omega)
    show (0 = 32 * spn g L + (g L - 96)) ↔ _
    exact ⟨fun h => by omega, fun h => by omega⟩
  | m + 1, 0, hb, _, _ => by
    have := hb m (by omega)
    show ((if 36028797018963967 < wv b a m then wv b a m else 32 * wv b a m + (b (a + m) - 96)) = 0) ↔ _
    split
    · exact ⟨fun h => by omega, fun h => by omega⟩
    · exact ⟨fun h => by omega, fun h => by omega⟩
  | m + 1, L + 1, hb, hg, hs => by
    have h1 := hb m (by omega)
    have h2 := hg L (by omega)
    have hs : 32 * spn g L + (g L - 96) ≤ 36028797018963967 := hs
    have ih := wv_spn m L (fun i hi => hb i (by omega)) (fun i hi => hg i (by omega)) (by omega)
    show ((if 36028797018963967 < wv b a m then wv b a m else 32 * wv b a m + (b (a + m) - 96)) = 32 * spn g L + (g L - 96)) ↔ _
    have fin : (wv b a m = spn g L ∧ b (a + m) = g L) ↔ (m + 1 = L + 1 ∧ ∀ i, i < L + 1 → b (a + i) = g i) := by
      rw [ih]
      constructor
      · rintro ⟨⟨e, h⟩, k⟩
        subst e
        refine ⟨rfl, fun i hi => ?_⟩
        by_cases q : i = m
        · subst q; exact k
        · exact h i (by omega)
      · rintro ⟨e, h⟩
        have e : m = L := by omega
        subst e
        exact ⟨⟨rfl, fun i hi => h i (by omega)⟩, h m (by omega)⟩
    rw [← fin]
    split
    · exact ⟨fun h => by omega, fun h => by omega⟩
    · exact ⟨fun h => by omega, fun h => by omega⟩
theorem wv_top {b : Nat → Nat} {a : Nat} : ∀ m, (∀ i, i < m → b (a + i) ≤ 122) → wv b a m ≤ 1152921504606847000
  | 0, _ => by show 0 ≤ _; omega
  | m + 1, hb => by
    have h1 := hb m (by omega)
    have ih := wv_top m (fun i hi => hb i (by omega))
    show (if 36028797018963967 < wv b a m then wv b a m else 32 * wv b a m + (b (a + m) - 96)) ≤ _
    split <;> omega
theorem dv_4 {b : Nat → Nat} {a : Nat} : ∀ m, m ≤ 4 → (∀ i, i < m → b (a + i) ≤ 57) → dv b a m < 10 ^ m
  | 0, _, _ => by show 0 < 1; omega
  | m + 1, hm, hb => by
    have h1 := hb m (by omega)
    have ih := dv_4 m (by omega) (fun i hi => hb i (by omega))
    show 10 * dv b a m + (b (a + m) - 48) < 10 ^ (m + 1)
    rw [Nat.pow_succ]; omega
theorem dv_9999 {b : Nat → Nat} {a m : Nat} (hm : m ≤ 4) (hb : ∀ i, i < m → b (a + i) ≤ 57) : dv b a m ≤ 9999 := by
  have h := dv_4 m hm hb
  have : m = 0 ∨ m = 1 ∨ m = 2 ∨ m = 3 ∨ m = 4 := by omega
  rcases this with rfl | rfl | rfl | rfl | rfl <;> omega
/-- a number's value as a token -/
theorem tk_9999 {b : Nat → Nat} {n a : Nat} (h : (tk b n a).1 = 1) : (tk b n a).2 ≤ 9999 := by
  by_cases h1 : Lz b n a = true
  · have e : tk b n a = (0, wv b a (ez b n a - a)) := by unfold tk; rw [if_pos h1]
    rw [e] at h; cases h
  by_cases h2 : Dz b n a = true
  · have e : tk b n a = if ez b n a - a ≤ 4 then (1, dv b a (ez b n a - a)) else (3, 0) := by unfold tk; rw [if_neg h1, if_pos h2]
    by_cases h3 : ez b n a - a ≤ 4
    · rw [e, if_pos h3]
      refine dv_9999 h3 fun i hi => ?_
      have : ez b n a = rz (Dz b n) a := by unfold ez; rw [if_neg h1, if_pos h2]
      rw [this] at hi
      exact (Dz_i.mp (rz_all (P := Dz b n) (p := a) (i := a + i) (by omega) (by omega))).2.2
    · rw [e, if_neg h3] at h; cases h
  · by_cases h3 : a < n
    · have e : tk b n a = (2, b a) := by unfold tk; rw [if_neg h1, if_neg h2, if_pos h3]
      rw [e] at h; cases h
    · have e : tk b n a = (4, 0) := by unfold tk; rw [if_neg h1, if_neg h2, if_neg h3]
      rw [e] at h; cases h
/-- which of some numbers one is -/
def fdx : List Nat → Nat → Nat → Int32
  | [], _, _ => -1
  | c :: l, i, x => if x = c then Int32.ofNat i else fdx l (i + 1) x
def NK : List Nat := [792022234158, 17171758, 17383076, 4806091, 441913522, 20809171122]
def ND : List Nat := [1156, 441925, 435589, 647370196]
def NF : List Nat := [4153, 763332, 1156, 4370489, 13938867, 492210354]
/-- a token as what stands beside a sign -/
def opd (t : Nat × Nat) : Int32 := if t.1 = 1 then Int32.ofNat t.2 else if fdx NF 0 (wd t) < 0 then -1 else 10000 + fdx NF 0 (wd t)
/-- steps that wait and bind so or more come due -/
def awx (v : Int32) : List Int32 → List Int32 → List Int32 × List Int32
  | [], S => ([], S)
  | x :: W, S => if x < v then (x :: W, S) else awx v W (S ++ [x])
def cmpr (g l r : Int32) : Int32 := (((g <<< (28 &&& 31)) ||| (l <<< (14 &&& 31))) ||| r)
/-- the class's reader between two tokens: what may stand next, the left side, the sign, how many are left unclosed, what waits (the latest first), the steps, the rules, and the rule that is begun -/
abbrev CS : Type := Nat × Int32 × Int32 × Nat × List Int32 × List Int32 × List (Int32 × Int32 × Int32 × Nat) × Int32 × Int32 × Int32
def cdeed (t : Nat × Nat) (lf sg : Int32) (o : Nat) (W S : List Int32) (R : List (Int32 × Int32 × Int32 × Nat)) (kd nm : Int32) : Option CS := if fdx ND 0 (wd t) < 0 ∨ 0 < o ∨ 8 ≤ R.length then none else some (if fdx ND 0 (wd t) = 3 then 7 else 6, lf, sg, o, (awx 1 W S).1, (awx 1 W S).2, R, kd, fdx ND 0 (wd t), nm)
def csign (t : Nat × Nat) : Int32 := if t.1 = 2 ∧ t.2 = 60 then 1 else if t.1 = 2 ∧ t.2 = 61 then 2 else if t.1 = 2 ∧ t.2 = 62 then 3 else 0
def ct (t : Nat × Nat) : CS → Option CS
  | (0, lf, sg, o, W, S, R, _, dd, _) => if fdx NK 0 (wd t) < 0 ∨ 8 ≤ R.length then none else some (1, lf, sg, o, W, S, R, fdx NK 0 (wd t), dd, 0)
  | (1, lf, sg, o, W, S, R, kd, dd, nm) => if wd t = 294 then some (2, lf, sg, o, W, S, R, kd, dd, nm) else cdeed t lf sg o W S R kd nm
  | (2, lf, sg, o, W, S, R, kd, dd, nm) => if wd t = 14836 then some (2, lf, sg, o, 3 :: W, S, R, kd, dd, nm) else if (t.1 = 2 ∧ t.2 = 40) ∧ o < 3 then some (2, lf, sg, o + 1, 0 :: W, S, R, kd, dd, nm) else if opd t < 0 then none else some (3, opd t, sg, o, W, S, R, kd, dd, nm)
  | (3, lf, _, o, W, S, R, kd, dd, nm) => if csign t = 0 then none else some (4, lf, csign t, o, W, S, R, kd, dd, nm)
  | (4, lf, sg, o, W, S, R, kd, dd, nm) => if opd t < 0 then none else some (5, lf, sg, o, W, S ++ [cmpr sg lf (opd t)], R, kd, dd, nm)
  | (5, lf, sg, o, W, S, R, kd, dd, nm) => if wd t = 498 then some (2, lf, sg, o, 1 :: (awx 1 W S).1, (awx 1 W S).2, R, kd, dd, nm) else if wd t = 1476 then some (2, lf, sg, o, 2 :: (awx 2 W S).1, (awx 2 W S).2, R, kd, dd, nm) else if (t.1 = 2 ∧ t.2 = 41) ∧ 0 < o then some (5, lf, sg, o - 1, (awx 1 W S).1.tail, (awx 1 W S).2, R, kd, dd, nm) else cdeed t lf sg o W S R kd nm
  | (6, lf, sg, o, W, S, R, kd, dd, nm) => if t.1 = 1 ∧ R.length < 8 ∧ ¬ (if dd = 2 then 9 else 99) < t.2 then some (7, lf, sg, o, W, S, R, kd, dd, Int32.ofNat t.2) else none
  | (_ + 7, lf, sg, o, W, S, R, kd, dd, nm) => if (t.1 = 2 ∧ t.2 = 59) ∧ R.length < 8 then some (0, lf, sg, o, W, S, R ++ [(kd, dd, nm, S.length)], kd, dd, nm) else none
def stp (b : Nat → Nat) (n : Nat) (x : CS × Nat) : Option (CS × Nat) := match ct (tk b n (fz b n x.2)) x.1 with
  | none => none
  | some y => some (y, ez b n (fz b n x.2))
def rn (b : Nat → Nat) (n : Nat) : Nat → CS × Nat → Option (CS × Nat)
  | 0, x => some x
  | k + 1, x => match stp b n x with
    | none => none
    | some y => rn b n k y
def rch (b : Nat → Nat) (n : Nat) (x y : CS × Nat) : Prop := ∃ k, rn b n k x = some y
theorem rch_0 {b : Nat → Nat} {n : Nat} (x : CS × Nat) : rch b n x x := ⟨0, rfl⟩
theorem rch_s {b : Nat → Nat} {n : Nat} {x y z : CS × Nat} (h : stp b n x = some y) (g : rch b n y z) : rch b n x z := by
  obtain ⟨k, e⟩ := g
  refine ⟨k + 1, ?_⟩
  show (match stp b n x with
    | none => none
    | some y => rn b n k y) = _
  rw [h]; exact e
theorem rch_t {b : Nat → Nat} {n : Nat} {x y z : CS × Nat} (h : rch b n x y) (g : rch b n y z) : rch b n x z := by
  obtain ⟨k, e⟩ := h
  induction k generalizing x with
  | zero => cases e; exact g
  | succ k ih =>
    have e : (match stp b n x with
      | none => none
      | some y => rn b n k y) = some y := e
    cases q : stp b n x with
    | none => rw [q] at e; cases e
    | some w => rw [q] at e; exact rch_s q (ih e)
theorem stp_of {b : Nat → Nat} {n p : Nat} {s s' : CS} (h : ct (tk b n (fz b n p)) s = some s') : stp b n (s, p) = some (s', ez b n (fz b n p)) := by
  unfold stp
  show (match ct (tk b n (fz b n p)) s with
    | none => none
    | some y => some (y, ez b n (fz b n p))) = _
  rw [h]
theorem stp_no {b : Nat → Nat} {n p : Nat} {s : CS} (h : ct (tk b n (fz b n p)) s = none) : stp b n (s, p) = none := by
  unfold stp
  show (match ct (tk b n (fz b n p)) s with
    | none => none
    | some y => some (y, ez b n (fz b n p))) = _
  rw [h]
/-- it runs on to a token that can't stand there -/
def bad (b : Nat → Nat) (n : Nat) (x : CS × Nat) (a : Nat) : Prop := ∃ y, rch b n x y ∧ stp b n y = none ∧ fz b n y.2 = a ∧ ¬ (y.1.1 = 0 ∧ n ≤ a)
theorem bad_s {b : Nat → Nat} {n a : Nat} {x y : CS × Nat} (h : rch b n x y) (g : bad b n y a) : bad b n x a := by
  obtain ⟨z, g1, g2⟩ := g
  exact ⟨z, rch_t h g1, g2⟩
theorem bad_of {b : Nat → Nat} {n p : Nat} {s : CS} (h : ct (tk b n (fz b n p)) s = none) (hq : s.1 ≠ 0 ∨ fz b n p < n) : bad b n (s, p) (fz b n p) := ⟨(s, p), rch_0 _, stp_no h, rfl, fun z => by
  obtain ⟨z1, z2⟩ := z
  rcases hq with q | q
  · exact q z1
  · omega⟩
