/-! RULES: what steps in the class and codes in the model say alike -/
theorem cev_app {f : Nat → Int32} : ∀ (A B : List Int32) (K K' : List Bool), cev f A K = some K' → cev f (A ++ B) K = cev f B K'
  | [], B, K, K', h => by
    have h : some K = some K' := h
    cases h; rfl
  | c :: A, B, K, K', h => by
    have h : (match cstep f c K with
      | some k' => cev f A k'
      | none => none) = some K' := h
    show (match cstep f c K with
      | some k' => cev f (A ++ B) k'
      | none => none) = _
    cases q : cstep f c K with
    | none => rw [q] at h; cases h
    | some k => rw [q] at h; exact cev_app A B k K' h
theorem mev_app {f : Nat → Int32} : ∀ (A B K K' : List Int32), mev f A K = some K' → mev f (A ++ B) K = mev f B K'
  | [], B, K, K', h => by
    have h : some K = some K' := h
    cases h; rfl
  | c :: A, B, K, K', h => by
    have h : (match mstep f c K with
      | some k' => mev f A k'
      | none => none) = some K' := h
    show (match mstep f c K with
      | some k' => mev f (A ++ B) k'
      | none => none) = _
    cases q : mstep f c K with
    | none => rw [q] at h; cases h
    | some k => rw [q] at h; exact mev_app A B k K' h
/-- steps and codes give one truth, the same one; so many truths at most wait then -/
def den (h : Nat) (S M : List Int32) : Prop := ∀ f, ∃ v : Bool, (∀ K : List Bool, K.length + h ≤ 25 → cev f S K = some (v :: K)) ∧ ∀ K : List Int32, mev f M K = some (bZ (v = true) :: K)
theorem den_m {h h' : Nat} {S M : List Int32} (d : den h S M) (hh : h ≤ h') : den h' S M := fun f => by
  obtain ⟨v, a, b⟩ := d f
  exact ⟨v, fun K hK => a K (by omega), b⟩
theorem den_2 {h1 h2 h : Nat} {A B A' B' : List Int32} (d1 : den h1 A A') (d2 : den h2 B B') (g1 : h1 ≤ h) (g2 : h2 + 1 ≤ h) : (den h (A ++ B ++ [1]) (A' ++ B' ++ [-22])) ∧ den h (A ++ B ++ [2]) (A' ++ B' ++ [-21]) := by
  have run : ∀ f, ∃ v w : Bool, (∀ K : List Bool, K.length + h ≤ 25 → cev f (A ++ B) K = some (w :: v :: K)) ∧ ∀ K : List Int32, mev f (A' ++ B') K = some (bZ (w = true) :: bZ (v = true) :: K) := by
    intro f
    obtain ⟨v, a1, b1⟩ := d1 f
    obtain ⟨w, a2, b2⟩ := d2 f
    refine ⟨v, w, fun K hK => ?_, fun K => ?_⟩
    · rw [cev_app A B K _ (a1 K (by omega))]
      exact a2 (v :: K) (by simp only [List.length_cons]; omega)
    · rw [mev_app A' B' K _ (b1 K)]
      exact b2 _
  constructor
  · intro f
    obtain ⟨v, w, a, b⟩ := run f
    refine ⟨(v || w), fun K hK => ?_, fun K => ?_⟩
    · rw [cev_app _ _ K _ (a K hK)]; rfl
    · rw [mev_app _ _ K _ (b K)]
      cases v <;> cases w <;> rfl
  · intro f
    obtain ⟨v, w, a, b⟩ := run f
    refine ⟨(v && w), fun K hK => ?_, fun K => ?_⟩
    · rw [cev_app _ _ K _ (a K hK)]; rfl
    · rw [mev_app _ _ K _ (b K)]
      cases v <;> cases w <;> rfl
theorem den_n {h : Nat} {A A' : List Int32} (d : den h A A') : den h (A ++ [3]) (A' ++ [-20]) := fun f => by
  obtain ⟨v, a, b⟩ := d f
  refine ⟨!v, fun K hK => ?_, fun K => ?_⟩
  · rw [cev_app _ _ K _ (a K hK)]; rfl
  · rw [mev_app _ _ K _ (b K)]
    cases v <;> rfl
theorem den_nn {h : Nat} {A A' : List Int32} (d : den h A A') : den h (A ++ [3, 3]) A' := fun f => by
  obtain ⟨v, a, b⟩ := d f
  refine ⟨v, fun K hK => ?_, b⟩
  rw [cev_app _ _ K _ (a K hK)]
  cases v <;> rfl
/-- the nots that are told: the class writes each, the model the odd one -/
def nots : Nat → List Int32
  | 0 => []
  | j + 1 => 3 :: nots j
theorem nots_s : ∀ j, nots (j + 1) = nots j ++ [3]
  | 0 => rfl
  | j + 1 => by
    show 3 :: nots (j + 1) = 3 :: (nots j ++ [3])
    rw [nots_s j]
theorem den_nots {h : Nat} {A A' : List Int32} (d : den h A A') : ∀ j, den h (A ++ nots j) (A' ++ (if j % 2 = 1 then [-20] else []))
  | 0 => by
    rw [if_neg (by decide), List.append_nil]
    show den h (A ++ []) A'
    rw [List.append_nil]; exact d
  | 1 => by
    rw [if_pos (by decide)]
    exact den_n d
  | j + 2 => by
    have ih := den_nots d j
    rw [show (j + 2) % 2 = j % 2 by omega, nots_s, nots_s, List.append_assoc, ← List.append_assoc]
    exact den_nn ih
/-- a side of a sign as a code -/
def oc (t : Nat × Nat) : Int32 := if t.1 = 1 then Int32.ofNat t.2 else fcd (wd t)
def cg (g : Int32) : Int32 := if g = 1 then -11 else if g = 2 then -12 else -13
theorem fdx_F (w : Nat) : (fdx NF 0 w = -1 ∧ fcd w = 0) ∨ ∃ i, i < 6 ∧ fdx NF 0 w = Int32.ofNat i ∧ fcd w = -1 - Int32.ofNat i := by
  have e : fdx NF 0 w = if w = 4153 then 0 else if w = 763332 then 1 else if w = 1156 then 2 else if w = 4370489 then 3 else if w = 13938867 then 4 else if w = 492210354 then 5 else -1 := rfl
  rw [e]
  unfold fcd
  by_cases h0 : w = 4153
  · rw [if_pos h0, if_pos h0]; exact Or.inr ⟨0, by omega, rfl, by decide⟩
  rw [if_neg h0, if_neg h0]
  by_cases h1 : w = 763332
  · rw [if_pos h1, if_pos h1]; exact Or.inr ⟨1, by omega, rfl, by decide⟩
  rw [if_neg h1, if_neg h1]
  by_cases h2 : w = 1156
  · rw [if_pos h2, if_pos h2]; exact Or.inr ⟨2, by omega, rfl, by decide⟩
  rw [if_neg h2, if_neg h2]
  by_cases h3 : w = 4370489
  · rw [if_pos h3, if_pos h3]; exact Or.inr ⟨3, by omega, rfl, by decide⟩
  rw [if_neg h3, if_neg h3]
  by_cases h4 : w = 13938867
  · rw [if_pos h4, if_pos h4]; exact Or.inr ⟨4, by omega, rfl, by decide⟩
  rw [if_neg h4, if_neg h4]
  by_cases h5 : w = 492210354
  · rw [if_pos h5, if_pos h5]; exact Or.inr ⟨5, by omega, rfl, by decide⟩
  rw [if_neg h5, if_neg h5]
  exact Or.inl ⟨rfl, rfl⟩
/-- a side of a sign: a number below 16384 in the class, a code in the model; both are worth the same -/
theorem opd_ok {b : Nat → Nat} {n a : Nat} (h : ¬ opd (tk b n a) < 0) : ∃ x, x < 16384 ∧ opd (tk b n a) = Int32.ofNat x ∧ -10 < oc (tk b n a) ∧ ∀ f, opv f (Int32.ofNat x) = fcv f (oc (tk b n a)) := by
  unfold opd at h ⊢
  unfold oc
  by_cases q : (tk b n a).1 = 1
  · rw [if_pos q, if_pos q]
    have v := tk_9999 q
    generalize (tk b n a).2 = x at v ⊢
    have hn : ∀ c : Int32, c < 0 → ¬ Int32.ofNat x = c := fun c hc z => by
      rw [← z, n_pos x (by omega)] at hc; exact hc
    refine ⟨x, by omega, rfl, ?_, fun f => ?_⟩
    · rw [i_lt, n_int (by omega)]
      show (-10 : Int) < x
      omega
    · unfold opv fcv
      rw [if_pos (by rw [show (10000 : Int32) = Int32.ofNat 10000 from rfl, n_lt (by omega) (by omega)]; omega), if_neg (hn _ (by decide)), if_neg (hn _ (by decide)), if_neg (hn _ (by decide)), if_neg (hn _ (by decide)), if_neg (hn _ (by decide)), if_neg (hn _ (by decide))]
  · rw [if_neg q] at h
    rw [if_neg q, if_neg q]
    rcases fdx_F (wd (tk b n a)) with ⟨e1, _⟩ | ⟨i, hi, e1, e2⟩
    · rw [e1] at h; exact absurd (by decide) h
    · rw [e1, if_neg (by rw [n_pos i (by omega)]; exact id), e2, show (10000 : Int32) = Int32.ofNat 10000 from rfl, n_add]
      have hi6 : i = 0 ∨ i = 1 ∨ i = 2 ∨ i = 3 ∨ i = 4 ∨ i = 5 := by omega
      refine ⟨10000 + i, by omega, rfl, ?_, fun f => ?_⟩
      · rcases hi6 with rfl | rfl | rfl | rfl | rfl | rfl <;> decide
      · have e3 : opv f (Int32.ofNat (10000 + i)) = f i := by
          unfold opv
          rw [show (10000 : Int32) = Int32.ofNat 10000 from rfl, if_neg (by rw [n_lt (by omega) (by omega)]; omega), n_sub (by omega), Nat.add_sub_cancel_left, if_pos (by rw [show (6 : Int32) = Int32.ofNat 6 from rfl, n_lt (by omega) (by omega)]; exact hi), n_nat (by omega)]
        rw [e3]
        rcases hi6 with rfl | rfl | rfl | rfl | rfl | rfl <;> rfl
theorem opd_no {b : Nat → Nat} {n a : Nat} (h : opd (tk b n a) < 0) : (tk b n a).1 ≠ 1 ∧ fcd (wd (tk b n a)) = 0 := by
  unfold opd at h
  by_cases q : (tk b n a).1 = 1
  · have v := tk_9999 q
    rw [if_pos q, n_pos _ (by omega)] at h
    exact h.elim
  · refine ⟨q, ?_⟩
    rw [if_neg q] at h
    rcases fdx_F (wd (tk b n a)) with ⟨_, e2⟩ | ⟨i, hi, e1, e2⟩
    · exact e2
    · exfalso
      rw [e1, if_neg (by rw [n_pos i (by omega)]; exact id), show (10000 : Int32) = Int32.ofNat 10000 from rfl, n_add, n_pos _ (by omega)] at h
      exact h
theorem cmpr_n {G L R : Nat} (hG : G ≤ 3) (hL : L < 16384) (hR : R < 16384) : cmpr (Int32.ofNat G) (Int32.ofNat L) (Int32.ofNat R) = Int32.ofNat (G * 268435456 + L * 16384 + R) := by
  unfold cmpr
  have s28 := n_shl (n := G) (k := 28) (by omega)
  have s14 := n_shl (n := L) (k := 14) (by omega)
  rw [show (28 : Int32) = Int32.ofNat 28 from rfl, show (14 : Int32) = Int32.ofNat 14 from rfl, s28, s14, n_or, n_or]
  congr 1
  have e1 := Nat.shiftLeft_add_eq_or_of_lt (i := 28) (b := L * 2 ^ 14) (by omega) G
  rw [Nat.shiftLeft_eq] at e1
  have e2 := Nat.shiftLeft_add_eq_or_of_lt (i := 14) (b := R) (by omega) (G * 16384 + L)
  rw [Nat.shiftLeft_eq] at e2
  have k3 : (16384 * 2 ^ 14 : Nat) = 2 ^ 28 := by decide +kernel
  have e3 : (G * 16384 + L) * 2 ^ 14 = G * 2 ^ 28 + L * 2 ^ 14 := by rw [Nat.add_mul, Nat.mul_assoc, k3]
  rw [e3] at e2
  rw [← e1, ← e2]
theorem cmpr_p {G L R : Nat} (hG : G ≤ 3) (hL : L < 16384) (hR : R < 16384) : sgn (cmpr (Int32.ofNat G) (Int32.ofNat L) (Int32.ofNat R)) = Int32.ofNat G ∧ lft (cmpr (Int32.ofNat G) (Int32.ofNat L) (Int32.ofNat R)) = Int32.ofNat L ∧ rgt (cmpr (Int32.ofNat G) (Int32.ofNat L) (Int32.ofNat R)) = Int32.ofNat R := by
  rw [cmpr_n hG hL hR]
  generalize hN : G * 268435456 + L * 16384 + R = N
  have s28 := n_shr (n := N) (k := 28) (by omega) (by omega)
  have s14 := n_shr (n := N) (k := 14) (by omega) (by omega)
  have a14 : ∀ x : Nat, Int32.ofNat x &&& 16383 = Int32.ofNat (x % 16384) := fun x => by
    rw [show (16383 : Int32) = Int32.ofNat (2 ^ 14 - 1) from rfl, n_and, Nat.and_two_pow_sub_one_eq_mod]
  refine ⟨?_, ?_, ?_⟩
  · refine Eq.trans s28 ?_
    congr 1; omega
  · refine Eq.trans (congrArg (fun z => z &&& 16383) s14) ?_
    rw [a14]
    congr 1; omega
  · refine Eq.trans (a14 N) ?_
    congr 1; omega
theorem den_c {b : Nat → Nat} {n a1 a2 : Nat} {g : Int32} (hg : g = 1 ∨ g = 2 ∨ g = 3) (h1 : ¬ opd (tk b n a1) < 0) (h2 : ¬ opd (tk b n a2) < 0) : den 1 [cmpr g (opd (tk b n a1)) (opd (tk b n a2))] [oc (tk b n a1), oc (tk b n a2), cg g] := by
  obtain ⟨L, hL, e1, o1, v1⟩ := opd_ok h1
  obtain ⟨R, hR, e2, o2, v2⟩ := opd_ok h2
  rw [e1, e2]
  intro f
  obtain ⟨G, hG1, hG, rfl⟩ : ∃ G, 1 ≤ G ∧ G ≤ 3 ∧ g = Int32.ofNat G := by
    rcases hg with rfl | rfl | rfl
    · exact ⟨1, by omega, by omega, rfl⟩
    · exact ⟨2, by omega, by omega, rfl⟩
    · exact ⟨3, by omega, by omega, rfl⟩
  obtain ⟨p1, p2, p3⟩ := cmpr_p hG hL hR
  have big : ∀ c : Nat, c < 1000 → ¬ cmpr (Int32.ofNat G) (Int32.ofNat L) (Int32.ofNat R) = Int32.ofNat c := fun c hc => by
    rw [cmpr_n hG hL hR, n_eq (by omega) (by omega)]; omega
  refine ⟨cmb f (cmpr (Int32.ofNat G) (Int32.ofNat L) (Int32.ofNat R)), fun K hK => ?_, fun K => ?_⟩
  · show (match cstep f _ K with
      | some k' => cev f [] k'
      | none => none) = _
    unfold cstep
    have b1 : ¬ cmpr (Int32.ofNat G) (Int32.ofNat L) (Int32.ofNat R) = 1 := big 1 (by omega)
    have b2 : ¬ cmpr (Int32.ofNat G) (Int32.ofNat L) (Int32.ofNat R) = 2 := big 2 (by omega)
    have b3 : ¬ cmpr (Int32.ofNat G) (Int32.ofNat L) (Int32.ofNat R) = 3 := big 3 (by omega)
    rw [if_neg b1, if_neg b2, if_neg b3, if_pos (by omega)]
    rfl
  · unfold cmb
    rw [p1, p2, p3, v1 f, v2 f]
    have step : ∀ (c : Int32) (l K : List Int32), -10 < c → mev f (c :: l) K = mev f l (fcv f c :: K) := fun c l K hc => by
      show (match mstep f c K with
        | some k' => mev f l k'
        | none => none) = _
      unfold mstep
      rw [if_pos hc]
    rw [step _ _ _ o1, step _ _ _ o2]
    generalize fcv f (oc (tk b n a1)) = x
    generalize fcv f (oc (tk b n a2)) = y
    have hG3 : G = 1 ∨ G = 2 ∨ G = 3 := by omega
    rcases hG3 with rfl | rfl | rfl
    · show some (bZ (x < y) :: K) = _
      rw [if_pos (by decide)]
      exact congrArg (fun z => some (z :: K)) (bZ_c (by simp))
    · show some (bZ (x = y) :: K) = _
      rw [if_neg (by decide), if_pos (by decide)]
      exact congrArg (fun z => some (z :: K)) (bZ_c (by simp))
    · show some (bZ (y < x) :: K) = _
      rw [if_neg (by decide), if_neg (by decide)]
      exact congrArg (fun z => some (z :: K)) (bZ_c (by simp))
