/-! THE LAW'S LOOP: one lemma a case (printed by program), the induction -/
/-- a call of the class and of the model: the same answer, and again what holds between the two -/
def lw_C (Rel : (Nat → Nat → Int32) → Prop) (kx km : Nat) (as : List Value) : Prop := ∀ st, Rel st → ∃ (r : Int32) (st1 st2 : Nat → Nat → Int32), m_evc 2047 kx (.ref 0 :: as) (SH, st) = some (some (.int r), (SH, st1)) ∧ m_evc 2047 km (.ref 85 :: as) (SH, st1) = some (some (.int r), (SH, st2)) ∧ Rel st2
theorem lw_nat {i : Nat} (hi : i < 2 ^ 31) : (Int32.ofNat i).toInt = i := Int32.toInt_ofNat_of_lt hi
theorem lw_ix {L i : Nat} (k : Nat) (hL : L ≤ 2560) (hi : i + k < L) : m_ix (Int32.ofNat i + Int32.ofNat k) L = some (i + k) := by
  have e : Int32.ofNat i + Int32.ofNat k = Int32.ofNat (i + k) := by rw [Int32.ofNat_add]
  have h1 : (Int32.ofNat (i + k)).toInt = ((i + k : Nat) : Int) := lw_nat (by omega)
  have h2 : (Int32.ofNat (i + k)).toNatClampNeg = i + k := by show (Int32.ofNat (i + k)).toInt.toNat = _; rw [h1]; rfl
  have h3 : ¬ Int32.ofNat (i + k) < 0 := by rw [Int32.lt_iff_toInt_lt, h1]; simp; omega
  rw [e]
  unfold m_ix
  rw [if_neg (by rw [h2]; intro q; rcases q with q | q; exact h3 q; omega), h2]
theorem lc_0 {Rel : (Nat → Nat → Int32) → Prop} {L i : Nat} {xs : Nat → Int32} {st : Nat → Nat → Int32} (H : lw_C Rel 80 166 [.int (xs (i + 1)), .int (xs (i + 2)), .int (xs (i + 3)), .int (xs (i + 4))]) (hL : L ≤ 2560) (hi : i + 5 ≤ L) (hR : Rel st) : ∃ st2, Rel st2 ∧ m_ev (some (L, xs)) 2047 268 248 [some (.ref 2000000), some (.ref 0), some (.ref 85), some (.int (Int32.ofNat i))] [] (SH, st) = m_ev (some (L, xs)) 2047 268 2022 [some (.ref 2000000), some (.ref 0), some (.ref 85), some (.int (Int32.ofNat i))] [] (SH, st2) := by
  obtain ⟨r, st1, st2, h1, h2, h3⟩ := H st hR
  refine ⟨st2, h3, ?_⟩
  have i1 : m_ix (Int32.ofNat i + 1) L = some (i + 1) := lw_ix 1 hL (by omega)
  have i2 : m_ix (Int32.ofNat i + 2) L = some (i + 2) := lw_ix 2 hL (by omega)
  have i3 : m_ix (Int32.ofNat i + 3) L = some (i + 3) := lw_ix 3 hL (by omega)
  have i4 : m_ix (Int32.ofNat i + 4) L = some (i + 4) := lw_ix 4 hL (by omega)
  simp only [eL_law_248, eL_law_272, eL_law_296, i1, i2, i3, i4, m_ob, m_bd, h1, h2, Option.toList, List.cons_append, List.nil_append, if_true]
theorem lc_1 {Rel : (Nat → Nat → Int32) → Prop} {L i : Nat} {xs : Nat → Int32} {st : Nat → Nat → Int32} (H : lw_C Rel 81 172 [.int (xs (i + 1)), .int (xs (i + 2))]) (hL : L ≤ 2560) (hi : i + 5 ≤ L) (hR : Rel st) : ∃ st2, Rel st2 ∧ m_ev (some (L, xs)) 2047 268 301 [some (.ref 2000000), some (.ref 0), some (.ref 85), some (.int (Int32.ofNat i))] [] (SH, st) = m_ev (some (L, xs)) 2047 268 2022 [some (.ref 2000000), some (.ref 0), some (.ref 85), some (.int (Int32.ofNat i))] [] (SH, st2) := by
  obtain ⟨r, st1, st2, h1, h2, h3⟩ := H st hR
  refine ⟨st2, h3, ?_⟩
  have i1 : m_ix (Int32.ofNat i + 1) L = some (i + 1) := lw_ix 1 hL (by omega)
  have i2 : m_ix (Int32.ofNat i + 2) L = some (i + 2) := lw_ix 2 hL (by omega)
  have i3 : m_ix (Int32.ofNat i + 3) L = some (i + 3) := lw_ix 3 hL (by omega)
  have i4 : m_ix (Int32.ofNat i + 4) L = some (i + 4) := lw_ix 4 hL (by omega)
  simp only [eL_law_301, eL_law_315, eL_law_329, i1, i2, i3, i4, m_ob, m_bd, h1, h2, Option.toList, List.cons_append, List.nil_append, if_true]
theorem lc_2 {Rel : (Nat → Nat → Int32) → Prop} {L i : Nat} {xs : Nat → Int32} {st : Nat → Nat → Int32} (H : lw_C Rel 82 173 [.int (xs (i + 1)), .int (xs (i + 2)), .int (xs (i + 3))]) (hL : L ≤ 2560) (hi : i + 5 ≤ L) (hR : Rel st) : ∃ st2, Rel st2 ∧ m_ev (some (L, xs)) 2047 268 334 [some (.ref 2000000), some (.ref 0), some (.ref 85), some (.int (Int32.ofNat i))] [] (SH, st) = m_ev (some (L, xs)) 2047 268 2022 [some (.ref 2000000), some (.ref 0), some (.ref 85), some (.int (Int32.ofNat i))] [] (SH, st2) := by
  obtain ⟨r, st1, st2, h1, h2, h3⟩ := H st hR
  refine ⟨st2, h3, ?_⟩
  have i1 : m_ix (Int32.ofNat i + 1) L = some (i + 1) := lw_ix 1 hL (by omega)
  have i2 : m_ix (Int32.ofNat i + 2) L = some (i + 2) := lw_ix 2 hL (by omega)
  have i3 : m_ix (Int32.ofNat i + 3) L = some (i + 3) := lw_ix 3 hL (by omega)
  have i4 : m_ix (Int32.ofNat i + 4) L = some (i + 4) := lw_ix 4 hL (by omega)
  simp only [eL_law_334, eL_law_353, eL_law_372, i1, i2, i3, i4, m_ob, m_bd, h1, h2, Option.toList, List.cons_append, List.nil_append, if_true]
theorem lc_3 {Rel : (Nat → Nat → Int32) → Prop} {L i : Nat} {xs : Nat → Int32} {st : Nat → Nat → Int32} (H : lw_C Rel 83 174 [.int (xs (i + 1)), .int (xs (i + 2))]) (hL : L ≤ 2560) (hi : i + 5 ≤ L) (hR : Rel st) : ∃ st2, Rel st2 ∧ m_ev (some (L, xs)) 2047 268 377 [some (.ref 2000000), some (.ref 0), some (.ref 85), some (.int (Int32.ofNat i))] [] (SH, st) = m_ev (some (L, xs)) 2047 268 2022 [some (.ref 2000000), some (.ref 0), some (.ref 85), some (.int (Int32.ofNat i))] [] (SH, st2) := by
  obtain ⟨r, st1, st2, h1, h2, h3⟩ := H st hR
  refine ⟨st2, h3, ?_⟩
  have i1 : m_ix (Int32.ofNat i + 1) L = some (i + 1) := lw_ix 1 hL (by omega)
  have i2 : m_ix (Int32.ofNat i + 2) L = some (i + 2) := lw_ix 2 hL (by omega)
  have i3 : m_ix (Int32.ofNat i + 3) L = some (i + 3) := lw_ix 3 hL (by omega)
  have i4 : m_ix (Int32.ofNat i + 4) L = some (i + 4) := lw_ix 4 hL (by omega)
  simp only [eL_law_377, eL_law_391, eL_law_405, i1, i2, i3, i4, m_ob, m_bd, h1, h2, Option.toList, List.cons_append, List.nil_append, if_true]
theorem lc_4 {Rel : (Nat → Nat → Int32) → Prop} {L i : Nat} {xs : Nat → Int32} {st : Nat → Nat → Int32} (H : lw_C Rel 84 175 [.int (xs (i + 1))]) (hL : L ≤ 2560) (hi : i + 5 ≤ L) (hR : Rel st) : ∃ st2, Rel st2 ∧ m_ev (some (L, xs)) 2047 268 410 [some (.ref 2000000), some (.ref 0), some (.ref 85), some (.int (Int32.ofNat i))] [] (SH, st) = m_ev (some (L, xs)) 2047 268 2022 [some (.ref 2000000), some (.ref 0), some (.ref 85), some (.int (Int32.ofNat i))] [] (SH, st2) := by
  obtain ⟨r, st1, st2, h1, h2, h3⟩ := H st hR
  refine ⟨st2, h3, ?_⟩
  have i1 : m_ix (Int32.ofNat i + 1) L = some (i + 1) := lw_ix 1 hL (by omega)
  have i2 : m_ix (Int32.ofNat i + 2) L = some (i + 2) := lw_ix 2 hL (by omega)
  have i3 : m_ix (Int32.ofNat i + 3) L = some (i + 3) := lw_ix 3 hL (by omega)
  have i4 : m_ix (Int32.ofNat i + 4) L = some (i + 4) := lw_ix 4 hL (by omega)
  simp only [eL_law_410, eL_law_419, eL_law_428, i1, i2, i3, i4, m_ob, m_bd, h1, h2, Option.toList, List.cons_append, List.nil_append, if_true]
theorem lc_5 {Rel : (Nat → Nat → Int32) → Prop} {L i : Nat} {xs : Nat → Int32} {st : Nat → Nat → Int32} (H : lw_C Rel 85 176 [.int (xs (i + 1)), .int (xs (i + 2))]) (hL : L ≤ 2560) (hi : i + 5 ≤ L) (hR : Rel st) : ∃ st2, Rel st2 ∧ m_ev (some (L, xs)) 2047 268 433 [some (.ref 2000000), some (.ref 0), some (.ref 85), some (.int (Int32.ofNat i))] [] (SH, st) = m_ev (some (L, xs)) 2047 268 2022 [some (.ref 2000000), some (.ref 0), some (.ref 85), some (.int (Int32.ofNat i))] [] (SH, st2) := by
  obtain ⟨r, st1, st2, h1, h2, h3⟩ := H st hR
  refine ⟨st2, h3, ?_⟩
  have i1 : m_ix (Int32.ofNat i + 1) L = some (i + 1) := lw_ix 1 hL (by omega)
  have i2 : m_ix (Int32.ofNat i + 2) L = some (i + 2) := lw_ix 2 hL (by omega)
  have i3 : m_ix (Int32.ofNat i + 3) L = some (i + 3) := lw_ix 3 hL (by omega)
  have i4 : m_ix (Int32.ofNat i + 4) L = some (i + 4) := lw_ix 4 hL (by omega)
  simp only [eL_law_433, eL_law_447, eL_law_461, i1, i2, i3, i4, m_ob, m_bd, h1, h2, Option.toList, List.cons_append, List.nil_append, if_true]
theorem lc_6 {Rel : (Nat → Nat → Int32) → Prop} {L i : Nat} {xs : Nat → Int32} {st : Nat → Nat → Int32} (H : lw_C Rel 86 177 [.int (if xs (i + 1) = 0 then 0 else 1)]) (hL : L ≤ 2560) (hi : i + 5 ≤ L) (hR : Rel st) : ∃ st2, Rel st2 ∧ m_ev (some (L, xs)) 2047 268 466 [some (.ref 2000000), some (.ref 0), some (.ref 85), some (.int (Int32.ofNat i))] [] (SH, st) = m_ev (some (L, xs)) 2047 268 2022 [some (.ref 2000000), some (.ref 0), some (.ref 85), some (.int (Int32.ofNat i))] [] (SH, st2) := by
  obtain ⟨r, st1, st2, h1, h2, h3⟩ := H st hR
  refine ⟨st2, h3, ?_⟩
  have i1 : m_ix (Int32.ofNat i + 1) L = some (i + 1) := lw_ix 1 hL (by omega)
  have i2 : m_ix (Int32.ofNat i + 2) L = some (i + 2) := lw_ix 2 hL (by omega)
  have i3 : m_ix (Int32.ofNat i + 3) L = some (i + 3) := lw_ix 3 hL (by omega)
  have i4 : m_ix (Int32.ofNat i + 4) L = some (i + 4) := lw_ix 4 hL (by omega)
  by_cases hz : xs (i + 1) = 0
  · rw [if_pos hz] at h1 h2
    simp only [eL_law_466, eL_law_479, eL_law_480, eL_law_483, eL_law_496, eL_law_497, eL_law_500, i1, i2, i3, i4, m_ob, m_bd, h1, h2, hz, Option.toList, List.cons_append, List.nil_append, if_true]
  · rw [if_neg hz] at h1 h2
    simp only [eL_law_466, eL_law_479, eL_law_480, eL_law_483, eL_law_496, eL_law_497, eL_law_500, i1, i2, i3, i4, m_ob, m_bd, h1, h2, hz, Option.toList, List.cons_append, List.nil_append, if_true, if_false]
theorem lc_7 {Rel : (Nat → Nat → Int32) → Prop} {L i : Nat} {xs : Nat → Int32} {st : Nat → Nat → Int32} (H : lw_C Rel 91 226 [.long ((((xs (i + 1)) : Int32).toInt64 <<< ((32 : Int32).toInt64 &&& 63)) ||| (((xs (i + 2)) : Int32).toInt64 &&& 4294967295)), .int (xs (i + 3))]) (hL : L ≤ 2560) (hi : i + 5 ≤ L) (hR : Rel st) : ∃ st2, Rel st2 ∧ m_ev (some (L, xs)) 2047 268 505 [some (.ref 2000000), some (.ref 0), some (.ref 85), some (.int (Int32.ofNat i))] [] (SH, st) = m_ev (some (L, xs)) 2047 268 2022 [some (.ref 2000000), some (.ref 0), some (.ref 85), some (.int (Int32.ofNat i))] [] (SH, st2) := by
  obtain ⟨r, st1, st2, h1, h2, h3⟩ := H st hR
  refine ⟨st2, h3, ?_⟩
  have i1 : m_ix (Int32.ofNat i + 1) L = some (i + 1) := lw_ix 1 hL (by omega)
  have i2 : m_ix (Int32.ofNat i + 2) L = some (i + 2) := lw_ix 2 hL (by omega)
  have i3 : m_ix (Int32.ofNat i + 3) L = some (i + 3) := lw_ix 3 hL (by omega)
  have i4 : m_ix (Int32.ofNat i + 4) L = some (i + 4) := lw_ix 4 hL (by omega)
  simp only [eL_law_505, eL_law_534, eL_law_563, i1, i2, i3, i4, m_ob, m_bd, h1, h2, Option.toList, List.cons_append, List.nil_append, if_true]
theorem lc_8 {Rel : (Nat → Nat → Int32) → Prop} {L i : Nat} {xs : Nat → Int32} {st : Nat → Nat → Int32} (H : lw_C Rel 92 243 []) (hL : L ≤ 2560) (hi : i + 5 ≤ L) (hR : Rel st) : ∃ st2, Rel st2 ∧ m_ev (some (L, xs)) 2047 268 568 [some (.ref 2000000), some (.ref 0), some (.ref 85), some (.int (Int32.ofNat i))] [] (SH, st) = m_ev (some (L, xs)) 2047 268 2022 [some (.ref 2000000), some (.ref 0), some (.ref 85), some (.int (Int32.ofNat i))] [] (SH, st2) := by
  obtain ⟨r, st1, st2, h1, h2, h3⟩ := H st hR
  refine ⟨st2, h3, ?_⟩
  have i1 : m_ix (Int32.ofNat i + 1) L = some (i + 1) := lw_ix 1 hL (by omega)
  have i2 : m_ix (Int32.ofNat i + 2) L = some (i + 2) := lw_ix 2 hL (by omega)
  have i3 : m_ix (Int32.ofNat i + 3) L = some (i + 3) := lw_ix 3 hL (by omega)
  have i4 : m_ix (Int32.ofNat i + 4) L = some (i + 4) := lw_ix 4 hL (by omega)
  simp only [eL_law_568, eL_law_572, eL_law_576, i1, i2, i3, i4, m_ob, m_bd, h1, h2, Option.toList, List.cons_append, List.nil_append, if_true]
theorem lc_9 {Rel : (Nat → Nat → Int32) → Prop} {L i : Nat} {xs : Nat → Int32} {st : Nat → Nat → Int32} (H : lw_C Rel 93 183 [.int (xs (i + 1)), .int (xs (i + 2)), .int (if xs (i + 3) = 0 then 0 else 1)]) (hL : L ≤ 2560) (hi : i + 5 ≤ L) (hR : Rel st) : ∃ st2, Rel st2 ∧ m_ev (some (L, xs)) 2047 268 581 [some (.ref 2000000), some (.ref 0), some (.ref 85), some (.int (Int32.ofNat i))] [] (SH, st) = m_ev (some (L, xs)) 2047 268 2022 [some (.ref 2000000), some (.ref 0), some (.ref 85), some (.int (Int32.ofNat i))] [] (SH, st2) := by
  obtain ⟨r, st1, st2, h1, h2, h3⟩ := H st hR
  refine ⟨st2, h3, ?_⟩
  have i1 : m_ix (Int32.ofNat i + 1) L = some (i + 1) := lw_ix 1 hL (by omega)
  have i2 : m_ix (Int32.ofNat i + 2) L = some (i + 2) := lw_ix 2 hL (by omega)
  have i3 : m_ix (Int32.ofNat i + 3) L = some (i + 3) := lw_ix 3 hL (by omega)
  have i4 : m_ix (Int32.ofNat i + 4) L = some (i + 4) := lw_ix 4 hL (by omega)
  by_cases hz : xs (i + 3) = 0
  · rw [if_pos hz] at h1 h2
    simp only [eL_law_581, eL_law_604, eL_law_605, eL_law_608, eL_law_631, eL_law_632, eL_law_635, i1, i2, i3, i4, m_ob, m_bd, h1, h2, hz, Option.toList, List.cons_append, List.nil_append, if_true]
  · rw [if_neg hz] at h1 h2
    simp only [eL_law_581, eL_law_604, eL_law_605, eL_law_608, eL_law_631, eL_law_632, eL_law_635, i1, i2, i3, i4, m_ob, m_bd, h1, h2, hz, Option.toList, List.cons_append, List.nil_append, if_true, if_false]
theorem lc_10 {Rel : (Nat → Nat → Int32) → Prop} {L i : Nat} {xs : Nat → Int32} {st : Nat → Nat → Int32} (H : lw_C Rel 94 184 [.int (xs (i + 1)), .int (xs (i + 2))]) (hL : L ≤ 2560) (hi : i + 5 ≤ L) (hR : Rel st) : ∃ st2, Rel st2 ∧ m_ev (some (L, xs)) 2047 268 640 [some (.ref 2000000), some (.ref 0), some (.ref 85), some (.int (Int32.ofNat i))] [] (SH, st) = m_ev (some (L, xs)) 2047 268 2022 [some (.ref 2000000), some (.ref 0), some (.ref 85), some (.int (Int32.ofNat i))] [] (SH, st2) := by
  obtain ⟨r, st1, st2, h1, h2, h3⟩ := H st hR
  refine ⟨st2, h3, ?_⟩
  have i1 : m_ix (Int32.ofNat i + 1) L = some (i + 1) := lw_ix 1 hL (by omega)
  have i2 : m_ix (Int32.ofNat i + 2) L = some (i + 2) := lw_ix 2 hL (by omega)
  have i3 : m_ix (Int32.ofNat i + 3) L = some (i + 3) := lw_ix 3 hL (by omega)
  have i4 : m_ix (Int32.ofNat i + 4) L = some (i + 4) := lw_ix 4 hL (by omega)
  simp only [eL_law_640, eL_law_654, eL_law_668, i1, i2, i3, i4, m_ob, m_bd, h1, h2, Option.toList, List.cons_append, List.nil_append, if_true]
theorem lc_11 {Rel : (Nat → Nat → Int32) → Prop} {L i : Nat} {xs : Nat → Int32} {st : Nat → Nat → Int32} (H : lw_C Rel 95 186 []) (hL : L ≤ 2560) (hi : i + 5 ≤ L) (hR : Rel st) : ∃ st2, Rel st2 ∧ m_ev (some (L, xs)) 2047 268 673 [some (.ref 2000000), some (.ref 0), some (.ref 85), some (.int (Int32.ofNat i))] [] (SH, st) = m_ev (some (L, xs)) 2047 268 2022 [some (.ref 2000000), some (.ref 0), some (.ref 85), some (.int (Int32.ofNat i))] [] (SH, st2) := by
  obtain ⟨r, st1, st2, h1, h2, h3⟩ := H st hR
  refine ⟨st2, h3, ?_⟩
  have i1 : m_ix (Int32.ofNat i + 1) L = some (i + 1) := lw_ix 1 hL (by omega)
  have i2 : m_ix (Int32.ofNat i + 2) L = some (i + 2) := lw_ix 2 hL (by omega)
  have i3 : m_ix (Int32.ofNat i + 3) L = some (i + 3) := lw_ix 3 hL (by omega)
  have i4 : m_ix (Int32.ofNat i + 4) L = some (i + 4) := lw_ix 4 hL (by omega)
  simp only [eL_law_673, eL_law_677, eL_law_681, i1, i2, i3, i4, m_ob, m_bd, h1, h2, Option.toList, List.cons_append, List.nil_append, if_true]
theorem lc_12 {Rel : (Nat → Nat → Int32) → Prop} {L i : Nat} {xs : Nat → Int32} {st : Nat → Nat → Int32} (H : lw_C Rel 96 188 [.int (xs (i + 1)), .int (xs (i + 2)), .int (xs (i + 3))]) (hL : L ≤ 2560) (hi : i + 5 ≤ L) (hR : Rel st) : ∃ st2, Rel st2 ∧ m_ev (some (L, xs)) 2047 268 686 [some (.ref 2000000), some (.ref 0), some (.ref 85), some (.int (Int32.ofNat i))] [] (SH, st) = m_ev (some (L, xs)) 2047 268 2022 [some (.ref 2000000), some (.ref 0), some (.ref 85), some (.int (Int32.ofNat i))] [] (SH, st2) := by
  obtain ⟨r, st1, st2, h1, h2, h3⟩ := H st hR
  refine ⟨st2, h3, ?_⟩
  have i1 : m_ix (Int32.ofNat i + 1) L = some (i + 1) := lw_ix 1 hL (by omega)
  have i2 : m_ix (Int32.ofNat i + 2) L = some (i + 2) := lw_ix 2 hL (by omega)
  have i3 : m_ix (Int32.ofNat i + 3) L = some (i + 3) := lw_ix 3 hL (by omega)
  have i4 : m_ix (Int32.ofNat i + 4) L = some (i + 4) := lw_ix 4 hL (by omega)
  simp only [eL_law_686, eL_law_705, eL_law_724, i1, i2, i3, i4, m_ob, m_bd, h1, h2, Option.toList, List.cons_append, List.nil_append, if_true]
theorem lc_13 {Rel : (Nat → Nat → Int32) → Prop} {L i : Nat} {xs : Nat → Int32} {st : Nat → Nat → Int32} (H : lw_C Rel 97 189 [.int (xs (i + 1)), .int (xs (i + 2)), .int (xs (i + 3))]) (hL : L ≤ 2560) (hi : i + 5 ≤ L) (hR : Rel st) : ∃ st2, Rel st2 ∧ m_ev (some (L, xs)) 2047 268 729 [some (.ref 2000000), some (.ref 0), some (.ref 85), some (.int (Int32.ofNat i))] [] (SH, st) = m_ev (some (L, xs)) 2047 268 2022 [some (.ref 2000000), some (.ref 0), some (.ref 85), some (.int (Int32.ofNat i))] [] (SH, st2) := by
  obtain ⟨r, st1, st2, h1, h2, h3⟩ := H st hR
  refine ⟨st2, h3, ?_⟩
  have i1 : m_ix (Int32.ofNat i + 1) L = some (i + 1) := lw_ix 1 hL (by omega)
  have i2 : m_ix (Int32.ofNat i + 2) L = some (i + 2) := lw_ix 2 hL (by omega)
  have i3 : m_ix (Int32.ofNat i + 3) L = some (i + 3) := lw_ix 3 hL (by omega)
  have i4 : m_ix (Int32.ofNat i + 4) L = some (i + 4) := lw_ix 4 hL (by omega)
  simp only [eL_law_729, eL_law_748, eL_law_767, i1, i2, i3, i4, m_ob, m_bd, h1, h2, Option.toList, List.cons_append, List.nil_append, if_true]
theorem lc_14 {Rel : (Nat → Nat → Int32) → Prop} {L i : Nat} {xs : Nat → Int32} {st : Nat → Nat → Int32} (H : lw_C Rel 98 190 [.int (xs (i + 1)), .int (xs (i + 2)), .int (xs (i + 3))]) (hL : L ≤ 2560) (hi : i + 5 ≤ L) (hR : Rel st) : ∃ st2, Rel st2 ∧ m_ev (some (L, xs)) 2047 268 772 [some (.ref 2000000), some (.ref 0), some (.ref 85), some (.int (Int32.ofNat i))] [] (SH, st) = m_ev (some (L, xs)) 2047 268 2022 [some (.ref 2000000), some (.ref 0), some (.ref 85), some (.int (Int32.ofNat i))] [] (SH, st2) := by
  obtain ⟨r, st1, st2, h1, h2, h3⟩ := H st hR
  refine ⟨st2, h3, ?_⟩
  have i1 : m_ix (Int32.ofNat i + 1) L = some (i + 1) := lw_ix 1 hL (by omega)
  have i2 : m_ix (Int32.ofNat i + 2) L = some (i + 2) := lw_ix 2 hL (by omega)
  have i3 : m_ix (Int32.ofNat i + 3) L = some (i + 3) := lw_ix 3 hL (by omega)
  have i4 : m_ix (Int32.ofNat i + 4) L = some (i + 4) := lw_ix 4 hL (by omega)
  simp only [eL_law_772, eL_law_791, eL_law_810, i1, i2, i3, i4, m_ob, m_bd, h1, h2, Option.toList, List.cons_append, List.nil_append, if_true]
theorem lc_15 {Rel : (Nat → Nat → Int32) → Prop} {L i : Nat} {xs : Nat → Int32} {st : Nat → Nat → Int32} (H : lw_C Rel 99 191 [.int (xs (i + 1)), .int (xs (i + 2))]) (hL : L ≤ 2560) (hi : i + 5 ≤ L) (hR : Rel st) : ∃ st2, Rel st2 ∧ m_ev (some (L, xs)) 2047 268 815 [some (.ref 2000000), some (.ref 0), some (.ref 85), some (.int (Int32.ofNat i))] [] (SH, st) = m_ev (some (L, xs)) 2047 268 2022 [some (.ref 2000000), some (.ref 0), some (.ref 85), some (.int (Int32.ofNat i))] [] (SH, st2) := by
  obtain ⟨r, st1, st2, h1, h2, h3⟩ := H st hR
  refine ⟨st2, h3, ?_⟩
  have i1 : m_ix (Int32.ofNat i + 1) L = some (i + 1) := lw_ix 1 hL (by omega)
  have i2 : m_ix (Int32.ofNat i + 2) L = some (i + 2) := lw_ix 2 hL (by omega)
  have i3 : m_ix (Int32.ofNat i + 3) L = some (i + 3) := lw_ix 3 hL (by omega)
  have i4 : m_ix (Int32.ofNat i + 4) L = some (i + 4) := lw_ix 4 hL (by omega)
  simp only [eL_law_815, eL_law_829, eL_law_843, i1, i2, i3, i4, m_ob, m_bd, h1, h2, Option.toList, List.cons_append, List.nil_append, if_true]
theorem lc_16 {Rel : (Nat → Nat → Int32) → Prop} {L i : Nat} {xs : Nat → Int32} {st : Nat → Nat → Int32} (H : lw_C Rel 100 192 [.int (xs (i + 1)), .int (xs (i + 2)), .int (xs (i + 3))]) (hL : L ≤ 2560) (hi : i + 5 ≤ L) (hR : Rel st) : ∃ st2, Rel st2 ∧ m_ev (some (L, xs)) 2047 268 848 [some (.ref 2000000), some (.ref 0), some (.ref 85), some (.int (Int32.ofNat i))] [] (SH, st) = m_ev (some (L, xs)) 2047 268 2022 [some (.ref 2000000), some (.ref 0), some (.ref 85), some (.int (Int32.ofNat i))] [] (SH, st2) := by
  obtain ⟨r, st1, st2, h1, h2, h3⟩ := H st hR
  refine ⟨st2, h3, ?_⟩
  have i1 : m_ix (Int32.ofNat i + 1) L = some (i + 1) := lw_ix 1 hL (by omega)
  have i2 : m_ix (Int32.ofNat i + 2) L = some (i + 2) := lw_ix 2 hL (by omega)
  have i3 : m_ix (Int32.ofNat i + 3) L = some (i + 3) := lw_ix 3 hL (by omega)
  have i4 : m_ix (Int32.ofNat i + 4) L = some (i + 4) := lw_ix 4 hL (by omega)
  simp only [eL_law_848, eL_law_867, eL_law_886, i1, i2, i3, i4, m_ob, m_bd, h1, h2, Option.toList, List.cons_append, List.nil_append, if_true]
theorem lc_17 {Rel : (Nat → Nat → Int32) → Prop} {L i : Nat} {xs : Nat → Int32} {st : Nat → Nat → Int32} (H : lw_C Rel 101 194 [.int (xs (i + 1)), .int (xs (i + 2)), .int (xs (i + 3))]) (hL : L ≤ 2560) (hi : i + 5 ≤ L) (hR : Rel st) : ∃ st2, Rel st2 ∧ m_ev (some (L, xs)) 2047 268 891 [some (.ref 2000000), some (.ref 0), some (.ref 85), some (.int (Int32.ofNat i))] [] (SH, st) = m_ev (some (L, xs)) 2047 268 2022 [some (.ref 2000000), some (.ref 0), some (.ref 85), some (.int (Int32.ofNat i))] [] (SH, st2) := by
  obtain ⟨r, st1, st2, h1, h2, h3⟩ := H st hR
  refine ⟨st2, h3, ?_⟩
  have i1 : m_ix (Int32.ofNat i + 1) L = some (i + 1) := lw_ix 1 hL (by omega)
  have i2 : m_ix (Int32.ofNat i + 2) L = some (i + 2) := lw_ix 2 hL (by omega)
  have i3 : m_ix (Int32.ofNat i + 3) L = some (i + 3) := lw_ix 3 hL (by omega)
  have i4 : m_ix (Int32.ofNat i + 4) L = some (i + 4) := lw_ix 4 hL (by omega)
  simp only [eL_law_891, eL_law_910, eL_law_929, i1, i2, i3, i4, m_ob, m_bd, h1, h2, Option.toList, List.cons_append, List.nil_append, if_true]
theorem lc_18 {Rel : (Nat → Nat → Int32) → Prop} {L i : Nat} {xs : Nat → Int32} {st : Nat → Nat → Int32} (H : lw_C Rel 102 196 [.int (xs (i + 1)), .int (xs (i + 2))]) (hL : L ≤ 2560) (hi : i + 5 ≤ L) (hR : Rel st) : ∃ st2, Rel st2 ∧ m_ev (some (L, xs)) 2047 268 934 [some (.ref 2000000), some (.ref 0), some (.ref 85), some (.int (Int32.ofNat i))] [] (SH, st) = m_ev (some (L, xs)) 2047 268 2022 [some (.ref 2000000), some (.ref 0), some (.ref 85), some (.int (Int32.ofNat i))] [] (SH, st2) := by
  obtain ⟨r, st1, st2, h1, h2, h3⟩ := H st hR
  refine ⟨st2, h3, ?_⟩
  have i1 : m_ix (Int32.ofNat i + 1) L = some (i + 1) := lw_ix 1 hL (by omega)
  have i2 : m_ix (Int32.ofNat i + 2) L = some (i + 2) := lw_ix 2 hL (by omega)
  have i3 : m_ix (Int32.ofNat i + 3) L = some (i + 3) := lw_ix 3 hL (by omega)
  have i4 : m_ix (Int32.ofNat i + 4) L = some (i + 4) := lw_ix 4 hL (by omega)
  simp only [eL_law_934, eL_law_948, eL_law_962, i1, i2, i3, i4, m_ob, m_bd, h1, h2, Option.toList, List.cons_append, List.nil_append, if_true]
theorem lc_19 {Rel : (Nat → Nat → Int32) → Prop} {L i : Nat} {xs : Nat → Int32} {st : Nat → Nat → Int32} (H : lw_C Rel 103 198 [.int (xs (i + 1)), .int (xs (i + 2))]) (hL : L ≤ 2560) (hi : i + 5 ≤ L) (hR : Rel st) : ∃ st2, Rel st2 ∧ m_ev (some (L, xs)) 2047 268 967 [some (.ref 2000000), some (.ref 0), some (.ref 85), some (.int (Int32.ofNat i))] [] (SH, st) = m_ev (some (L, xs)) 2047 268 2022 [some (.ref 2000000), some (.ref 0), some (.ref 85), some (.int (Int32.ofNat i))] [] (SH, st2) := by
  obtain ⟨r, st1, st2, h1, h2, h3⟩ := H st hR
  refine ⟨st2, h3, ?_⟩
  have i1 : m_ix (Int32.ofNat i + 1) L = some (i + 1) := lw_ix 1 hL (by omega)
  have i2 : m_ix (Int32.ofNat i + 2) L = some (i + 2) := lw_ix 2 hL (by omega)
  have i3 : m_ix (Int32.ofNat i + 3) L = some (i + 3) := lw_ix 3 hL (by omega)
  have i4 : m_ix (Int32.ofNat i + 4) L = some (i + 4) := lw_ix 4 hL (by omega)
  simp only [eL_law_967, eL_law_981, eL_law_995, i1, i2, i3, i4, m_ob, m_bd, h1, h2, Option.toList, List.cons_append, List.nil_append, if_true]
theorem lc_20 {Rel : (Nat → Nat → Int32) → Prop} {L i : Nat} {xs : Nat → Int32} {st : Nat → Nat → Int32} (H : lw_C Rel 104 199 [.int (xs (i + 1)), .int (xs (i + 2))]) (hL : L ≤ 2560) (hi : i + 5 ≤ L) (hR : Rel st) : ∃ st2, Rel st2 ∧ m_ev (some (L, xs)) 2047 268 1000 [some (.ref 2000000), some (.ref 0), some (.ref 85), some (.int (Int32.ofNat i))] [] (SH, st) = m_ev (some (L, xs)) 2047 268 2022 [some (.ref 2000000), some (.ref 0), some (.ref 85), some (.int (Int32.ofNat i))] [] (SH, st2) := by
  obtain ⟨r, st1, st2, h1, h2, h3⟩ := H st hR
  refine ⟨st2, h3, ?_⟩
  have i1 : m_ix (Int32.ofNat i + 1) L = some (i + 1) := lw_ix 1 hL (by omega)
  have i2 : m_ix (Int32.ofNat i + 2) L = some (i + 2) := lw_ix 2 hL (by omega)
  have i3 : m_ix (Int32.ofNat i + 3) L = some (i + 3) := lw_ix 3 hL (by omega)
  have i4 : m_ix (Int32.ofNat i + 4) L = some (i + 4) := lw_ix 4 hL (by omega)
  simp only [eL_law_1000, eL_law_1014, eL_law_1028, i1, i2, i3, i4, m_ob, m_bd, h1, h2, Option.toList, List.cons_append, List.nil_append, if_true]
theorem lc_21 {Rel : (Nat → Nat → Int32) → Prop} {L i : Nat} {xs : Nat → Int32} {st : Nat → Nat → Int32} (H : lw_C Rel 105 202 [.int (xs (i + 1)), .int (xs (i + 2))]) (hL : L ≤ 2560) (hi : i + 5 ≤ L) (hR : Rel st) : ∃ st2, Rel st2 ∧ m_ev (some (L, xs)) 2047 268 1033 [some (.ref 2000000), some (.ref 0), some (.ref 85), some (.int (Int32.ofNat i))] [] (SH, st) = m_ev (some (L, xs)) 2047 268 2022 [some (.ref 2000000), some (.ref 0), some (.ref 85), some (.int (Int32.ofNat i))] [] (SH, st2) := by
  obtain ⟨r, st1, st2, h1, h2, h3⟩ := H st hR
  refine ⟨st2, h3, ?_⟩
  have i1 : m_ix (Int32.ofNat i + 1) L = some (i + 1) := lw_ix 1 hL (by omega)
  have i2 : m_ix (Int32.ofNat i + 2) L = some (i + 2) := lw_ix 2 hL (by omega)
  have i3 : m_ix (Int32.ofNat i + 3) L = some (i + 3) := lw_ix 3 hL (by omega)
  have i4 : m_ix (Int32.ofNat i + 4) L = some (i + 4) := lw_ix 4 hL (by omega)
  simp only [eL_law_1033, eL_law_1047, eL_law_1061, i1, i2, i3, i4, m_ob, m_bd, h1, h2, Option.toList, List.cons_append, List.nil_append, if_true]
theorem lc_22 {Rel : (Nat → Nat → Int32) → Prop} {L i : Nat} {xs : Nat → Int32} {st : Nat → Nat → Int32} (H : lw_C Rel 106 203 [.int (xs (i + 1))]) (hL : L ≤ 2560) (hi : i + 5 ≤ L) (hR : Rel st) : ∃ st2, Rel st2 ∧ m_ev (some (L, xs)) 2047 268 1066 [some (.ref 2000000), some (.ref 0), some (.ref 85), some (.int (Int32.ofNat i))] [] (SH, st) = m_ev (some (L, xs)) 2047 268 2022 [some (.ref 2000000), some (.ref 0), some (.ref 85), some (.int (Int32.ofNat i))] [] (SH, st2) := by
  obtain ⟨r, st1, st2, h1, h2, h3⟩ := H st hR
  refine ⟨st2, h3, ?_⟩
  have i1 : m_ix (Int32.ofNat i + 1) L = some (i + 1) := lw_ix 1 hL (by omega)
  have i2 : m_ix (Int32.ofNat i + 2) L = some (i + 2) := lw_ix 2 hL (by omega)
  have i3 : m_ix (Int32.ofNat i + 3) L = some (i + 3) := lw_ix 3 hL (by omega)
  have i4 : m_ix (Int32.ofNat i + 4) L = some (i + 4) := lw_ix 4 hL (by omega)
  simp only [eL_law_1066, eL_law_1075, eL_law_1084, i1, i2, i3, i4, m_ob, m_bd, h1, h2, Option.toList, List.cons_append, List.nil_append, if_true]
theorem lc_23 {Rel : (Nat → Nat → Int32) → Prop} {L i : Nat} {xs : Nat → Int32} {st : Nat → Nat → Int32} (H : lw_C Rel 107 204 [.int (xs (i + 1)), .int (xs (i + 2)), .int (xs (i + 3))]) (hL : L ≤ 2560) (hi : i + 5 ≤ L) (hR : Rel st) : ∃ st2, Rel st2 ∧ m_ev (some (L, xs)) 2047 268 1089 [some (.ref 2000000), some (.ref 0), some (.ref 85), some (.int (Int32.ofNat i))] [] (SH, st) = m_ev (some (L, xs)) 2047 268 2022 [some (.ref 2000000), some (.ref 0), some (.ref 85), some (.int (Int32.ofNat i))] [] (SH, st2) := by
  obtain ⟨r, st1, st2, h1, h2, h3⟩ := H st hR
  refine ⟨st2, h3, ?_⟩
  have i1 : m_ix (Int32.ofNat i + 1) L = some (i + 1) := lw_ix 1 hL (by omega)
  have i2 : m_ix (Int32.ofNat i + 2) L = some (i + 2) := lw_ix 2 hL (by omega)
  have i3 : m_ix (Int32.ofNat i + 3) L = some (i + 3) := lw_ix 3 hL (by omega)
  have i4 : m_ix (Int32.ofNat i + 4) L = some (i + 4) := lw_ix 4 hL (by omega)
  simp only [eL_law_1089, eL_law_1108, eL_law_1127, i1, i2, i3, i4, m_ob, m_bd, h1, h2, Option.toList, List.cons_append, List.nil_append, if_true]
theorem lc_24 {Rel : (Nat → Nat → Int32) → Prop} {L i : Nat} {xs : Nat → Int32} {st : Nat → Nat → Int32} (H : lw_C Rel 108 206 [.int (xs (i + 1)), .int (xs (i + 2))]) (hL : L ≤ 2560) (hi : i + 5 ≤ L) (hR : Rel st) : ∃ st2, Rel st2 ∧ m_ev (some (L, xs)) 2047 268 1132 [some (.ref 2000000), some (.ref 0), some (.ref 85), some (.int (Int32.ofNat i))] [] (SH, st) = m_ev (some (L, xs)) 2047 268 2022 [some (.ref 2000000), some (.ref 0), some (.ref 85), some (.int (Int32.ofNat i))] [] (SH, st2) := by
  obtain ⟨r, st1, st2, h1, h2, h3⟩ := H st hR
  refine ⟨st2, h3, ?_⟩
  have i1 : m_ix (Int32.ofNat i + 1) L = some (i + 1) := lw_ix 1 hL (by omega)
  have i2 : m_ix (Int32.ofNat i + 2) L = some (i + 2) := lw_ix 2 hL (by omega)
  have i3 : m_ix (Int32.ofNat i + 3) L = some (i + 3) := lw_ix 3 hL (by omega)
  have i4 : m_ix (Int32.ofNat i + 4) L = some (i + 4) := lw_ix 4 hL (by omega)
  simp only [eL_law_1132, eL_law_1146, eL_law_1160, i1, i2, i3, i4, m_ob, m_bd, h1, h2, Option.toList, List.cons_append, List.nil_append, if_true]
theorem lc_25 {Rel : (Nat → Nat → Int32) → Prop} {L i : Nat} {xs : Nat → Int32} {st : Nat → Nat → Int32} (H : lw_C Rel 109 207 [.int (xs (i + 1)), .int (xs (i + 2)), .int (xs (i + 3))]) (hL : L ≤ 2560) (hi : i + 5 ≤ L) (hR : Rel st) : ∃ st2, Rel st2 ∧ m_ev (some (L, xs)) 2047 268 1165 [some (.ref 2000000), some (.ref 0), some (.ref 85), some (.int (Int32.ofNat i))] [] (SH, st) = m_ev (some (L, xs)) 2047 268 2022 [some (.ref 2000000), some (.ref 0), some (.ref 85), some (.int (Int32.ofNat i))] [] (SH, st2) := by
  obtain ⟨r, st1, st2, h1, h2, h3⟩ := H st hR
  refine ⟨st2, h3, ?_⟩
  have i1 : m_ix (Int32.ofNat i + 1) L = some (i + 1) := lw_ix 1 hL (by omega)
  have i2 : m_ix (Int32.ofNat i + 2) L = some (i + 2) := lw_ix 2 hL (by omega)
  have i3 : m_ix (Int32.ofNat i + 3) L = some (i + 3) := lw_ix 3 hL (by omega)
  have i4 : m_ix (Int32.ofNat i + 4) L = some (i + 4) := lw_ix 4 hL (by omega)
  simp only [eL_law_1165, eL_law_1184, eL_law_1203, i1, i2, i3, i4, m_ob, m_bd, h1, h2, Option.toList, List.cons_append, List.nil_append, if_true]
theorem lc_26 {Rel : (Nat → Nat → Int32) → Prop} {L i : Nat} {xs : Nat → Int32} {st : Nat → Nat → Int32} (H : lw_C Rel 110 208 [.int (xs (i + 1)), .int (xs (i + 2)), .int (xs (i + 3))]) (hL : L ≤ 2560) (hi : i + 5 ≤ L) (hR : Rel st) : ∃ st2, Rel st2 ∧ m_ev (some (L, xs)) 2047 268 1208 [some (.ref 2000000), some (.ref 0), some (.ref 85), some (.int (Int32.ofNat i))] [] (SH, st) = m_ev (some (L, xs)) 2047 268 2022 [some (.ref 2000000), some (.ref 0), some (.ref 85), some (.int (Int32.ofNat i))] [] (SH, st2) := by
  obtain ⟨r, st1, st2, h1, h2, h3⟩ := H st hR
  refine ⟨st2, h3, ?_⟩
  have i1 : m_ix (Int32.ofNat i + 1) L = some (i + 1) := lw_ix 1 hL (by omega)
  have i2 : m_ix (Int32.ofNat i + 2) L = some (i + 2) := lw_ix 2 hL (by omega)
  have i3 : m_ix (Int32.ofNat i + 3) L = some (i + 3) := lw_ix 3 hL (by omega)
  have i4 : m_ix (Int32.ofNat i + 4) L = some (i + 4) := lw_ix 4 hL (by omega)
  simp only [eL_law_1208, eL_law_1227, eL_law_1246, i1, i2, i3, i4, m_ob, m_bd, h1, h2, Option.toList, List.cons_append, List.nil_append, if_true]
theorem lc_27 {Rel : (Nat → Nat → Int32) → Prop} {L i : Nat} {xs : Nat → Int32} {st : Nat → Nat → Int32} (H : lw_C Rel 111 209 [.int (xs (i + 1))]) (hL : L ≤ 2560) (hi : i + 5 ≤ L) (hR : Rel st) : ∃ st2, Rel st2 ∧ m_ev (some (L, xs)) 2047 268 1251 [some (.ref 2000000), some (.ref 0), some (.ref 85), some (.int (Int32.ofNat i))] [] (SH, st) = m_ev (some (L, xs)) 2047 268 2022 [some (.ref 2000000), some (.ref 0), some (.ref 85), some (.int (Int32.ofNat i))] [] (SH, st2) := by
  obtain ⟨r, st1, st2, h1, h2, h3⟩ := H st hR
  refine ⟨st2, h3, ?_⟩
  have i1 : m_ix (Int32.ofNat i + 1) L = some (i + 1) := lw_ix 1 hL (by omega)
  have i2 : m_ix (Int32.ofNat i + 2) L = some (i + 2) := lw_ix 2 hL (by omega)
  have i3 : m_ix (Int32.ofNat i + 3) L = some (i + 3) := lw_ix 3 hL (by omega)
  have i4 : m_ix (Int32.ofNat i + 4) L = some (i + 4) := lw_ix 4 hL (by omega)
  simp only [eL_law_1251, eL_law_1260, eL_law_1269, i1, i2, i3, i4, m_ob, m_bd, h1, h2, Option.toList, List.cons_append, List.nil_append, if_true]
theorem lc_28 {Rel : (Nat → Nat → Int32) → Prop} {L i : Nat} {xs : Nat → Int32} {st : Nat → Nat → Int32} (H : lw_C Rel 112 211 [.int (xs (i + 1))]) (hL : L ≤ 2560) (hi : i + 5 ≤ L) (hR : Rel st) : ∃ st2, Rel st2 ∧ m_ev (some (L, xs)) 2047 268 1274 [some (.ref 2000000), some (.ref 0), some (.ref 85), some (.int (Int32.ofNat i))] [] (SH, st) = m_ev (some (L, xs)) 2047 268 2022 [some (.ref 2000000), some (.ref 0), some (.ref 85), some (.int (Int32.ofNat i))] [] (SH, st2) := by
  obtain ⟨r, st1, st2, h1, h2, h3⟩ := H st hR
  refine ⟨st2, h3, ?_⟩
  have i1 : m_ix (Int32.ofNat i + 1) L = some (i + 1) := lw_ix 1 hL (by omega)
  have i2 : m_ix (Int32.ofNat i + 2) L = some (i + 2) := lw_ix 2 hL (by omega)
  have i3 : m_ix (Int32.ofNat i + 3) L = some (i + 3) := lw_ix 3 hL (by omega)
  have i4 : m_ix (Int32.ofNat i + 4) L = some (i + 4) := lw_ix 4 hL (by omega)
  simp only [eL_law_1274, eL_law_1283, eL_law_1292, i1, i2, i3, i4, m_ob, m_bd, h1, h2, Option.toList, List.cons_append, List.nil_append, if_true]
theorem lc_29 {Rel : (Nat → Nat → Int32) → Prop} {L i : Nat} {xs : Nat → Int32} {st : Nat → Nat → Int32} (H : lw_C Rel 113 212 [.int (xs (i + 1)), .int (xs (i + 2)), .int (xs (i + 3)), .int (xs (i + 4))]) (hL : L ≤ 2560) (hi : i + 5 ≤ L) (hR : Rel st) : ∃ st2, Rel st2 ∧ m_ev (some (L, xs)) 2047 268 1297 [some (.ref 2000000), some (.ref 0), some (.ref 85), some (.int (Int32.ofNat i))] [] (SH, st) = m_ev (some (L, xs)) 2047 268 2022 [some (.ref 2000000), some (.ref 0), some (.ref 85), some (.int (Int32.ofNat i))] [] (SH, st2) := by
  obtain ⟨r, st1, st2, h1, h2, h3⟩ := H st hR
  refine ⟨st2, h3, ?_⟩
  have i1 : m_ix (Int32.ofNat i + 1) L = some (i + 1) := lw_ix 1 hL (by omega)
  have i2 : m_ix (Int32.ofNat i + 2) L = some (i + 2) := lw_ix 2 hL (by omega)
  have i3 : m_ix (Int32.ofNat i + 3) L = some (i + 3) := lw_ix 3 hL (by omega)
  have i4 : m_ix (Int32.ofNat i + 4) L = some (i + 4) := lw_ix 4 hL (by omega)
  simp only [eL_law_1297, eL_law_1321, eL_law_1345, i1, i2, i3, i4, m_ob, m_bd, h1, h2, Option.toList, List.cons_append, List.nil_append, if_true]
theorem lc_30 {Rel : (Nat → Nat → Int32) → Prop} {L i : Nat} {xs : Nat → Int32} {st : Nat → Nat → Int32} (H : lw_C Rel 114 213 [.int (xs (i + 1)), .int (xs (i + 2))]) (hL : L ≤ 2560) (hi : i + 5 ≤ L) (hR : Rel st) : ∃ st2, Rel st2 ∧ m_ev (some (L, xs)) 2047 268 1350 [some (.ref 2000000), some (.ref 0), some (.ref 85), some (.int (Int32.ofNat i))] [] (SH, st) = m_ev (some (L, xs)) 2047 268 2022 [some (.ref 2000000), some (.ref 0), some (.ref 85), some (.int (Int32.ofNat i))] [] (SH, st2) := by
  obtain ⟨r, st1, st2, h1, h2, h3⟩ := H st hR
  refine ⟨st2, h3, ?_⟩
  have i1 : m_ix (Int32.ofNat i + 1) L = some (i + 1) := lw_ix 1 hL (by omega)
  have i2 : m_ix (Int32.ofNat i + 2) L = some (i + 2) := lw_ix 2 hL (by omega)
  have i3 : m_ix (Int32.ofNat i + 3) L = some (i + 3) := lw_ix 3 hL (by omega)
  have i4 : m_ix (Int32.ofNat i + 4) L = some (i + 4) := lw_ix 4 hL (by omega)
  simp only [eL_law_1350, eL_law_1364, eL_law_1378, i1, i2, i3, i4, m_ob, m_bd, h1, h2, Option.toList, List.cons_append, List.nil_append, if_true]
theorem lc_31 {Rel : (Nat → Nat → Int32) → Prop} {L i : Nat} {xs : Nat → Int32} {st : Nat → Nat → Int32} (H : lw_C Rel 126 214 [.int (xs (i + 1)), .int (xs (i + 2))]) (hL : L ≤ 2560) (hi : i + 5 ≤ L) (hR : Rel st) : ∃ st2, Rel st2 ∧ m_ev (some (L, xs)) 2047 268 1383 [some (.ref 2000000), some (.ref 0), some (.ref 85), some (.int (Int32.ofNat i))] [] (SH, st) = m_ev (some (L, xs)) 2047 268 2022 [some (.ref 2000000), some (.ref 0), some (.ref 85), some (.int (Int32.ofNat i))] [] (SH, st2) := by
  obtain ⟨r, st1, st2, h1, h2, h3⟩ := H st hR
  refine ⟨st2, h3, ?_⟩
  have i1 : m_ix (Int32.ofNat i + 1) L = some (i + 1) := lw_ix 1 hL (by omega)
  have i2 : m_ix (Int32.ofNat i + 2) L = some (i + 2) := lw_ix 2 hL (by omega)
  have i3 : m_ix (Int32.ofNat i + 3) L = some (i + 3) := lw_ix 3 hL (by omega)
  have i4 : m_ix (Int32.ofNat i + 4) L = some (i + 4) := lw_ix 4 hL (by omega)
  simp only [eL_law_1383, eL_law_1397, eL_law_1411, i1, i2, i3, i4, m_ob, m_bd, h1, h2, Option.toList, List.cons_append, List.nil_append, if_true]
theorem lc_32 {Rel : (Nat → Nat → Int32) → Prop} {L i : Nat} {xs : Nat → Int32} {st : Nat → Nat → Int32} (H : lw_C Rel 127 215 []) (hL : L ≤ 2560) (hi : i + 5 ≤ L) (hR : Rel st) : ∃ st2, Rel st2 ∧ m_ev (some (L, xs)) 2047 268 1416 [some (.ref 2000000), some (.ref 0), some (.ref 85), some (.int (Int32.ofNat i))] [] (SH, st) = m_ev (some (L, xs)) 2047 268 2022 [some (.ref 2000000), some (.ref 0), some (.ref 85), some (.int (Int32.ofNat i))] [] (SH, st2) := by
  obtain ⟨r, st1, st2, h1, h2, h3⟩ := H st hR
  refine ⟨st2, h3, ?_⟩
  have i1 : m_ix (Int32.ofNat i + 1) L = some (i + 1) := lw_ix 1 hL (by omega)
  have i2 : m_ix (Int32.ofNat i + 2) L = some (i + 2) := lw_ix 2 hL (by omega)
  have i3 : m_ix (Int32.ofNat i + 3) L = some (i + 3) := lw_ix 3 hL (by omega)
  have i4 : m_ix (Int32.ofNat i + 4) L = some (i + 4) := lw_ix 4 hL (by omega)
  simp only [eL_law_1416, eL_law_1420, eL_law_1424, i1, i2, i3, i4, m_ob, m_bd, h1, h2, Option.toList, List.cons_append, List.nil_append, if_true]
theorem lc_33 {Rel : (Nat → Nat → Int32) → Prop} {L i : Nat} {xs : Nat → Int32} {st : Nat → Nat → Int32} (H : lw_C Rel 128 218 [.int (xs (i + 1)), .int (xs (i + 2))]) (hL : L ≤ 2560) (hi : i + 5 ≤ L) (hR : Rel st) : ∃ st2, Rel st2 ∧ m_ev (some (L, xs)) 2047 268 1429 [some (.ref 2000000), some (.ref 0), some (.ref 85), some (.int (Int32.ofNat i))] [] (SH, st) = m_ev (some (L, xs)) 2047 268 2022 [some (.ref 2000000), some (.ref 0), some (.ref 85), some (.int (Int32.ofNat i))] [] (SH, st2) := by
  obtain ⟨r, st1, st2, h1, h2, h3⟩ := H st hR
  refine ⟨st2, h3, ?_⟩
  have i1 : m_ix (Int32.ofNat i + 1) L = some (i + 1) := lw_ix 1 hL (by omega)
  have i2 : m_ix (Int32.ofNat i + 2) L = some (i + 2) := lw_ix 2 hL (by omega)
  have i3 : m_ix (Int32.ofNat i + 3) L = some (i + 3) := lw_ix 3 hL (by omega)
  have i4 : m_ix (Int32.ofNat i + 4) L = some (i + 4) := lw_ix 4 hL (by omega)
  simp only [eL_law_1429, eL_law_1443, eL_law_1457, i1, i2, i3, i4, m_ob, m_bd, h1, h2, Option.toList, List.cons_append, List.nil_append, if_true]
theorem lc_34 {Rel : (Nat → Nat → Int32) → Prop} {L i : Nat} {xs : Nat → Int32} {st : Nat → Nat → Int32} (H : lw_C Rel 129 219 [.int (xs (i + 1))]) (hL : L ≤ 2560) (hi : i + 5 ≤ L) (hR : Rel st) : ∃ st2, Rel st2 ∧ m_ev (some (L, xs)) 2047 268 1462 [some (.ref 2000000), some (.ref 0), some (.ref 85), some (.int (Int32.ofNat i))] [] (SH, st) = m_ev (some (L, xs)) 2047 268 2022 [some (.ref 2000000), some (.ref 0), some (.ref 85), some (.int (Int32.ofNat i))] [] (SH, st2) := by
  obtain ⟨r, st1, st2, h1, h2, h3⟩ := H st hR
  refine ⟨st2, h3, ?_⟩
  have i1 : m_ix (Int32.ofNat i + 1) L = some (i + 1) := lw_ix 1 hL (by omega)
  have i2 : m_ix (Int32.ofNat i + 2) L = some (i + 2) := lw_ix 2 hL (by omega)
  have i3 : m_ix (Int32.ofNat i + 3) L = some (i + 3) := lw_ix 3 hL (by omega)
  have i4 : m_ix (Int32.ofNat i + 4) L = some (i + 4) := lw_ix 4 hL (by omega)
  simp only [eL_law_1462, eL_law_1471, eL_law_1480, i1, i2, i3, i4, m_ob, m_bd, h1, h2, Option.toList, List.cons_append, List.nil_append, if_true]
theorem lc_35 {Rel : (Nat → Nat → Int32) → Prop} {L i : Nat} {xs : Nat → Int32} {st : Nat → Nat → Int32} (H : lw_C Rel 131 220 [.int (xs (i + 1)), .int (xs (i + 2)), .int (if xs (i + 3) = 0 then 0 else 1)]) (hL : L ≤ 2560) (hi : i + 5 ≤ L) (hR : Rel st) : ∃ st2, Rel st2 ∧ m_ev (some (L, xs)) 2047 268 1485 [some (.ref 2000000), some (.ref 0), some (.ref 85), some (.int (Int32.ofNat i))] [] (SH, st) = m_ev (some (L, xs)) 2047 268 2022 [some (.ref 2000000), some (.ref 0), some (.ref 85), some (.int (Int32.ofNat i))] [] (SH, st2) := by
  obtain ⟨r, st1, st2, h1, h2, h3⟩ := H st hR
  refine ⟨st2, h3, ?_⟩
  have i1 : m_ix (Int32.ofNat i + 1) L = some (i + 1) := lw_ix 1 hL (by omega)
  have i2 : m_ix (Int32.ofNat i + 2) L = some (i + 2) := lw_ix 2 hL (by omega)
  have i3 : m_ix (Int32.ofNat i + 3) L = some (i + 3) := lw_ix 3 hL (by omega)
  have i4 : m_ix (Int32.ofNat i + 4) L = some (i + 4) := lw_ix 4 hL (by omega)
  by_cases hz : xs (i + 3) = 0
  · rw [if_pos hz] at h1 h2
    simp only [eL_law_1485, eL_law_1508, eL_law_1509, eL_law_1512, eL_law_1535, eL_law_1536, eL_law_1539, i1, i2, i3, i4, m_ob, m_bd, h1, h2, hz, Option.toList, List.cons_append, List.nil_append, if_true]
  · rw [if_neg hz] at h1 h2
    simp only [eL_law_1485, eL_law_1508, eL_law_1509, eL_law_1512, eL_law_1535, eL_law_1536, eL_law_1539, i1, i2, i3, i4, m_ob, m_bd, h1, h2, hz, Option.toList, List.cons_append, List.nil_append, if_true, if_false]
theorem lc_36 {Rel : (Nat → Nat → Int32) → Prop} {L i : Nat} {xs : Nat → Int32} {st : Nat → Nat → Int32} (H : lw_C Rel 132 222 [.int (xs (i + 1)), .int (xs (i + 2))]) (hL : L ≤ 2560) (hi : i + 5 ≤ L) (hR : Rel st) : ∃ st2, Rel st2 ∧ m_ev (some (L, xs)) 2047 268 1544 [some (.ref 2000000), some (.ref 0), some (.ref 85), some (.int (Int32.ofNat i))] [] (SH, st) = m_ev (some (L, xs)) 2047 268 2022 [some (.ref 2000000), some (.ref 0), some (.ref 85), some (.int (Int32.ofNat i))] [] (SH, st2) := by
  obtain ⟨r, st1, st2, h1, h2, h3⟩ := H st hR
  refine ⟨st2, h3, ?_⟩
  have i1 : m_ix (Int32.ofNat i + 1) L = some (i + 1) := lw_ix 1 hL (by omega)
  have i2 : m_ix (Int32.ofNat i + 2) L = some (i + 2) := lw_ix 2 hL (by omega)
  have i3 : m_ix (Int32.ofNat i + 3) L = some (i + 3) := lw_ix 3 hL (by omega)
  have i4 : m_ix (Int32.ofNat i + 4) L = some (i + 4) := lw_ix 4 hL (by omega)
  simp only [eL_law_1544, eL_law_1558, eL_law_1572, i1, i2, i3, i4, m_ob, m_bd, h1, h2, Option.toList, List.cons_append, List.nil_append, if_true]
theorem lc_37 {Rel : (Nat → Nat → Int32) → Prop} {L i : Nat} {xs : Nat → Int32} {st : Nat → Nat → Int32} (H : lw_C Rel 133 223 [.int (xs (i + 1)), .int (xs (i + 2)), .int (xs (i + 3))]) (hL : L ≤ 2560) (hi : i + 5 ≤ L) (hR : Rel st) : ∃ st2, Rel st2 ∧ m_ev (some (L, xs)) 2047 268 1577 [some (.ref 2000000), some (.ref 0), some (.ref 85), some (.int (Int32.ofNat i))] [] (SH, st) = m_ev (some (L, xs)) 2047 268 2022 [some (.ref 2000000), some (.ref 0), some (.ref 85), some (.int (Int32.ofNat i))] [] (SH, st2) := by
  obtain ⟨r, st1, st2, h1, h2, h3⟩ := H st hR
  refine ⟨st2, h3, ?_⟩
  have i1 : m_ix (Int32.ofNat i + 1) L = some (i + 1) := lw_ix 1 hL (by omega)
  have i2 : m_ix (Int32.ofNat i + 2) L = some (i + 2) := lw_ix 2 hL (by omega)
  have i3 : m_ix (Int32.ofNat i + 3) L = some (i + 3) := lw_ix 3 hL (by omega)
  have i4 : m_ix (Int32.ofNat i + 4) L = some (i + 4) := lw_ix 4 hL (by omega)
  simp only [eL_law_1577, eL_law_1596, eL_law_1615, i1, i2, i3, i4, m_ob, m_bd, h1, h2, Option.toList, List.cons_append, List.nil_append, if_true]
theorem lc_38 {Rel : (Nat → Nat → Int32) → Prop} {L i : Nat} {xs : Nat → Int32} {st : Nat → Nat → Int32} (H : lw_C Rel 134 225 [.int (if xs (i + 1) = 0 then 0 else 1)]) (hL : L ≤ 2560) (hi : i + 5 ≤ L) (hR : Rel st) : ∃ st2, Rel st2 ∧ m_ev (some (L, xs)) 2047 268 1620 [some (.ref 2000000), some (.ref 0), some (.ref 85), some (.int (Int32.ofNat i))] [] (SH, st) = m_ev (some (L, xs)) 2047 268 2022 [some (.ref 2000000), some (.ref 0), some (.ref 85), some (.int (Int32.ofNat i))] [] (SH, st2) := by
  obtain ⟨r, st1, st2, h1, h2, h3⟩ := H st hR
  refine ⟨st2, h3, ?_⟩
  have i1 : m_ix (Int32.ofNat i + 1) L = some (i + 1) := lw_ix 1 hL (by omega)
  have i2 : m_ix (Int32.ofNat i + 2) L = some (i + 2) := lw_ix 2 hL (by omega)
  have i3 : m_ix (Int32.ofNat i + 3) L = some (i + 3) := lw_ix 3 hL (by omega)
  have i4 : m_ix (Int32.ofNat i + 4) L = some (i + 4) := lw_ix 4 hL (by omega)
  by_cases hz : xs (i + 1) = 0
  · rw [if_pos hz] at h1 h2
    simp only [eL_law_1620, eL_law_1633, eL_law_1634, eL_law_1637, eL_law_1650, eL_law_1651, eL_law_1654, i1, i2, i3, i4, m_ob, m_bd, h1, h2, hz, Option.toList, List.cons_append, List.nil_append, if_true]
  · rw [if_neg hz] at h1 h2
    simp only [eL_law_1620, eL_law_1633, eL_law_1634, eL_law_1637, eL_law_1650, eL_law_1651, eL_law_1654, i1, i2, i3, i4, m_ob, m_bd, h1, h2, hz, Option.toList, List.cons_append, List.nil_append, if_true, if_false]
theorem lc_39 {Rel : (Nat → Nat → Int32) → Prop} {L i : Nat} {xs : Nat → Int32} {st : Nat → Nat → Int32} (H : lw_C Rel 137 245 [.int (xs (i + 1)), .int (xs (i + 2)), .int (xs (i + 3))]) (hL : L ≤ 2560) (hi : i + 5 ≤ L) (hR : Rel st) : ∃ st2, Rel st2 ∧ m_ev (some (L, xs)) 2047 268 1659 [some (.ref 2000000), some (.ref 0), some (.ref 85), some (.int (Int32.ofNat i))] [] (SH, st) = m_ev (some (L, xs)) 2047 268 2022 [some (.ref 2000000), some (.ref 0), some (.ref 85), some (.int (Int32.ofNat i))] [] (SH, st2) := by
  obtain ⟨r, st1, st2, h1, h2, h3⟩ := H st hR
  refine ⟨st2, h3, ?_⟩
  have i1 : m_ix (Int32.ofNat i + 1) L = some (i + 1) := lw_ix 1 hL (by omega)
  have i2 : m_ix (Int32.ofNat i + 2) L = some (i + 2) := lw_ix 2 hL (by omega)
  have i3 : m_ix (Int32.ofNat i + 3) L = some (i + 3) := lw_ix 3 hL (by omega)
  have i4 : m_ix (Int32.ofNat i + 4) L = some (i + 4) := lw_ix 4 hL (by omega)
  simp only [eL_law_1659, eL_law_1678, eL_law_1697, i1, i2, i3, i4, m_ob, m_bd, h1, h2, Option.toList, List.cons_append, List.nil_append, if_true]
theorem lc_40 {Rel : (Nat → Nat → Int32) → Prop} {L i : Nat} {xs : Nat → Int32} {st : Nat → Nat → Int32} (H : lw_C Rel 138 247 [.int (xs (i + 1)), .int (xs (i + 2)), .int (xs (i + 3))]) (hL : L ≤ 2560) (hi : i + 5 ≤ L) (hR : Rel st) : ∃ st2, Rel st2 ∧ m_ev (some (L, xs)) 2047 268 1702 [some (.ref 2000000), some (.ref 0), some (.ref 85), some (.int (Int32.ofNat i))] [] (SH, st) = m_ev (some (L, xs)) 2047 268 2022 [some (.ref 2000000), some (.ref 0), some (.ref 85), some (.int (Int32.ofNat i))] [] (SH, st2) := by
  obtain ⟨r, st1, st2, h1, h2, h3⟩ := H st hR
  refine ⟨st2, h3, ?_⟩
  have i1 : m_ix (Int32.ofNat i + 1) L = some (i + 1) := lw_ix 1 hL (by omega)
  have i2 : m_ix (Int32.ofNat i + 2) L = some (i + 2) := lw_ix 2 hL (by omega)
  have i3 : m_ix (Int32.ofNat i + 3) L = some (i + 3) := lw_ix 3 hL (by omega)
  have i4 : m_ix (Int32.ofNat i + 4) L = some (i + 4) := lw_ix 4 hL (by omega)
  simp only [eL_law_1702, eL_law_1721, eL_law_1740, i1, i2, i3, i4, m_ob, m_bd, h1, h2, Option.toList, List.cons_append, List.nil_append, if_true]
theorem lc_41 {Rel : (Nat → Nat → Int32) → Prop} {L i : Nat} {xs : Nat → Int32} {st : Nat → Nat → Int32} (H : lw_C Rel 139 249 [.int (xs (i + 1)), .int (xs (i + 2)), .int (xs (i + 3))]) (hL : L ≤ 2560) (hi : i + 5 ≤ L) (hR : Rel st) : ∃ st2, Rel st2 ∧ m_ev (some (L, xs)) 2047 268 1745 [some (.ref 2000000), some (.ref 0), some (.ref 85), some (.int (Int32.ofNat i))] [] (SH, st) = m_ev (some (L, xs)) 2047 268 2022 [some (.ref 2000000), some (.ref 0), some (.ref 85), some (.int (Int32.ofNat i))] [] (SH, st2) := by
  obtain ⟨r, st1, st2, h1, h2, h3⟩ := H st hR
  refine ⟨st2, h3, ?_⟩
  have i1 : m_ix (Int32.ofNat i + 1) L = some (i + 1) := lw_ix 1 hL (by omega)
  have i2 : m_ix (Int32.ofNat i + 2) L = some (i + 2) := lw_ix 2 hL (by omega)
  have i3 : m_ix (Int32.ofNat i + 3) L = some (i + 3) := lw_ix 3 hL (by omega)
  have i4 : m_ix (Int32.ofNat i + 4) L = some (i + 4) := lw_ix 4 hL (by omega)
  simp only [eL_law_1745, eL_law_1764, eL_law_1783, i1, i2, i3, i4, m_ob, m_bd, h1, h2, Option.toList, List.cons_append, List.nil_append, if_true]
theorem lc_42 {Rel : (Nat → Nat → Int32) → Prop} {L i : Nat} {xs : Nat → Int32} {st : Nat → Nat → Int32} (H : lw_C Rel 140 250 [.int (xs (i + 1)), .int (xs (i + 2)), .int (xs (i + 3))]) (hL : L ≤ 2560) (hi : i + 5 ≤ L) (hR : Rel st) : ∃ st2, Rel st2 ∧ m_ev (some (L, xs)) 2047 268 1788 [some (.ref 2000000), some (.ref 0), some (.ref 85), some (.int (Int32.ofNat i))] [] (SH, st) = m_ev (some (L, xs)) 2047 268 2022 [some (.ref 2000000), some (.ref 0), some (.ref 85), some (.int (Int32.ofNat i))] [] (SH, st2) := by
  obtain ⟨r, st1, st2, h1, h2, h3⟩ := H st hR
  refine ⟨st2, h3, ?_⟩
  have i1 : m_ix (Int32.ofNat i + 1) L = some (i + 1) := lw_ix 1 hL (by omega)
  have i2 : m_ix (Int32.ofNat i + 2) L = some (i + 2) := lw_ix 2 hL (by omega)
  have i3 : m_ix (Int32.ofNat i + 3) L = some (i + 3) := lw_ix 3 hL (by omega)
  have i4 : m_ix (Int32.ofNat i + 4) L = some (i + 4) := lw_ix 4 hL (by omega)
  simp only [eL_law_1788, eL_law_1807, eL_law_1826, i1, i2, i3, i4, m_ob, m_bd, h1, h2, Option.toList, List.cons_append, List.nil_append, if_true]
theorem lc_43 {Rel : (Nat → Nat → Int32) → Prop} {L i : Nat} {xs : Nat → Int32} {st : Nat → Nat → Int32} (H : lw_C Rel 141 251 [.int (xs (i + 1)), .int (xs (i + 2)), .int (xs (i + 3))]) (hL : L ≤ 2560) (hi : i + 5 ≤ L) (hR : Rel st) : ∃ st2, Rel st2 ∧ m_ev (some (L, xs)) 2047 268 1831 [some (.ref 2000000), some (.ref 0), some (.ref 85), some (.int (Int32.ofNat i))] [] (SH, st) = m_ev (some (L, xs)) 2047 268 2022 [some (.ref 2000000), some (.ref 0), some (.ref 85), some (.int (Int32.ofNat i))] [] (SH, st2) := by
  obtain ⟨r, st1, st2, h1, h2, h3⟩ := H st hR
  refine ⟨st2, h3, ?_⟩
  have i1 : m_ix (Int32.ofNat i + 1) L = some (i + 1) := lw_ix 1 hL (by omega)
  have i2 : m_ix (Int32.ofNat i + 2) L = some (i + 2) := lw_ix 2 hL (by omega)
  have i3 : m_ix (Int32.ofNat i + 3) L = some (i + 3) := lw_ix 3 hL (by omega)
  have i4 : m_ix (Int32.ofNat i + 4) L = some (i + 4) := lw_ix 4 hL (by omega)
  simp only [eL_law_1831, eL_law_1850, eL_law_1869, i1, i2, i3, i4, m_ob, m_bd, h1, h2, Option.toList, List.cons_append, List.nil_append, if_true]
theorem lc_44 {Rel : (Nat → Nat → Int32) → Prop} {L i : Nat} {xs : Nat → Int32} {st : Nat → Nat → Int32} (H : lw_C Rel 142 253 [.int (xs (i + 1)), .int (xs (i + 2))]) (hL : L ≤ 2560) (hi : i + 5 ≤ L) (hR : Rel st) : ∃ st2, Rel st2 ∧ m_ev (some (L, xs)) 2047 268 1874 [some (.ref 2000000), some (.ref 0), some (.ref 85), some (.int (Int32.ofNat i))] [] (SH, st) = m_ev (some (L, xs)) 2047 268 2022 [some (.ref 2000000), some (.ref 0), some (.ref 85), some (.int (Int32.ofNat i))] [] (SH, st2) := by
  obtain ⟨r, st1, st2, h1, h2, h3⟩ := H st hR
  refine ⟨st2, h3, ?_⟩
  have i1 : m_ix (Int32.ofNat i + 1) L = some (i + 1) := lw_ix 1 hL (by omega)
  have i2 : m_ix (Int32.ofNat i + 2) L = some (i + 2) := lw_ix 2 hL (by omega)
  have i3 : m_ix (Int32.ofNat i + 3) L = some (i + 3) := lw_ix 3 hL (by omega)
  have i4 : m_ix (Int32.ofNat i + 4) L = some (i + 4) := lw_ix 4 hL (by omega)
  simp only [eL_law_1874, eL_law_1888, eL_law_1902, i1, i2, i3, i4, m_ob, m_bd, h1, h2, Option.toList, List.cons_append, List.nil_append, if_true]
theorem lc_45 {Rel : (Nat → Nat → Int32) → Prop} {L i : Nat} {xs : Nat → Int32} {st : Nat → Nat → Int32} (H : lw_C Rel 143 260 [.int (xs (i + 1)), .int (xs (i + 2)), .int (xs (i + 3))]) (hL : L ≤ 2560) (hi : i + 5 ≤ L) (hR : Rel st) : ∃ st2, Rel st2 ∧ m_ev (some (L, xs)) 2047 268 1907 [some (.ref 2000000), some (.ref 0), some (.ref 85), some (.int (Int32.ofNat i))] [] (SH, st) = m_ev (some (L, xs)) 2047 268 2022 [some (.ref 2000000), some (.ref 0), some (.ref 85), some (.int (Int32.ofNat i))] [] (SH, st2) := by
  obtain ⟨r, st1, st2, h1, h2, h3⟩ := H st hR
  refine ⟨st2, h3, ?_⟩
  have i1 : m_ix (Int32.ofNat i + 1) L = some (i + 1) := lw_ix 1 hL (by omega)
  have i2 : m_ix (Int32.ofNat i + 2) L = some (i + 2) := lw_ix 2 hL (by omega)
  have i3 : m_ix (Int32.ofNat i + 3) L = some (i + 3) := lw_ix 3 hL (by omega)
  have i4 : m_ix (Int32.ofNat i + 4) L = some (i + 4) := lw_ix 4 hL (by omega)
  simp only [eL_law_1907, eL_law_1926, eL_law_1945, i1, i2, i3, i4, m_ob, m_bd, h1, h2, Option.toList, List.cons_append, List.nil_append, if_true]
theorem lc_46 {Rel : (Nat → Nat → Int32) → Prop} {L i : Nat} {xs : Nat → Int32} {st : Nat → Nat → Int32} (H : lw_C Rel 144 262 [.int (xs (i + 1))]) (hL : L ≤ 2560) (hi : i + 5 ≤ L) (hR : Rel st) : ∃ st2, Rel st2 ∧ m_ev (some (L, xs)) 2047 268 1950 [some (.ref 2000000), some (.ref 0), some (.ref 85), some (.int (Int32.ofNat i))] [] (SH, st) = m_ev (some (L, xs)) 2047 268 2022 [some (.ref 2000000), some (.ref 0), some (.ref 85), some (.int (Int32.ofNat i))] [] (SH, st2) := by
  obtain ⟨r, st1, st2, h1, h2, h3⟩ := H st hR
  refine ⟨st2, h3, ?_⟩
  have i1 : m_ix (Int32.ofNat i + 1) L = some (i + 1) := lw_ix 1 hL (by omega)
  have i2 : m_ix (Int32.ofNat i + 2) L = some (i + 2) := lw_ix 2 hL (by omega)
  have i3 : m_ix (Int32.ofNat i + 3) L = some (i + 3) := lw_ix 3 hL (by omega)
  have i4 : m_ix (Int32.ofNat i + 4) L = some (i + 4) := lw_ix 4 hL (by omega)
  simp only [eL_law_1950, eL_law_1959, eL_law_1968, i1, i2, i3, i4, m_ob, m_bd, h1, h2, Option.toList, List.cons_append, List.nil_append, if_true]
theorem lc_47 {Rel : (Nat → Nat → Int32) → Prop} {L i : Nat} {xs : Nat → Int32} {st : Nat → Nat → Int32} (H : lw_C Rel 145 263 [.int (xs (i + 1))]) (hL : L ≤ 2560) (hi : i + 5 ≤ L) (hR : Rel st) : ∃ st2, Rel st2 ∧ m_ev (some (L, xs)) 2047 268 1973 [some (.ref 2000000), some (.ref 0), some (.ref 85), some (.int (Int32.ofNat i))] [] (SH, st) = m_ev (some (L, xs)) 2047 268 2022 [some (.ref 2000000), some (.ref 0), some (.ref 85), some (.int (Int32.ofNat i))] [] (SH, st2) := by
  obtain ⟨r, st1, st2, h1, h2, h3⟩ := H st hR
  refine ⟨st2, h3, ?_⟩
  have i1 : m_ix (Int32.ofNat i + 1) L = some (i + 1) := lw_ix 1 hL (by omega)
  have i2 : m_ix (Int32.ofNat i + 2) L = some (i + 2) := lw_ix 2 hL (by omega)
  have i3 : m_ix (Int32.ofNat i + 3) L = some (i + 3) := lw_ix 3 hL (by omega)
  have i4 : m_ix (Int32.ofNat i + 4) L = some (i + 4) := lw_ix 4 hL (by omega)
  simp only [eL_law_1973, eL_law_1982, eL_law_1991, i1, i2, i3, i4, m_ob, m_bd, h1, h2, Option.toList, List.cons_append, List.nil_append, if_true]
theorem lc_48 {Rel : (Nat → Nat → Int32) → Prop} {L i : Nat} {xs : Nat → Int32} {st : Nat → Nat → Int32} (H : lw_C Rel 152 264 []) (hL : L ≤ 2560) (hi : i + 5 ≤ L) (hR : Rel st) : ∃ st2, Rel st2 ∧ m_ev (some (L, xs)) 2047 268 1996 [some (.ref 2000000), some (.ref 0), some (.ref 85), some (.int (Int32.ofNat i))] [] (SH, st) = m_ev (some (L, xs)) 2047 268 2022 [some (.ref 2000000), some (.ref 0), some (.ref 85), some (.int (Int32.ofNat i))] [] (SH, st2) := by
  obtain ⟨r, st1, st2, h1, h2, h3⟩ := H st hR
  refine ⟨st2, h3, ?_⟩
  have i1 : m_ix (Int32.ofNat i + 1) L = some (i + 1) := lw_ix 1 hL (by omega)
  have i2 : m_ix (Int32.ofNat i + 2) L = some (i + 2) := lw_ix 2 hL (by omega)
  have i3 : m_ix (Int32.ofNat i + 3) L = some (i + 3) := lw_ix 3 hL (by omega)
  have i4 : m_ix (Int32.ofNat i + 4) L = some (i + 4) := lw_ix 4 hL (by omega)
  simp only [eL_law_1996, eL_law_2000, eL_law_2004, i1, i2, i3, i4, m_ob, m_bd, h1, h2, Option.toList, List.cons_append, List.nil_append, if_true]
theorem lc_49 {Rel : (Nat → Nat → Int32) → Prop} {L i : Nat} {xs : Nat → Int32} {st : Nat → Nat → Int32} (H : lw_C Rel 153 265 []) (hL : L ≤ 2560) (hi : i + 5 ≤ L) (hR : Rel st) : ∃ st2, Rel st2 ∧ m_ev (some (L, xs)) 2047 268 2009 [some (.ref 2000000), some (.ref 0), some (.ref 85), some (.int (Int32.ofNat i))] [] (SH, st) = m_ev (some (L, xs)) 2047 268 2022 [some (.ref 2000000), some (.ref 0), some (.ref 85), some (.int (Int32.ofNat i))] [] (SH, st2) := by
  obtain ⟨r, st1, st2, h1, h2, h3⟩ := H st hR
  refine ⟨st2, h3, ?_⟩
  have i1 : m_ix (Int32.ofNat i + 1) L = some (i + 1) := lw_ix 1 hL (by omega)
  have i2 : m_ix (Int32.ofNat i + 2) L = some (i + 2) := lw_ix 2 hL (by omega)
  have i3 : m_ix (Int32.ofNat i + 3) L = some (i + 3) := lw_ix 3 hL (by omega)
  have i4 : m_ix (Int32.ofNat i + 4) L = some (i + 4) := lw_ix 4 hL (by omega)
  simp only [eL_law_2009, eL_law_2013, eL_law_2017, i1, i2, i3, i4, m_ob, m_bd, h1, h2, Option.toList, List.cons_append, List.nil_append, if_true]
/-- every call of the script, whatever it holds -/
def lw_All (Rel : (Nat → Nat → Int32) → Prop) : Prop := ∀ (i : Nat) (xs : Nat → Int32), lw_C Rel 80 166 [.int (xs (i + 1)), .int (xs (i + 2)), .int (xs (i + 3)), .int (xs (i + 4))] ∧ lw_C Rel 81 172 [.int (xs (i + 1)), .int (xs (i + 2))] ∧ lw_C Rel 82 173 [.int (xs (i + 1)), .int (xs (i + 2)), .int (xs (i + 3))] ∧ lw_C Rel 83 174 [.int (xs (i + 1)), .int (xs (i + 2))] ∧ lw_C Rel 84 175 [.int (xs (i + 1))] ∧ lw_C Rel 85 176 [.int (xs (i + 1)), .int (xs (i + 2))] ∧ lw_C Rel 86 177 [.int (if xs (i + 1) = 0 then 0 else 1)] ∧ lw_C Rel 91 226 [.long ((((xs (i + 1)) : Int32).toInt64 <<< ((32 : Int32).toInt64 &&& 63)) ||| (((xs (i + 2)) : Int32).toInt64 &&& 4294967295)), .int (xs (i + 3))] ∧ lw_C Rel 92 243 [] ∧ lw_C Rel 93 183 [.int (xs (i + 1)), .int (xs (i + 2)), .int (if xs (i + 3) = 0 then 0 else 1)] ∧ lw_C Rel 94 184 [.int (xs (i + 1)), .int (xs (i + 2))] ∧ lw_C Rel 95 186 [] ∧ lw_C Rel 96 188 [.int (xs (i + 1)), .int (xs (i + 2)), .int (xs (i + 3))] ∧ lw_C Rel 97 189 [.int (xs (i + 1)), .int (xs (i + 2)), .int (xs (i + 3))] ∧ lw_C Rel 98 190 [.int (xs (i + 1)), .int (xs (i + 2)), .int (xs (i + 3))] ∧ lw_C Rel 99 191 [.int (xs (i + 1)), .int (xs (i + 2))] ∧ lw_C Rel 100 192 [.int (xs (i + 1)), .int (xs (i + 2)), .int (xs (i + 3))] ∧ lw_C Rel 101 194 [.int (xs (i + 1)), .int (xs (i + 2)), .int (xs (i + 3))] ∧ lw_C Rel 102 196 [.int (xs (i + 1)), .int (xs (i + 2))] ∧ lw_C Rel 103 198 [.int (xs (i + 1)), .int (xs (i + 2))] ∧ lw_C Rel 104 199 [.int (xs (i + 1)), .int (xs (i + 2))] ∧ lw_C Rel 105 202 [.int (xs (i + 1)), .int (xs (i + 2))] ∧ lw_C Rel 106 203 [.int (xs (i + 1))] ∧ lw_C Rel 107 204 [.int (xs (i + 1)), .int (xs (i + 2)), .int (xs (i + 3))] ∧ lw_C Rel 108 206 [.int (xs (i + 1)), .int (xs (i + 2))] ∧ lw_C Rel 109 207 [.int (xs (i + 1)), .int (xs (i + 2)), .int (xs (i + 3))] ∧ lw_C Rel 110 208 [.int (xs (i + 1)), .int (xs (i + 2)), .int (xs (i + 3))] ∧ lw_C Rel 111 209 [.int (xs (i + 1))] ∧ lw_C Rel 112 211 [.int (xs (i + 1))] ∧ lw_C Rel 113 212 [.int (xs (i + 1)), .int (xs (i + 2)), .int (xs (i + 3)), .int (xs (i + 4))] ∧ lw_C Rel 114 213 [.int (xs (i + 1)), .int (xs (i + 2))] ∧ lw_C Rel 126 214 [.int (xs (i + 1)), .int (xs (i + 2))] ∧ lw_C Rel 127 215 [] ∧ lw_C Rel 128 218 [.int (xs (i + 1)), .int (xs (i + 2))] ∧ lw_C Rel 129 219 [.int (xs (i + 1))] ∧ lw_C Rel 131 220 [.int (xs (i + 1)), .int (xs (i + 2)), .int (if xs (i + 3) = 0 then 0 else 1)] ∧ lw_C Rel 132 222 [.int (xs (i + 1)), .int (xs (i + 2))] ∧ lw_C Rel 133 223 [.int (xs (i + 1)), .int (xs (i + 2)), .int (xs (i + 3))] ∧ lw_C Rel 134 225 [.int (if xs (i + 1) = 0 then 0 else 1)] ∧ lw_C Rel 137 245 [.int (xs (i + 1)), .int (xs (i + 2)), .int (xs (i + 3))] ∧ lw_C Rel 138 247 [.int (xs (i + 1)), .int (xs (i + 2)), .int (xs (i + 3))] ∧ lw_C Rel 139 249 [.int (xs (i + 1)), .int (xs (i + 2)), .int (xs (i + 3))] ∧ lw_C Rel 140 250 [.int (xs (i + 1)), .int (xs (i + 2)), .int (xs (i + 3))] ∧ lw_C Rel 141 251 [.int (xs (i + 1)), .int (xs (i + 2)), .int (xs (i + 3))] ∧ lw_C Rel 142 253 [.int (xs (i + 1)), .int (xs (i + 2))] ∧ lw_C Rel 143 260 [.int (xs (i + 1)), .int (xs (i + 2)), .int (xs (i + 3))] ∧ lw_C Rel 144 262 [.int (xs (i + 1))] ∧ lw_C Rel 145 263 [.int (xs (i + 1))] ∧ lw_C Rel 152 264 [] ∧ lw_C Rel 153 265 []
theorem lw_case (x : Int32) (d : Nat) : ∀ l : List (List Nat), (l.all fun r => r.length == 2) = true → m_case x l d ∈ d :: l.map fun r => (r[1]?).getD 0
  | [], _ => by simp [m_case]
  | r :: l, h => by
    simp only [List.all_cons, Bool.and_eq_true, beq_iff_eq] at h
    obtain ⟨h1, h2⟩ := h
    match r, h1 with
    | [k, t], _ =>
      unfold m_case
      split
      · simp
      · have := lw_case x d l h2
        simp only [List.map_cons, List.mem_cons] at this ⊢
        rcases this with q | q
        · exact Or.inl q
        · exact Or.inr (Or.inr q)
theorem lw_go {Rel : (Nat → Nat → Int32) → Prop} (HA : lw_All Rel) {L i : Nat} {xs : Nat → Int32} {st : Nat → Nat → Int32} (hL : L ≤ 2560) (hi : i + 5 ≤ L) (hR : Rel st) : ∀ t ∈ [2022, 248, 301, 334, 377, 410, 433, 466, 505, 568, 581, 640, 673, 686, 729, 772, 815, 848, 891, 934, 967, 1000, 1033, 1066, 1089, 1132, 1165, 1208, 1251, 1274, 1297, 1350, 1383, 1416, 1429, 1462, 1485, 1544, 1577, 1620, 1659, 1702, 1745, 1788, 1831, 1874, 1907, 1950, 1973, 1996, 2009], ∃ st2, Rel st2 ∧ m_ev (some (L, xs)) 2047 268 t [some (.ref 2000000), some (.ref 0), some (.ref 85), some (.int (Int32.ofNat i))] [] (SH, st) = m_ev (some (L, xs)) 2047 268 2022 [some (.ref 2000000), some (.ref 0), some (.ref 85), some (.int (Int32.ofNat i))] [] (SH, st2) := by
  have hA := HA i xs
  obtain ⟨g0, g1, g2, g3, g4, g5, g6, g7, g8, g9, g10, g11, g12, g13, g14, g15, g16, g17, g18, g19, g20, g21, g22, g23, g24, g25, g26, g27, g28, g29, g30, g31, g32, g33, g34, g35, g36, g37, g38, g39, g40, g41, g42, g43, g44, g45, g46, g47, g48, g49⟩ := hA
  refine List.forall_mem_cons.mpr ⟨⟨st, hR, rfl⟩, ?_⟩
  refine List.forall_mem_cons.mpr ⟨lc_0 g0 hL hi hR, ?_⟩
  refine List.forall_mem_cons.mpr ⟨lc_1 g1 hL hi hR, ?_⟩
  refine List.forall_mem_cons.mpr ⟨lc_2 g2 hL hi hR, ?_⟩
  refine List.forall_mem_cons.mpr ⟨lc_3 g3 hL hi hR, ?_⟩
  refine List.forall_mem_cons.mpr ⟨lc_4 g4 hL hi hR, ?_⟩
  refine List.forall_mem_cons.mpr ⟨lc_5 g5 hL hi hR, ?_⟩
  refine List.forall_mem_cons.mpr ⟨lc_6 g6 hL hi hR, ?_⟩
  refine List.forall_mem_cons.mpr ⟨lc_7 g7 hL hi hR, ?_⟩
  refine List.forall_mem_cons.mpr ⟨lc_8 g8 hL hi hR, ?_⟩
  refine List.forall_mem_cons.mpr ⟨lc_9 g9 hL hi hR, ?_⟩
  refine List.forall_mem_cons.mpr ⟨lc_10 g10 hL hi hR, ?_⟩
  refine List.forall_mem_cons.mpr ⟨lc_11 g11 hL hi hR, ?_⟩
  refine List.forall_mem_cons.mpr ⟨lc_12 g12 hL hi hR, ?_⟩
  refine List.forall_mem_cons.mpr ⟨lc_13 g13 hL hi hR, ?_⟩
  refine List.forall_mem_cons.mpr ⟨lc_14 g14 hL hi hR, ?_⟩
  refine List.forall_mem_cons.mpr ⟨lc_15 g15 hL hi hR, ?_⟩
  refine List.forall_mem_cons.mpr ⟨lc_16 g16 hL hi hR, ?_⟩
  refine List.forall_mem_cons.mpr ⟨lc_17 g17 hL hi hR, ?_⟩
  refine List.forall_mem_cons.mpr ⟨lc_18 g18 hL hi hR, ?_⟩
  refine List.forall_mem_cons.mpr ⟨lc_19 g19 hL hi hR, ?_⟩
  refine List.forall_mem_cons.mpr ⟨lc_20 g20 hL hi hR, ?_⟩
  refine List.forall_mem_cons.mpr ⟨lc_21 g21 hL hi hR, ?_⟩
  refine List.forall_mem_cons.mpr ⟨lc_22 g22 hL hi hR, ?_⟩
  refine List.forall_mem_cons.mpr ⟨lc_23 g23 hL hi hR, ?_⟩
  refine List.forall_mem_cons.mpr ⟨lc_24 g24 hL hi hR, ?_⟩
  refine List.forall_mem_cons.mpr ⟨lc_25 g25 hL hi hR, ?_⟩
  refine List.forall_mem_cons.mpr ⟨lc_26 g26 hL hi hR, ?_⟩
  refine List.forall_mem_cons.mpr ⟨lc_27 g27 hL hi hR, ?_⟩
  refine List.forall_mem_cons.mpr ⟨lc_28 g28 hL hi hR, ?_⟩
  refine List.forall_mem_cons.mpr ⟨lc_29 g29 hL hi hR, ?_⟩
  refine List.forall_mem_cons.mpr ⟨lc_30 g30 hL hi hR, ?_⟩
  refine List.forall_mem_cons.mpr ⟨lc_31 g31 hL hi hR, ?_⟩
  refine List.forall_mem_cons.mpr ⟨lc_32 g32 hL hi hR, ?_⟩
  refine List.forall_mem_cons.mpr ⟨lc_33 g33 hL hi hR, ?_⟩
  refine List.forall_mem_cons.mpr ⟨lc_34 g34 hL hi hR, ?_⟩
  refine List.forall_mem_cons.mpr ⟨lc_35 g35 hL hi hR, ?_⟩
  refine List.forall_mem_cons.mpr ⟨lc_36 g36 hL hi hR, ?_⟩
  refine List.forall_mem_cons.mpr ⟨lc_37 g37 hL hi hR, ?_⟩
  refine List.forall_mem_cons.mpr ⟨lc_38 g38 hL hi hR, ?_⟩
  refine List.forall_mem_cons.mpr ⟨lc_39 g39 hL hi hR, ?_⟩
  refine List.forall_mem_cons.mpr ⟨lc_40 g40 hL hi hR, ?_⟩
  refine List.forall_mem_cons.mpr ⟨lc_41 g41 hL hi hR, ?_⟩
  refine List.forall_mem_cons.mpr ⟨lc_42 g42 hL hi hR, ?_⟩
  refine List.forall_mem_cons.mpr ⟨lc_43 g43 hL hi hR, ?_⟩
  refine List.forall_mem_cons.mpr ⟨lc_44 g44 hL hi hR, ?_⟩
  refine List.forall_mem_cons.mpr ⟨lc_45 g45 hL hi hR, ?_⟩
  refine List.forall_mem_cons.mpr ⟨lc_46 g46 hL hi hR, ?_⟩
  refine List.forall_mem_cons.mpr ⟨lc_47 g47 hL hi hR, ?_⟩
  refine List.forall_mem_cons.mpr ⟨lc_48 g48 hL hi hR, ?_⟩
  refine List.forall_mem_cons.mpr ⟨lc_49 g49 hL hi hR, ?_⟩
  exact fun t h => by cases h
theorem lw_sub {L : Nat} (hL : L ≤ 2560) : (Int32.ofNat L - 5).toInt = (L : Int) - 5 := by
  have h1 : (Int32.ofNat L).toInt = L := lw_nat (by omega)
  rw [Int32.toInt_sub, h1]
  have : (5 : Int32).toInt = 5 := rfl
  rw [this]
  apply Int.bmod_eq_of_le <;> omega
theorem lw_loop {Rel : (Nat → Nat → Int32) → Prop} (HA : lw_All Rel) {L : Nat} {xs : Nat → Int32} (hL : L ≤ 2560) : ∀ (n i : Nat) (st : Nat → Nat → Int32), L < i + n → i ≤ 2565 → Rel st → ∃ st2, m_ev (some (L, xs)) 2047 268 18 [some (.ref 2000000), some (.ref 0), some (.ref 85), some (.int (Int32.ofNat i))] [] (SH, st) = some (some (.int 1), (SH, st2))
  | 0, i, st, hn, hi, hR => by
    refine ⟨st, ?_⟩
    rw [eL_law_18, if_pos ?_, eL_law_2028]
    rw [Int32.lt_iff_toInt_lt, lw_nat (by omega), lw_sub hL]
    omega
  | n + 1, i, st, hn, hi, hR => by
    by_cases h5 : i + 5 ≤ L
    · have hc : ¬ Int32.ofNat L - 5 < Int32.ofNat i := by
        rw [Int32.lt_iff_toInt_lt, lw_nat (by omega), lw_sub hL]
        omega
      have i0 : m_ix (Int32.ofNat i) L = some i := by
        have := lw_ix 0 hL (show i + 0 < L by omega)
        rw [show Int32.ofNat i + Int32.ofNat 0 = Int32.ofNat i by simp] at this
        exact this
      obtain ⟨st2, hR2, e2⟩ := lw_go HA (xs := xs) hL h5 hR _ (lw_case (xs i &&& 63) 2022 [[0, 248], [1, 301], [2, 334], [3, 377], [4, 410], [5, 433], [6, 466], [7, 505], [8, 568], [9, 581], [10, 640], [11, 673], [12, 686], [13, 729], [14, 772], [15, 815], [16, 848], [17, 891], [18, 934], [19, 967], [20, 1000], [21, 1033], [22, 1066], [23, 1089], [24, 1132], [25, 1165], [26, 1208], [27, 1251], [28, 1274], [29, 1297], [30, 1350], [31, 1383], [32, 1416], [33, 1429], [34, 1462], [35, 1485], [36, 1544], [37, 1577], [38, 1620], [39, 1659], [40, 1702], [41, 1745], [42, 1788], [43, 1831], [44, 1874], [45, 1907], [46, 1950], [47, 1973], [48, 1996], [49, 2009]] rfl)
      obtain ⟨st3, e3⟩ := lw_loop HA hL n (i + 5) st2 (by omega) (by omega) hR2
      refine ⟨st3, ?_⟩
      rw [eL_law_18, if_neg hc, i0]
      refine e2.trans ?_
      rw [eL_law_2022, show Int32.ofNat i + 5 = Int32.ofNat (i + 5) by rw [Int32.ofNat_add]; rfl]
      exact e3
    · refine ⟨st, ?_⟩
      rw [eL_law_18, if_pos ?_, eL_law_2028]
      rw [Int32.lt_iff_toInt_lt, lw_nat (by omega), lw_sub hL]
      omega
