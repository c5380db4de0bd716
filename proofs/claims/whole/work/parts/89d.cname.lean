/-! THE TAPE IN THE CLASS: which name a token is -/
def txl (J : Nat) : List Int32 := (m_txt[J]?).getD []
def txc (J i : Nat) : Nat := (((txl J)[i]?).getD 0).toNatClampNeg
def txn (J : Nat) : Nat := (txl J).length
theorem txn_50 {J : Nat} (hJ : J < 6) : txn J ≤ 50 := by
  have : J = 0 ∨ J = 1 ∨ J = 2 ∨ J = 3 ∨ J = 4 ∨ J = 5 := by omega
  rcases this with rfl | rfl | rfl | rfl | rfl | rfl <;> decide
theorem txc_ok {J : Nat} (hJ : J < 6) : ∀ i, i < txn J → ((txl J)[i]?).getD 0 = Int32.ofNat (txc J i) ∧ txc J i < 128 := by
  have : J = 0 ∨ J = 1 ∨ J = 2 ∨ J = 3 ∨ J = 4 ∨ J = 5 := by omega
  rcases this with rfl | rfl | rfl | rfl | rfl | rfl <;> decide
theorem x_len (d : Nat) (st : zS) {J : Nat} (hJ : J < 6) : m_evc (d + 5) 900 [.ref (1000000 + J)] (SH, st) = some (some (.int (Int32.ofNat (txn J))), (SH, st)) := by
  have : J = 0 ∨ J = 1 ∨ J = 2 ∨ J = 3 ∨ J = 4 ∨ J = 5 := by omega
  rcases this with rfl | rfl | rfl | rfl | rfl | rfl <;> rfl
theorem x_chr (d : Nat) (st : zS) {J i : Nat} (hJ : J < 6) (hi : i < txn J) : m_evc (d + 5) 901 [.ref (1000000 + J), .int (Int32.ofNat i)] (SH, st) = some (some (.int (Int32.ofNat (txc J i))), (SH, st)) := by
  have h50 := txn_50 hJ
  have e : m_evc (d + 5) 901 [.ref (1000000 + J), .int (Int32.ofNat i)] (SH, st) = if Int32.ofNat i < 0 ∨ txn J ≤ (Int32.ofNat i).toNatClampNeg then none else some (some (.int (((txl J)[(Int32.ofNat i).toNatClampNeg]?).getD 0)), (SH, st)) := by
    have : J = 0 ∨ J = 1 ∨ J = 2 ∨ J = 3 ∨ J = 4 ∨ J = 5 := by omega
    rcases this with rfl | rfl | rfl | rfl | rfl | rfl <;> rfl
  rw [e, n_nat (by omega), if_neg (by rw [n_pos i (by omega)]; rintro (z | z); exact z; omega), (txc_ok hJ i hi).1]
theorem x_spelt (d : Nat) {st : zS} {b : Nat → Nat} {n a J f e : Nat} (hJ : J < 6) (h : TQ st b n a) (hf : f ≤ e) (he : e < txn J) : m_evc (d + 6) 60 [.ref 35, .ref (1000000 + J), .int (Int32.ofNat f), .int (Int32.ofNat e)] (SH, st) = some (some (.int (bZ (ez b n a - a = e - f ∧ ∀ i, i < e - f → b (a + i) = txc J (f + i)))), (SH, st)) := by
  obtain ⟨hT, ha, h4, h5, _⟩ := h
  have h2 := hT.2.1
  have le := ez_le (b := b) ha
  have ge := ez_ge (b := b) (n := n) (a := a)
  have h50 := txn_50 hJ
  rw [gcal_isSpelt hJ, gisSpelt_0 hJ, h4, h5, n_sub hf, n_sub ge]
  by_cases q : e - f = ez b n a - a
  · rw [if_pos (by rw [n_eq (by omega) (by omega)]; exact q), gisSpelt_17 hJ]
    have L : ∀ k i, i + k = e - f → (∀ j, j < i → b (a + j) = txc J (f + j)) → m_ev none (d + 5) 60 20 [some (.ref 35), some (.ref (1000000 + J)), some (.int (Int32.ofNat f)), some (.int (Int32.ofNat e)), some (.int (Int32.ofNat (f + i)))] [] (SH, st) = some (some (.int (bZ (ez b n a - a = e - f ∧ ∀ i, i < e - f → b (a + i) = txc J (f + i)))), (SH, st)) := by
      intro k
      induction k with
      | zero =>
        intro i hi hj
        rw [gisSpelt_20 hJ, if_neg (by rw [n_lt (by omega) (by omega)]; omega), gisSpelt_57 hJ, bZ_t ⟨q.symm, fun j hj2 => hj j (by omega)⟩]
      | succ k ih =>
        intro i hi hj
        rw [gisSpelt_20 hJ, if_pos (by rw [n_lt (by omega) (by omega)]; omega), x_chr d st hJ (by omega)]
        simp only [m_bd, Option.toList, List.cons_append, List.nil_append]
        rw [gisSpelt_32 hJ, h4, n_add, n_sub (by omega), show a + (f + i) - f = a + i by omega, ix_200 (by omega), ob_s]
        have tc := (txc_ok hJ (f + i) (by omega)).2
        have cmp := tp_e hT (show a + i < n by omega) tc
        by_cases z : b (a + i) = txc J (f + i)
        · rw [if_pos (cmp.mpr z).symm, gisSpelt_51 hJ, n_succ]
          exact ih (i + 1) (by omega) (fun j hj2 => by
            by_cases y : j = i
            · subst y; exact z
            · exact hj j (by omega))
        · rw [if_neg (fun y => z (cmp.mp y.symm)), bZ_f (fun y => z (y.2 i (by omega)))]
    exact L (e - f) 0 (by omega) (fun j hj => by omega)
  · rw [if_neg (by rw [n_eq (by omega) (by omega)]; exact q), bZ_f (fun y => q y.1.symm)]
/-- the names of a text: where each ends, what it is worth -/
def wlk (J : Nat) : Nat → List (Nat × Nat) → Bool
  | f, [] => f == txn J
  | f, (e, c) :: l => decide (f ≤ e) && decide (e < txn J) && (txc J e == 32) && ((List.range (e - f)).all fun i => decide (97 ≤ txc J (f + i)) && decide (txc J (f + i) ≤ 122)) && (spn (fun i => txc J (f + i)) (e - f) == c) && decide (c ≤ 36028797018963967) && decide (0 < c) && wlk J (e + 1) l
def WL (J : Nat) : List (Nat × Nat) := if J = 0 then [(8, 792022234158), (14, 17171758), (20, 17383076), (26, 4806091), (33, 441913522), (41, 20809171122)] else if J = 1 then [(2, 294)] else if J = 2 then [(3, 1156), (8, 441925), (13, 435589), (20, 647370196)] else if J = 3 then [(3, 14836)] else if J = 4 then [(3, 4153), (8, 763332), (12, 1156), (18, 4370489), (24, 13938867), (31, 492210354)] else [(2, 498), (6, 1476)]
theorem wlk_ok {J : Nat} (hJ : J < 6) : wlk J 0 (WL J) = true := by
  have : J = 0 ∨ J = 1 ∨ J = 2 ∨ J = 3 ∨ J = 4 ∨ J = 5 := by omega
  rcases this with rfl | rfl | rfl | rfl | rfl | rfl <;> decide +kernel
theorem tk_L {b : Nat → Nat} {n a : Nat} (h : (tk b n a).1 = 0) : Lz b n a = true ∧ ez b n a = rz (Lz b n) a ∧ (tk b n a).2 = wv b a (ez b n a - a) := by
  by_cases q : Lz b n a = true
  · refine ⟨q, ?_, ?_⟩
    · unfold ez; rw [if_pos q]
    · unfold tk; rw [if_pos q]
  · exfalso
    unfold tk at h
    rw [if_neg q] at h
    split at h
    · split at h <;> cases h
    · split at h <;> cases h
theorem tk_let {b : Nat → Nat} {n a : Nat} (h : (tk b n a).1 = 0) : ∀ i, i < ez b n a - a → 97 ≤ b (a + i) ∧ b (a + i) ≤ 122 := by
  obtain ⟨q, e, _⟩ := tk_L h
  intro i hi
  exact (Lz_i.mp (rz_all (P := Lz b n) (p := a) (i := a + i) (by omega) (by omega))).2
theorem x_scan (d : Nat) {st : zS} {b : Nat → Nat} {n a J : Nat} (hJ : J < 6) (h : TQ st b n a) (hs : (tk b n a).1 = 0) : ∀ (l : List (Nat × Nat)) (f i : Nat), wlk J f l = true → m_ev none (d + 6) 59 16 [some (.ref 35), some (.ref (1000000 + J)), some (.int (Int32.ofNat i)), some (.int (Int32.ofNat f)), some (.int (Int32.ofNat f))] [] (SH, st) = some (some (.int (fdx (l.map (·.2)) i (tk b n a).2)), (SH, st))
  | [], f, i, hw => by
    have h50 := txn_50 hJ
    have hw : (f == txn J) = true := hw
    have hw := beq_iff_eq.mp hw
    rw [gplaceIn_16 hJ, x_len (d + 1) st hJ]
    simp only [m_bd, Option.toList, List.cons_append, List.nil_append]
    rw [gplaceIn_22 hJ, if_neg (by rw [n_lt (by omega) (by omega)]; omega), gplaceIn_63 hJ]
    rfl
  | (e, c) :: l, f, i, hw => by
    have h50 := txn_50 hJ
    have hw : (decide (f ≤ e) && decide (e < txn J) && (txc J e == 32) && ((List.range (e - f)).all fun i => decide (97 ≤ txc J (f + i)) && decide (txc J (f + i) ≤ 122)) && (spn (fun i => txc J (f + i)) (e - f) == c) && decide (c ≤ 36028797018963967) && decide (0 < c) && wlk J (e + 1) l) = true := hw
    simp only [Bool.and_eq_true, decide_eq_true_iff, beq_iff_eq, List.all_eq_true, List.mem_range] at hw
    obtain ⟨⟨⟨⟨⟨⟨⟨w1, w2⟩, w3⟩, w4⟩, w5⟩, w6⟩, w7⟩, w8⟩ := hw
    have walk : ∀ k j, j + k = e → f ≤ j → m_ev none (d + 6) 59 16 [some (.ref 35), some (.ref (1000000 + J)), some (.int (Int32.ofNat i)), some (.int (Int32.ofNat f)), some (.int (Int32.ofNat j))] [] (SH, st) = m_ev none (d + 6) 59 31 [some (.ref 35), some (.ref (1000000 + J)), some (.int (Int32.ofNat i)), some (.int (Int32.ofNat f)), some (.int (Int32.ofNat e))] [.int (Int32.ofNat (txc J e))] (SH, st) := by
      intro k
      induction k with
      | zero =>
        intro j hj hfj
        have hj : j = e := hj
        subst hj
        rw [gplaceIn_16 hJ, x_len (d + 1) st hJ]
        simp only [m_bd, Option.toList, List.cons_append, List.nil_append]
        rw [gplaceIn_22 hJ, if_pos (by rw [n_lt (by omega) (by omega)]; omega), x_chr (d + 1) st hJ (by omega)]
        simp only [m_bd, Option.toList, List.cons_append, List.nil_append]
      | succ k ih =>
        intro j hj hfj
        have hl := w4 (j - f) (by omega)
        rw [show f + (j - f) = j by omega] at hl
        rw [gplaceIn_16 hJ, x_len (d + 1) st hJ]
        simp only [m_bd, Option.toList, List.cons_append, List.nil_append]
        rw [gplaceIn_22 hJ, if_pos (by rw [n_lt (by omega) (by omega)]; omega), x_chr (d + 1) st hJ (by omega)]
        simp only [m_bd, Option.toList, List.cons_append, List.nil_append]
        rw [gplaceIn_31 hJ, if_neg (by rw [show (32 : Int32) = Int32.ofNat 32 from rfl, n_eq (by omega) (by omega)]; omega), gplaceIn_57 hJ, n_succ]
        exact ih (j + 1) (by omega) (by omega)
    rw [walk (e - f) f (by omega) (Nat.le_refl f), gplaceIn_31 hJ, if_pos (by rw [w3]; rfl), x_spelt d hJ h w1 w2]
    simp only [m_bd, Option.toList, List.cons_append, List.nil_append]
    rw [gplaceIn_44 hJ, bZ_if]
    obtain ⟨_, _, et⟩ := tk_L hs
    have key := wv_spn (b := b) (a := a) (g := fun i => txc J (f + i)) (ez b n a - a) (e - f) (tk_let hs) (fun i hi => w4 i hi) (by rw [w5]; exact w6)
    rw [w5, ← et] at key
    show _ = some (some (Value.int (if (tk b n a).2 = c then Int32.ofNat i else fdx (l.map (·.2)) (i + 1) (tk b n a).2)), (SH, st))
    by_cases z : (tk b n a).2 = c
    · rw [if_pos (key.mp z), if_pos z]
    · rw [if_neg (fun y => z (key.mpr y)), if_neg z, gplaceIn_49 hJ, gplaceIn_57 hJ, n_succ, n_succ]
      exact x_scan d hJ h hs l (e + 1) (i + 1) w8
theorem fdx_0 : ∀ (l : List Nat) (i : Nat), (∀ c, c ∈ l → 0 < c) → fdx l i 0 = -1
  | [], _, _ => rfl
  | c :: l, i, h => by
    have := h c (by simp)
    show (if 0 = c then Int32.ofNat i else fdx l (i + 1) 0) = -1
    rw [if_neg (by omega)]
    exact fdx_0 l (i + 1) fun x hx => h x (by simp [hx])
def NL (J : Nat) : List Nat := (WL J).map (·.2)
theorem NL_pos {J : Nat} (hJ : J < 6) : ∀ c, c ∈ NL J → 0 < c := by
  have : J = 0 ∨ J = 1 ∨ J = 2 ∨ J = 3 ∨ J = 4 ∨ J = 5 := by omega
  rcases this with rfl | rfl | rfl | rfl | rfl | rfl <;> decide
theorem tk_s {b : Nat → Nat} {n a : Nat} : (tk b n a).1 ≤ 4 := by
  unfold tk
  split
  · show 0 ≤ 4; omega
  split
  · split
    · show 1 ≤ 4; omega
    · show 3 ≤ 4; omega
  split
  · show 2 ≤ 4; omega
  · show 4 ≤ 4; omega
theorem x_place (d : Nat) {st : zS} {b : Nat → Nat} {n a J : Nat} (hJ : J < 6) (h : TQ st b n a) : m_evc (d + 7) 59 [.ref 35, .ref (1000000 + J)] (SH, st) = some (some (.int (fdx (NL J) 0 (wd (tk b n a)))), (SH, st)) := by
  have h4 := tk_s (b := b) (n := n) (a := a)
  have h3 := h.2.2.2.2.1
  rw [gcal_placeIn hJ, gplaceIn_0 hJ, h3]
  unfold wd
  by_cases q : (tk b n a).1 = 0
  · rw [if_pos (by rw [q]; rfl), if_pos q, gplaceIn_9 hJ]
    exact x_scan d hJ h q (WL J) 0 0 (wlk_ok hJ)
  · rw [if_neg (by rw [show (0 : Int32) = Int32.ofNat 0 from rfl, n_eq (by omega) (by omega)]; exact q), if_neg q, fdx_0 _ _ (NL_pos hJ)]
theorem x_single (d : Nat) {st : zS} {b : Nat → Nat} {n a c : Nat} (h : TQ st b n a) (hc : c < 128) : m_evc (d + 1) 55 [.ref 35, .int (Int32.ofNat c)] (SH, st) = some (some (.int (bZ ((tk b n a).1 = 2 ∧ (tk b n a).2 = c))), (SH, st)) := by
  have h4 := tk_s (b := b) (n := n) (a := a)
  rw [cal_X6_isSingle, eX6_isSingle_0, h.2.2.2.2.1]
  by_cases q : (tk b n a).1 = 2
  · rw [if_pos (by rw [q]; rfl)]
    have k := h.2.2.2.2.2.2 q c hc
    by_cases z : (tk b n a).2 = c
    · rw [if_pos (k.mpr z), eX6_isSingle_21, if_pos (Or.inr rfl), bZ_t ⟨q, z⟩]
    · rw [if_neg (fun y => z (k.mp y)), eX6_isSingle_20, eX6_isSingle_21, if_pos (Or.inl rfl), bZ_f (fun y => z y.2)]
  · rw [if_neg (by rw [show (2 : Int32) = Int32.ofNat 2 from rfl, n_eq (by omega) (by omega)]; exact q), eX6_isSingle_20, eX6_isSingle_21, if_pos (Or.inl rfl), bZ_f (fun y => q y.1)]
theorem fdx_m1 : ∀ (l : List Nat) (i x : Nat), i + l.length < 1000 → fdx l i x = -1 ∨ (0 ≤ (fdx l i x).toInt ∧ (fdx l i x).toInt < (i + l.length : Nat))
  | [], _, _, _ => Or.inl rfl
  | c :: l, i, x, h => by
    simp only [List.length_cons] at h
    show (if x = c then Int32.ofNat i else fdx l (i + 1) x) = -1 ∨ (0 ≤ (if x = c then Int32.ofNat i else fdx l (i + 1) x).toInt ∧ (if x = c then Int32.ofNat i else fdx l (i + 1) x).toInt < _)
    split
    · right
      rw [n_int (by omega)]
      simp only [List.length_cons]; omega
    · rcases fdx_m1 l (i + 1) x (by omega) with q | q
      · exact Or.inl q
      · right
        simp only [List.length_cons]
        refine ⟨q.1, ?_⟩
        have := q.2
        omega
theorem x_operand (d : Nat) {st : zS} {b : Nat → Nat} {n a : Nat} (h : TQ st b n a) : m_evc (d + 8) 56 [.ref 35] (SH, st) = some (some (.int (opd (tk b n a))), (SH, st)) := by
  have h4 := tk_s (b := b) (n := n) (a := a)
  rw [cal_X6_operand, eX6_operand_0, h.2.2.2.2.1]
  unfold opd
  by_cases q : (tk b n a).1 = 1
  · rw [if_pos (by rw [q]; rfl), if_pos q, h.2.2.2.2.2.1 q]
  · have e : m_evc (d + 7) 59 [.ref 35, .ref 1000004] (SH, st) = some (some (.int (fdx NF 0 (wd (tk b n a)))), (SH, st)) := x_place d (J := 4) (by omega) h
    rw [if_neg (by rw [show (1 : Int32) = Int32.ofNat 1 from rfl, n_eq (by omega) (by omega)]; exact q), if_neg q, eX6_operand_13, e]
    simp only [m_bd, Option.toList, List.cons_append, List.nil_append]
    rw [eX6_operand_19]
    by_cases z : fdx NF 0 (wd (tk b n a)) < 0
    · rw [if_pos z, if_pos z, eX6_operand_33]
    · rw [if_neg z, if_neg z, eX6_operand_28, eX6_operand_33]
