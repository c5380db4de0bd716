/-! THE TAPE IN THE CLASS: all tokens -/
def KR (st st' : zS) : Prop := fr [35, 37, 38, 39, 40, 41, 42, 43] st st' ∧ st' 35 0 = st 35 0
theorem KR_t {a b c : zS} (h : KR a b) (g : KR b c) : KR a c := ⟨fr_mono (fr_tr h.1 g.1) (by decide), g.2.trans h.2⟩
theorem KR_P {a b : zS} (h : KP a b) : KR a b := ⟨h.1, h.2.1⟩
theorem HX_e {st st' : zS} {x : CS} (h : HX st x) (f : fr [35] st st') (g : ∀ j, j ≠ 3 → j ≠ 4 → j ≠ 5 → j ≠ 6 → st' 35 j = st 35 j) : HX st' x := by
  obtain ⟨q, lf, sg, o, W, S, R, kd, dd, nm⟩ := x
  obtain ⟨x1, x2, x3, hC, x5, x6⟩ := h
  refine ⟨(g 7 (by decide) (by decide) (by decide) (by decide)).trans x1, (g 8 (by decide) (by decide) (by decide) (by decide)).trans x2, (g 9 (by decide) (by decide) (by decide) (by decide)).trans x3, HC_e hC (g 10 (by decide) (by decide) (by decide) (by decide)) (g 12 (by decide) (by decide) (by decide) (by decide)) (f 43 rfl) (f 37 rfl) (f 42 rfl) fun r _ => ⟨by rw [f 38 rfl], by rw [f 39 rfl], by rw [f 40 rfl], by rw [f 41 rfl]⟩, fun z => ?_, fun z => ?_⟩
  · rw [f 38 rfl, f 40 rfl]; exact x5 z
  · rw [f 39 rfl]; exact x6 z
theorem LI_m {p p' : Nat} {x : CS} (h : LI p x) (hp : p ≤ p') : LI p' x := by
  obtain ⟨q, lf, sg, o, W, S, R, kd, dd, nm⟩ := x
  obtain ⟨l1, l2, l3, l4⟩ := h
  exact ⟨Nat.le_trans l1 hp, l2, l3, l4⟩
theorem ct_end {x : CS} {p : Nat} (h : LI p x) : ct (4, 0) x = none := by
  obtain ⟨q, lf, sg, o, W, S, R, kd, dd, nm⟩ := x
  have l4 : q ≤ 7 := h.2.2.2
  have hq : q = 0 ∨ q = 1 ∨ q = 2 ∨ q = 3 ∨ q = 4 ∨ q = 5 ∨ q = 6 ∨ q = 7 := by omega
  have nd : cdeed (4, 0) lf sg o W S R kd nm = none := by
    unfold cdeed
    rw [if_pos (Or.inl (by decide))]
  rcases hq with rfl | rfl | rfl | rfl | rfl | rfl | rfl | rfl
  · show (if fdx NK 0 (wd (4, 0)) < 0 ∨ 8 ≤ R.length then none else some (1, lf, sg, o, W, S, R, fdx NK 0 (wd (4, 0)), dd, 0)) = none
    rw [if_pos (Or.inl (by decide))]
  · show (if wd (4, 0) = 294 then some (2, lf, sg, o, W, S, R, kd, dd, nm) else cdeed (4, 0) lf sg o W S R kd nm) = none
    rw [if_neg (by decide), nd]
  · show (if wd (4, 0) = 14836 then some (2, lf, sg, o, 3 :: W, S, R, kd, dd, nm) else if ((4 : Nat) = 2 ∧ (0 : Nat) = 40) ∧ o < 3 then some (2, lf, sg, o + 1, 0 :: W, S, R, kd, dd, nm) else if opd (4, 0) < 0 then none else some (3, opd (4, 0), sg, o, W, S, R, kd, dd, nm)) = none
    rw [if_neg (by decide), if_neg (fun z => absurd z.1.1 (by decide)), if_pos (by decide)]
  · show (if csign (4, 0) = 0 then none else some (4, lf, csign (4, 0), o, W, S, R, kd, dd, nm)) = none
    rw [if_pos (by decide)]
  · show (if opd (4, 0) < 0 then none else some (5, lf, sg, o, W, S ++ [cmpr sg lf (opd (4, 0))], R, kd, dd, nm)) = none
    rw [if_pos (by decide)]
  · show (if wd (4, 0) = 498 then some (2, lf, sg, o, 1 :: (awx 1 W S).1, (awx 1 W S).2, R, kd, dd, nm) else if wd (4, 0) = 1476 then some (2, lf, sg, o, 2 :: (awx 2 W S).1, (awx 2 W S).2, R, kd, dd, nm) else if ((4 : Nat) = 2 ∧ (0 : Nat) = 41) ∧ 0 < o then some (5, lf, sg, o - 1, (awx 1 W S).1.tail, (awx 1 W S).2, R, kd, dd, nm) else cdeed (4, 0) lf sg o W S R kd nm) = none
    rw [if_neg (by decide), if_neg (by decide), if_neg (fun z => absurd z.1.1 (by decide)), nd]
  · show (if (4 : Nat) = 1 ∧ R.length < 8 ∧ ¬ (if dd = 2 then 9 else 99) < 0 then some (7, lf, sg, o, W, S, R, kd, dd, Int32.ofNat 0) else none) = none
    rw [if_neg (fun z => absurd z.1 (by decide))]
  · show (if ((4 : Nat) = 2 ∧ (0 : Nat) = 59) ∧ R.length < 8 then some (0, lf, sg, o, W, S, R ++ [(kd, dd, nm, S.length)], kd, dd, nm) else none) = none
    rw [if_neg (fun z => absurd z.1.1 (by decide))]
theorem LI_deed {t : Nat × Nat} {p o : Nat} {lf sg kd nm : Int32} {W S : List Int32} {R : List (Int32 × Int32 × Int32 × Nat)} {y : CS} (l1 : S.length + W.length ≤ p) (l2 : o ≤ 3) (l3 : R.length ≤ 8) (h : cdeed t lf sg o W S R kd nm = some y) : LI (p + 1) y := by
  unfold cdeed at h
  have al := awx_len 1 W S
  by_cases z : fdx ND 0 (wd t) < 0 ∨ 0 < o ∨ 8 ≤ R.length
  · rw [if_pos z] at h; cases h
  · rw [if_neg z] at h
    cases h
    refine ⟨by omega, l2, l3, ?_⟩
    show (if fdx ND 0 (wd t) = 3 then 7 else 6) ≤ 7
    split <;> omega
theorem LI_ct {t : Nat × Nat} {x y : CS} {p : Nat} (h : LI p x) (g : ct t x = some y) : LI (p + 1) y := by
  obtain ⟨q, lf, sg, o, W, S, R, kd, dd, nm⟩ := x
  obtain ⟨l1, l2, l3, l4⟩ := h
  have hq : q = 0 ∨ q = 1 ∨ q = 2 ∨ q = 3 ∨ q = 4 ∨ q = 5 ∨ q = 6 ∨ q = 7 := by omega
  have al1 := awx_len 1 W S
  have al2 := awx_len 2 W S
  rcases hq with rfl | rfl | rfl | rfl | rfl | rfl | rfl | rfl
  · have g : (if fdx NK 0 (wd t) < 0 ∨ 8 ≤ R.length then none else some (1, lf, sg, o, W, S, R, fdx NK 0 (wd t), dd, 0)) = some y := g
    split at g
    · cases g
    · cases g; exact ⟨by omega, l2, l3, by omega⟩
  · have g : (if wd t = 294 then some (2, lf, sg, o, W, S, R, kd, dd, nm) else cdeed t lf sg o W S R kd nm) = some y := g
    split at g
    · cases g; exact ⟨by omega, l2, l3, by omega⟩
    · exact LI_deed l1 l2 l3 g
  · have g : (if wd t = 14836 then some (2, lf, sg, o, 3 :: W, S, R, kd, dd, nm) else if (t.1 = 2 ∧ t.2 = 40) ∧ o < 3 then some (2, lf, sg, o + 1, 0 :: W, S, R, kd, dd, nm) else if opd t < 0 then none else some (3, opd t, sg, o, W, S, R, kd, dd, nm)) = some y := g
    split at g
    · cases g; exact ⟨by simp only [List.length_cons]; omega, l2, l3, by omega⟩
    split at g
    · rename_i z
      cases g; exact ⟨by simp only [List.length_cons]; omega, by omega, l3, by omega⟩
    split at g
    · cases g
    · cases g; exact ⟨by omega, l2, l3, by omega⟩
  · have g : (if csign t = 0 then none else some (4, lf, csign t, o, W, S, R, kd, dd, nm)) = some y := g
    split at g
    · cases g
    · cases g; exact ⟨by omega, l2, l3, by omega⟩
  · have g : (if opd t < 0 then none else some (5, lf, sg, o, W, S ++ [cmpr sg lf (opd t)], R, kd, dd, nm)) = some y := g
    split at g
    · cases g
    · cases g; exact ⟨by simp only [List.length_append, List.length_cons, List.length_nil]; omega, l2, l3, by omega⟩
  · have g : (if wd t = 498 then some (2, lf, sg, o, 1 :: (awx 1 W S).1, (awx 1 W S).2, R, kd, dd, nm) else if wd t = 1476 then some (2, lf, sg, o, 2 :: (awx 2 W S).1, (awx 2 W S).2, R, kd, dd, nm) else if (t.1 = 2 ∧ t.2 = 41) ∧ 0 < o then some (5, lf, sg, o - 1, (awx 1 W S).1.tail, (awx 1 W S).2, R, kd, dd, nm) else cdeed t lf sg o W S R kd nm) = some y := g
    split at g
    · cases g; exact ⟨by simp only [List.length_cons]; omega, l2, l3, by omega⟩
    split at g
    · cases g; exact ⟨by simp only [List.length_cons]; omega, l2, l3, by omega⟩
    split at g
    · cases g; exact ⟨by simp only [List.length_tail]; omega, by omega, l3, by omega⟩
    · exact LI_deed l1 l2 l3 g
  · have g : (if t.1 = 1 ∧ R.length < 8 ∧ ¬ (if dd = 2 then 9 else 99) < t.2 then some (7, lf, sg, o, W, S, R, kd, dd, Int32.ofNat t.2) else none) = some y := g
    by_cases z : t.1 = 1 ∧ R.length < 8 ∧ ¬ (if dd = 2 then 9 else 99) < t.2
    · rw [if_pos z] at g
      cases g; exact ⟨by omega, l2, l3, by omega⟩
    · rw [if_neg z] at g; cases g
  · have g : (if (t.1 = 2 ∧ t.2 = 59) ∧ R.length < 8 then some (0, lf, sg, o, W, S, R ++ [(kd, dd, nm, S.length)], kd, dd, nm) else none) = some y := g
    by_cases z : (t.1 = 2 ∧ t.2 = 59) ∧ R.length < 8
    · rw [if_pos z] at g
      cases g; exact ⟨by omega, l2, by simp only [List.length_append, List.length_cons, List.length_nil]; omega, by omega⟩
    · rw [if_neg z] at g; cases g
theorem tk_end {b : Nat → Nat} {n a : Nat} (ha : n ≤ a) : tk b n a = (4, 0) := by
  unfold tk
  rw [if_neg (fun z => by have := (Lz_i.mp z).1; omega), if_neg (fun z => by have := (Dz_i.mp z).1; omega), if_neg (by omega)]
theorem tk_4 {b : Nat → Nat} {n a : Nat} (h : (tk b n a).1 = 4) : n ≤ a := by
  by_cases q : a < n
  · exfalso
    unfold tk at h
    split at h
    · cases h
    split at h
    · split at h <;> cases h
    · cases h
  · omega
theorem stp_p {b : Nat → Nat} {n p : Nat} {x : CS} {y : CS × Nat} (hn : n ≤ 200) (hp : p ≤ n) (hL : LI p x) (h : stp b n (x, p) = some y) : fz b n p < n ∧ p < y.2 ∧ y.2 ≤ n ∧ LI y.2 y.1 ∧ ct (tk b n (fz b n p)) x = some y.1 ∧ y.2 = ez b n (fz b n p) := by
  have ge := fz_ge b n p
  have le := fz_le (b := b) hp
  have h : (match ct (tk b n (fz b n p)) x with
    | none => none
    | some y => some (y, ez b n (fz b n p))) = some y := h
  cases q : ct (tk b n (fz b n p)) x with
  | none => rw [q] at h; cases h
  | some z =>
    rw [q] at h
    cases h
    have hlt : fz b n p < n := by
      by_cases w : fz b n p < n
      · exact w
      · rw [tk_end (by omega), ct_end hL] at q; cases q
    have gt := ez_gt (b := b) hn hlt
    refine ⟨hlt, ?_, ez_le le, LI_m (LI_ct hL q) ?_, rfl, rfl⟩
    · show p < ez b n (fz b n p); omega
    · show p + 1 ≤ ez b n (fz b n p); omega
theorem x_step (d : Nat) {st : zS} {b : Nat → Nat} {n p j : Nat} {x : CS} (hP : TP st b n) (hp : p ≤ n) (h5 : st 35 5 = Int32.ofNat p) (hX : HX st x) (hL : LI p x) (hj : j ≤ p) : (∀ y, stp b n (x, p) = some y → ∃ st', m_ev none (d + 11) 36 29 [some (.ref 35), some (.int (Int32.ofNat j))] [] (SH, st) = m_ev none (d + 11) 36 29 [some (.ref 35), some (.int (Int32.ofNat (j + 1)))] [] (SH, st') ∧ KR st st' ∧ st' 35 5 = Int32.ofNat y.2 ∧ HX st' y.1) ∧ (stp b n (x, p) = none → ∃ st', m_ev none (d + 11) 36 29 [some (.ref 35), some (.int (Int32.ofNat j))] [] (SH, st) = some (some (.int (if x.1 = 0 ∧ n ≤ fz b n p then -1 else Int32.ofNat (fz b n p))), (SH, st')) ∧ KR st st' ∧ (x.1 = 0 ∧ n ≤ fz b n p → HX st' x)) := by
  have hn := hP.2.1
  have le := fz_le (b := b) hp
  obtain ⟨s1, e1, f1, g1, t1⟩ := x_tok (d + 7) hP hp h5
  have hX1 := HX_e hX f1 g1
  have K1 : KR st s1 := ⟨fr_mono f1 (by decide), g1 0 (by decide) (by decide) (by decide) (by decide)⟩
  have head : m_ev none (d + 11) 36 29 [some (.ref 35), some (.int (Int32.ofNat j))] [] (SH, st) = m_ev none (d + 11) 36 41 [some (.ref 35), some (.int (Int32.ofNat j))] [] (SH, s1) := by
    rw [eX6_readTape_29, hP.1, if_neg (by rw [n_lt (by omega) (by omega)]; omega), e1]
    simp only [m_bd, Option.toList, List.cons_append, List.nil_append]
  have t4 := tk_s (b := b) (n := n) (a := fz b n p)
  have xq : s1 35 7 = Int32.ofNat x.1 := by obtain ⟨q, lf, sg, o, W, S, R, kd, dd, nm⟩ := x; exact hX1.1
  have lq : x.1 ≤ 7 := by obtain ⟨q, lf, sg, o, W, S, R, kd, dd, nm⟩ := x; exact hL.2.2.2
  rw [head, eX6_readTape_41, t1.2.2.2.2.1]
  by_cases hlt : fz b n p < n
  · have n4 : ¬ (tk b n (fz b n p)).1 = 4 := fun z => by have := tk_4 z; omega
    have tk1 := x_takes d t1 x hX1 (LI_m hL (by have := fz_ge b n p; omega))
    rw [if_neg (by rw [show (4 : Int32) = Int32.ofNat 4 from rfl, n_eq (by omega) (by omega)]; exact n4), eX6_readTape_65]
    constructor
    · intro y hy
      obtain ⟨_, _, _, _, c, ye⟩ := stp_p hn hp hL hy
      rw [c] at tk1
      obtain ⟨s2, e2, k2, x2⟩ := tk1
      rw [e2]
      simp only [m_bd, Option.toList, List.cons_append, List.nil_append]
      rw [eX6_readTape_69, if_neg i_10, eX6_readTape_77, n_succ]
      exact ⟨s2, rfl, KR_t K1 (KR_P k2), by rw [k2.2.2.2, ye]; exact t1.2.2.2.1, x2⟩
    · intro hy
      have c : ct (tk b n (fz b n p)) x = none := by
        cases q : ct (tk b n (fz b n p)) x with
        | none => rfl
        | some z => rw [stp_of q] at hy; cases hy
      rw [c] at tk1
      obtain ⟨s2, e2, k2⟩ := tk1
      rw [e2, if_neg (fun z => by omega)]
      simp only [m_bd, Option.toList, List.cons_append, List.nil_append]
      rw [eX6_readTape_69, if_pos rfl, k2.2.2.1, t1.2.2.1]
      exact ⟨s2, rfl, KR_t K1 (KR_P k2), fun z => by omega⟩
  · have e4 : (tk b n (fz b n p)).1 = 4 := by rw [tk_end (by omega)]
    rw [if_pos (by rw [e4]; rfl), xq]
    constructor
    · intro y hy
      have := (stp_p hn hp hL hy).1
      omega
    · intro _
      by_cases q : x.1 = 0
      · rw [if_pos (by rw [q]; rfl), if_pos ⟨q, by omega⟩, eX6_readTape_64]
        exact ⟨s1, rfl, K1, fun _ => hX1⟩
      · rw [if_neg (by rw [show (0 : Int32) = Int32.ofNat 0 from rfl, n_eq (by omega) (by omega)]; exact q), if_neg (fun z => q z.1), eX6_readTape_60, eX6_readTape_64, K1.2, hP.1, show fz b n p = n by omega]
        exact ⟨s1, rfl, K1, fun z => absurd z.1 q⟩
theorem x_run (d : Nat) {b : Nat → Nat} {n : Nat} {y : CS × Nat} : ∀ (k : Nat) (x : CS) (p j : Nat) (st : zS), TP st b n → p ≤ n → st 35 5 = Int32.ofNat p → HX st x → LI p x → j ≤ p → rn b n k (x, p) = some y → ∃ st' j', m_ev none (d + 11) 36 29 [some (.ref 35), some (.int (Int32.ofNat j))] [] (SH, st) = m_ev none (d + 11) 36 29 [some (.ref 35), some (.int (Int32.ofNat j'))] [] (SH, st') ∧ KR st st' ∧ TP st' b n ∧ y.2 ≤ n ∧ st' 35 5 = Int32.ofNat y.2 ∧ HX st' y.1 ∧ LI y.2 y.1 ∧ j' ≤ y.2
  | 0, x, p, j, st, hP, hp, h5, hX, hL, hj, h => by
    cases h
    exact ⟨st, j, rfl, ⟨fr_refl _ _, rfl⟩, hP, hp, h5, hX, hL, hj⟩
  | k + 1, x, p, j, st, hP, hp, h5, hX, hL, hj, h => by
    have h : (match stp b n (x, p) with
      | none => none
      | some y => rn b n k y) = some y := h
    cases q : stp b n (x, p) with
    | none => rw [q] at h; cases h
    | some z =>
      rw [q] at h
      obtain ⟨z1, z2⟩ := z
      obtain ⟨s1, e1, k1, a1, b1⟩ := (x_step d hP hp h5 hX hL hj).1 _ q
      obtain ⟨_, p1, p2, p3, _, _⟩ := stp_p hP.2.1 hp hL q
      have p1 : p < z2 := p1
      have T1 : TP s1 b n := TP_e hP (k1.1 36 rfl) k1.2
      obtain ⟨s2, j2, e2, k2, r2⟩ := x_run d k z1 z2 (j + 1) s1 T1 p2 a1 b1 p3 (by omega) h
      exact ⟨s2, j2, e1.trans e2, KR_t k1 k2, r2⟩
def cs0 (st : zS) : CS := (0, st 35 8, st 35 9, 0, [], [], [], 0, 0, 0)
theorem x_begT (d : Nat) {st : zS} {b : Nat → Nat} {n : Nat} (hP : TP st b n) : ∃ s0, m_evc (d + 12) 36 [.ref 35] (SH, st) = m_ev none (d + 11) 36 29 [some (.ref 35), some (.int (Int32.ofNat 0))] [] (SH, s0) ∧ KR st s0 ∧ TP s0 b n ∧ s0 35 5 = Int32.ofNat 0 ∧ HX s0 (cs0 st) ∧ LI 0 (cs0 st) := by
  have e : m_evc (d + 11) 26 [.ref 37] (SH, st) = some (none, (SH, m_up (m_up st 37 0 0) 37 5 0)) := by rw [cal_X5_clear, eX5_clear_0]
  refine ⟨m_up (m_up (m_up (m_up (m_up (m_up st 37 0 0) 37 5 0) 35 5 0) 35 7 0) 35 10 0) 35 12 0, ?_, ⟨?_, ?_⟩, ?_, ?_, ⟨?_, ?_, ?_, ⟨?_, ?_, ?_, ?_, ?_, ?_, fun r k d m e q => ?_⟩, fun z => absurd rfl z, fun z => absurd z (by decide)⟩, ⟨by decide, by decide, by decide, by decide⟩⟩
  · rw [cal_X6_readTape, eX6_readTape_0, e]
    simp only [m_bd, Option.toList, List.cons_append, List.nil_append]
    rw [eX6_readTape_7]; rfl
  · exact fr_up (fr_up (fr_up (fr_up (fr_up (fr_up (fr_refl _ _) rfl) rfl) rfl) rfl) rfl) rfl
  · rw [up_nj (by decide), up_nj (by decide), up_nj (by decide), up_nj (by decide), up_ne (by decide), up_ne (by decide)]
  · exact TP_up (TP_up (TP_up (TP_up (TP_up (TP_up hP (by decide) (Or.inl (by decide))) (by decide) (Or.inl (by decide))) (by decide) (Or.inr (by decide))) (by decide) (Or.inr (by decide))) (by decide) (Or.inr (by decide))) (by decide) (Or.inr (by decide))
  · rw [up_nj (by decide), up_nj (by decide), up_nj (by decide), up_in]; rfl
  · rw [up_nj (by decide), up_nj (by decide), up_in]; rfl
  · rw [up_nj (by decide), up_nj (by decide), up_nj (by decide), up_nj (by decide), up_ne (by decide), up_ne (by decide)]
  · rw [up_nj (by decide), up_nj (by decide), up_nj (by decide), up_nj (by decide), up_ne (by decide), up_ne (by decide)]
  · rw [up_nj (by decide), up_in]; rfl
  · rw [up_in]; rfl
  · trivial
  · rw [up_ne (by decide), up_ne (by decide), up_ne (by decide), up_ne (by decide), up_nj (by decide), up_in]; rfl
  · rw [up_ne (by decide), up_ne (by decide), up_ne (by decide), up_ne (by decide), up_in]; rfl
  · rfl
  · simp at q
theorem x_bad (d : Nat) {st : zS} {b : Nat → Nat} {n a : Nat} (hP : TP st b n) (h : bad b n (cs0 st, 0) a) : a ≤ n ∧ ∃ st', m_evc (d + 12) 36 [.ref 35] (SH, st) = some (some (.int (Int32.ofNat a)), (SH, st')) ∧ KR st st' := by
  obtain ⟨⟨y, p⟩, ⟨k, hk⟩, h2, h3, h4⟩ := h
  obtain ⟨s0, e0, k0, t0, a0, x0, l0⟩ := x_begT d hP
  obtain ⟨s1, j, e1, k1, t1, p1, a1, x1, l1, j1⟩ := x_run d k _ 0 0 s0 t0 (by omega) a0 x0 l0 (Nat.le_refl 0) hk
  have p1 : p ≤ n := p1
  have l1 : LI p y := l1
  have h3 : fz b n p = a := h3
  have h4 : ¬ (y.1 = 0 ∧ n ≤ a) := h4
  obtain ⟨s2, e2, k2, _⟩ := (x_step d t1 p1 a1 x1 l1 j1).2 h2
  rw [h3, if_neg h4] at e2
  refine ⟨by rw [← h3]; exact fz_le p1, s2, (e0.trans e1).trans e2, KR_t (KR_t k0 k1) k2⟩
theorem x_good (d : Nat) {st : zS} {b : Nat → Nat} {n p : Nat} {y : CS} (hP : TP st b n) (h : rch b n (cs0 st, 0) (y, p)) (hy : y.1 = 0) (hn : n ≤ fz b n p) : ∃ st', m_evc (d + 12) 36 [.ref 35] (SH, st) = some (some (.int (-1)), (SH, st')) ∧ KR st st' ∧ HX st' y := by
  obtain ⟨k, hk⟩ := h
  obtain ⟨s0, e0, k0, t0, a0, x0, l0⟩ := x_begT d hP
  obtain ⟨s1, j, e1, k1, t1, p1, a1, x1, l1, j1⟩ := x_run d k _ 0 0 s0 t0 (by omega) a0 x0 l0 (Nat.le_refl 0) hk
  have p1 : p ≤ n := p1
  have l1 : LI p y := l1
  have h2 : stp b n (y, p) = none := stp_no (by rw [tk_end hn]; exact ct_end l1)
  obtain ⟨s2, e2, k2, x2⟩ := (x_step d t1 p1 a1 x1 l1 j1).2 h2
  rw [if_pos ⟨hy, hn⟩] at e2
  exact ⟨s2, (e0.trans e1).trans e2, KR_t (KR_t k0 k1) k2, x2 ⟨hy, hn⟩⟩
