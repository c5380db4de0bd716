/-! THE TAPE IN THE CLASS: a token is taken -/
theorem cls_cg {s t : Nat → Int32} : ∀ m i, (∀ j, i ≤ j → j < i + m → s j = t j) → cls s i m = cls t i m
  | 0, _, _ => rfl
  | m + 1, i, h => by
    show s i :: cls s (i + 1) m = t i :: cls t (i + 1) m
    rw [h i (Nat.le_refl i) (by omega), cls_cg m (i + 1) fun j h1 h2 => h j (by omega) (by omega)]
theorem cls_s (s : Nat → Int32) : ∀ m i, cls s i (m + 1) = cls s i m ++ [s (i + m)]
  | 0, i => rfl
  | m + 1, i => by
    show s i :: cls s (i + 1) (m + 1) = s i :: (cls s (i + 1) m ++ [s (i + (m + 1))])
    rw [cls_s s m (i + 1), show i + 1 + m = i + (m + 1) by omega]
def HC (st : zS) (o : Nat) (W S : List Int32) (R : List (Int32 × Int32 × Int32 × Nat)) : Prop := st 35 10 = Int32.ofNat o ∧ st 35 12 = Int32.ofNat W.length ∧ sk (st 43) W ∧ st 37 0 = Int32.ofNat R.length ∧ st 37 5 = Int32.ofNat S.length ∧ cls (st 42) 0 S.length = S ∧ ∀ r k d m e, R[r]? = some (k, d, m, e) → st 38 r = k ∧ st 39 r = d ∧ st 40 r = m ∧ st 41 r = Int32.ofNat e
def HX (st : zS) : CS → Prop
  | (q, lf, sg, o, W, S, R, kd, dd, nm) => st 35 7 = Int32.ofNat q ∧ st 35 8 = lf ∧ st 35 9 = sg ∧ HC st o W S R ∧ (q ≠ 0 → st 38 R.length = kd ∧ st 40 R.length = nm) ∧ (6 ≤ q → st 39 R.length = dd)
def LI (p : Nat) : CS → Prop
  | (q, _, _, o, W, S, R, _, _, _) => S.length + W.length ≤ p ∧ o ≤ 3 ∧ R.length ≤ 8 ∧ q ≤ 7
def KP (st st' : zS) : Prop := fr [35, 37, 38, 39, 40, 41, 42, 43] st st' ∧ st' 35 0 = st 35 0 ∧ st' 35 4 = st 35 4 ∧ st' 35 5 = st 35 5
theorem KP_0 (st : zS) : KP st st := ⟨fr_refl _ _, rfl, rfl, rfl⟩
theorem KP_t {a b c : zS} (h : KP a b) (g : KP b c) : KP a c := ⟨fr_mono (fr_tr h.1 g.1) (by decide), g.2.1.trans h.2.1, g.2.2.1.trans h.2.2.1, g.2.2.2.trans h.2.2.2⟩
theorem KP_35 {a b : zS} (h : KP a b) {j : Nat} (hj : j ≠ 0 ∧ j ≠ 4 ∧ j ≠ 5) (v : Int32) : KP a (m_up b 35 j v) := ⟨fr_up h.1 rfl, by rw [up_nj (fun z => hj.1 z.symm)]; exact h.2.1, by rw [up_nj (fun z => hj.2.1 z.symm)]; exact h.2.2.1, by rw [up_nj (fun z => hj.2.2 z.symm)]; exact h.2.2.2⟩
theorem KP_n {a b : zS} (h : KP a b) {i : Nat} (hi : [37, 38, 39, 40, 41, 42, 43].elem i = true) (j : Nat) (v : Int32) : KP a (m_up b i j v) := by
  have h35 : 35 ≠ i := by intro z; subst z; cases hi
  refine ⟨fr_up h.1 ?_, by rw [up_ne h35]; exact h.2.1, by rw [up_ne h35]; exact h.2.2.1, by rw [up_ne h35]; exact h.2.2.2⟩
  simp only [List.elem_eq_contains, List.contains_iff_mem, List.mem_cons, List.not_mem_nil, or_false] at hi ⊢
  omega
theorem KP_f {a b : zS} (f : fr [35, 37, 38, 39, 40, 41, 42, 43] a b) (g : ∀ j, j ≠ 12 → b 35 j = a 35 j) : KP a b := ⟨f, g 0 (by decide), g 4 (by decide), g 5 (by decide)⟩
theorem HC_e {st st' : zS} {o : Nat} {W S : List Int32} {R : List (Int32 × Int32 × Int32 × Nat)} (h : HC st o W S R) (h10 : st' 35 10 = st 35 10) (h12 : st' 35 12 = st 35 12) (h43 : st' 43 = st 43) (h37 : st' 37 = st 37) (h42 : st' 42 = st 42) (hr : ∀ r, r < R.length → st' 38 r = st 38 r ∧ st' 39 r = st 39 r ∧ st' 40 r = st 40 r ∧ st' 41 r = st 41 r) : HC st' o W S R := by
  obtain ⟨a1, a2, a3, a4, a5, a6, a7⟩ := h
  refine ⟨h10.trans a1, h12.trans a2, by rw [h43]; exact a3, by rw [h37]; exact a4, by rw [h37]; exact a5, by rw [h42]; exact a6, fun r k d m e q => ?_⟩
  obtain ⟨z, _⟩ := List.getElem?_eq_some_iff.mp q
  obtain ⟨r1, r2, r3, r4⟩ := hr r z
  rw [r1, r2, r3, r4]
  exact a7 r k d m e q
theorem HC_35 {st : zS} {o : Nat} {W S : List Int32} {R : List (Int32 × Int32 × Int32 × Nat)} (h : HC st o W S R) {j : Nat} (hj : 10 ≠ j ∧ 12 ≠ j) (v : Int32) : HC (m_up st 35 j v) o W S R := HC_e h (up_nj hj.1) (up_nj hj.2) (up_ne (by decide)) (up_ne (by decide)) (up_ne (by decide)) fun r _ => ⟨by rw [up_ne (by decide)], by rw [up_ne (by decide)], by rw [up_ne (by decide)], by rw [up_ne (by decide)]⟩
theorem HC_o {st : zS} {o : Nat} {W S : List Int32} {R : List (Int32 × Int32 × Int32 × Nat)} (h : HC st o W S R) (o' : Nat) : HC (m_up st 35 10 (Int32.ofNat o')) o' W S R := by
  obtain ⟨a1, a2, a3, a4, a5, a6, a7⟩ := h
  refine ⟨up_in _ _ _ _, by rw [up_nj (by decide)]; exact a2, by rw [up_ne (by decide)]; exact a3, by rw [up_ne (by decide)]; exact a4, by rw [up_ne (by decide)]; exact a5, by rw [up_ne (by decide)]; exact a6, fun r k d m e q => ?_⟩
  rw [up_ne (by decide), up_ne (by decide), up_ne (by decide), up_ne (by decide)]
  exact a7 r k d m e q
theorem HC_pop {st : zS} {o : Nat} {x : Int32} {W S : List Int32} {R : List (Int32 × Int32 × Int32 × Nat)} (h : HC st o (x :: W) S R) : HC (m_up st 35 12 (Int32.ofNat W.length)) o W S R := by
  obtain ⟨a1, a2, a3, a4, a5, a6, a7⟩ := h
  refine ⟨by rw [up_nj (by decide)]; exact a1, up_in _ _ _ _, by rw [up_ne (by decide)]; exact a3.2, by rw [up_ne (by decide)]; exact a4, by rw [up_ne (by decide)]; exact a5, by rw [up_ne (by decide)]; exact a6, fun r k d m e q => ?_⟩
  rw [up_ne (by decide), up_ne (by decide), up_ne (by decide), up_ne (by decide)]
  exact a7 r k d m e q
theorem x_addS (d : Nat) {st : zS} {o : Nat} {W S : List Int32} {R : List (Int32 × Int32 × Int32 × Nat)} (h : HC st o W S R) (hl : S.length < 200) (x : Int32) : RT (m_evc (d + 1) 27 [.ref 37, .int x] (SH, st)) none (fun st' => HC st' o W (S ++ [x]) R ∧ fr [37, 42] st st') := by
  obtain ⟨a1, a2, a3, a4, a5, a6, a7⟩ := h
  refine ⟨m_up (m_up st 37 5 (Int32.ofNat (S.length + 1))) 42 S.length x, ?_, ⟨?_, ?_, ?_, ?_, ?_, ?_, fun r k d m e q => ?_⟩, fr_up (fr_up (fr_refl _ _) rfl) rfl⟩
  · rw [cal_X5_addStep, eX5_addStep_0, a5, if_pos (by rw [show (200 : Int32) = Int32.ofNat 200 from rfl, n_lt (by omega) (by omega)]; exact hl), ix_200 hl, ob_s, eX5_addStep_29, n_succ]
  · rw [up_ne (by decide), up_ne (by decide)]; exact a1
  · rw [up_ne (by decide), up_ne (by decide)]; exact a2
  · rw [up_ne (by decide), up_ne (by decide)]; exact a3
  · rw [up_ne (by decide), up_nj (by decide)]; exact a4
  · rw [up_ne (by decide), up_in, List.length_append]; rfl
  · rw [List.length_append, show S.length + [x].length = S.length + 1 from rfl, cls_s, Nat.zero_add, up_in]
    congr 1
    refine Eq.trans (cls_cg _ _ fun j _ hj => ?_) a6
    rw [up_nj (by omega), up_ne (by decide)]
  · rw [up_ne (by decide), up_ne (by decide), up_ne (by decide), up_ne (by decide), up_ne (by decide), up_ne (by decide), up_ne (by decide), up_ne (by decide)]
    exact a7 r k d m e q
theorem x_await (d : Nat) {st : zS} {o : Nat} {W S : List Int32} {R : List (Int32 × Int32 × Int32 × Nat)} (h : HC st o W S R) (hl : W.length < 200) (x : Int32) : RT (m_evc (d + 1) 57 [.ref 35, .int x] (SH, st)) none (fun st' => HC st' o (x :: W) S R ∧ fr [35, 43] st st' ∧ ∀ j, j ≠ 12 → st' 35 j = st 35 j) := by
  obtain ⟨a1, a2, a3, a4, a5, a6, a7⟩ := h
  refine ⟨m_up (m_up st 35 12 (Int32.ofNat (W.length + 1))) 43 W.length x, ?_, ⟨?_, ?_, ?_, ?_, ?_, ?_, fun r k d m e q => ?_⟩, fr_up (fr_up (fr_refl _ _) rfl) rfl, fun j hj => ?_⟩
  · rw [cal_X6_await, eX6_await_0, a2, if_pos (by rw [show (200 : Int32) = Int32.ofNat 200 from rfl, n_lt (by omega) (by omega)]; exact hl), ix_200 hl, ob_s, eX6_await_29, n_succ]
  · rw [up_ne (by decide), up_nj (by decide)]; exact a1
  · rw [up_ne (by decide), up_in]; rfl
  · rw [up_row, up_ne (by decide)]
    exact sk_top a3
  · rw [up_ne (by decide), up_ne (by decide)]; exact a4
  · rw [up_ne (by decide), up_ne (by decide)]; exact a5
  · rw [up_ne (by decide), up_ne (by decide)]; exact a6
  · rw [up_ne (by decide), up_ne (by decide), up_ne (by decide), up_ne (by decide), up_ne (by decide), up_ne (by decide), up_ne (by decide), up_ne (by decide)]
    exact a7 r k d m e q
  · rw [up_ne (by decide), up_nj hj]
theorem x_addW (d : Nat) (v : Int32) {o : Nat} {R : List (Int32 × Int32 × Int32 × Nat)} : ∀ (W S : List Int32) (st : zS), HC st o W S R → S.length + W.length ≤ 200 → ∃ st', m_ev none (d + 1) 58 0 [some (.ref 35), some (.int v)] [] (SH, st) = some (none, (SH, st')) ∧ HC st' o (awx v W S).1 (awx v W S).2 R ∧ fr [35, 37, 42] st st' ∧ ∀ j, j ≠ 12 → st' 35 j = st 35 j
  | [], S, st, h, hl => by
    refine ⟨st, ?_, h, fr_refl _ _, fun _ _ => rfl⟩
    have h2 : st 35 12 = Int32.ofNat 0 := h.2.1
    rw [eX6_addWaiting_0, h2, if_neg (by decide), eX6_addWaiting_51]
  | x :: W, S, st, h, hl => by
    simp only [List.length_cons] at hl
    have h2 : st 35 12 = Int32.ofNat (W.length + 1) := h.2.1
    have h3 : st 43 W.length = x := h.2.2.1.1
    rw [eX6_addWaiting_0, h2, if_pos (by rw [show (0 : Int32) = Int32.ofNat 0 from rfl, n_lt (by omega) (by omega)]; omega), n_pred, ix_200 (by omega), ob_s, h3]
    by_cases q : x < v
    · have e : awx v (x :: W) S = (x :: W, S) := by
        show (if x < v then (x :: W, S) else awx v W (S ++ [x])) = _
        rw [if_pos q]
      rw [if_pos q, eX6_addWaiting_51, e]
      exact ⟨st, rfl, h, fr_refl _ _, fun _ _ => rfl⟩
    · have e : awx v (x :: W) S = awx v W (S ++ [x]) := by
        show (if x < v then (x :: W, S) else awx v W (S ++ [x])) = _
        rw [if_neg q]
      obtain ⟨s1, e1, c1, f1⟩ := x_addS d (HC_pop h) (show S.length < 200 by omega) x
      obtain ⟨s2, e2, c2, f2, g2⟩ := x_addW d v W (S ++ [x]) s1 c1 (by simp only [List.length_append, List.length_cons, List.length_nil]; omega)
      rw [if_neg q, ob_s, h3, e1, e]
      simp only [m_bd, Option.toList, List.cons_append, List.nil_append]
      rw [eX6_addWaiting_48, e2]
      refine ⟨s2, rfl, c2, fr_mono (fr_tr (fr_tr (fr_up (fr_refl [35] st) rfl) f1) f2) (by decide), fun j hj => ?_⟩
      rw [g2 j hj, f1 35 rfl, up_nj hj]
theorem x_addC (d : Nat) (v : Int32) {o : Nat} {R : List (Int32 × Int32 × Int32 × Nat)} {W S : List Int32} {st : zS} (h : HC st o W S R) (hl : S.length + W.length ≤ 200) : ∃ st', m_evc (d + 2) 58 [.ref 35, .int v] (SH, st) = some (none, (SH, st')) ∧ HC st' o (awx v W S).1 (awx v W S).2 R ∧ fr [35, 37, 42] st st' ∧ ∀ j, j ≠ 12 → st' 35 j = st 35 j := by
  rw [cal_X6_addWaiting]
  exact x_addW d v W S st h hl
theorem awx_len (v : Int32) : ∀ W S : List Int32, (awx v W S).1.length + (awx v W S).2.length = W.length + S.length
  | [], S => rfl
  | x :: W, S => by
    show (if x < v then (x :: W, S) else awx v W (S ++ [x])).1.length + (if x < v then (x :: W, S) else awx v W (S ++ [x])).2.length = _
    split
    · rfl
    · rw [awx_len v W (S ++ [x])]
      simp only [List.length_append, List.length_cons, List.length_nil]; omega
/-- what a call that takes a token answers: whether it can, and the reader then -/
def TKN (m : Option mF) (st : zS) (c : Option CS) : Prop := match c with
  | none => ∃ st', m = some (some (.int 0), (SH, st')) ∧ KP st st'
  | some y => ∃ st', m = some (some (.int 1), (SH, st')) ∧ KP st st' ∧ HX st' y
theorem x_goes (d : Nat) (st : zS) (s : Int32) (p : Prop) [Decidable p] : m_evc (d + 1) 54 [.ref 35, .int s, .int (if p then 1 else 0)] (SH, st) = some (some (.int (if p then 1 else 0)), (SH, if p then m_up st 35 7 s else st)) := by
  rw [cal_X6_goesTo, eX6_goesTo_0]
  by_cases h : p
  · rw [if_pos h, if_pos h, if_neg i_10, eX6_goesTo_9, if_pos (Or.inr rfl)]
  · rw [if_neg h, if_neg h, if_pos rfl, eX6_goesTo_9, if_pos (Or.inl rfl)]
theorem x_deed (d : Nat) {st : zS} {b : Nat → Nat} {n a q : Nat} (hT : TQ st b n a) {lf sg : Int32} {o : Nat} {W S : List Int32} {R : List (Int32 × Int32 × Int32 × Nat)} {kd dd nm : Int32} (hX : HX st (q, lf, sg, o, W, S, R, kd, dd, nm)) (hq : q ≠ 0) (hL : LI 199 (q, lf, sg, o, W, S, R, kd, dd, nm)) : TKN (m_evc (d + 8) 44 [.ref 35] (SH, st)) st (cdeed (tk b n a) lf sg o W S R kd nm) := by
  obtain ⟨x1, x2, x3, hC, x5, x6⟩ := hX
  obtain ⟨l1, l2, l3, l4⟩ := hL
  have e : m_evc (d + 7) 59 [.ref 35, .ref 1000002] (SH, st) = some (some (.int (fdx ND 0 (wd (tk b n a)))), (SH, st)) := x_place d (J := 2) (by omega) hT
  rw [cal_X6_takesDeed, eX6_takesDeed_0, e]
  simp only [m_bd, Option.toList, List.cons_append, List.nil_append]
  rw [eX6_takesDeed_6, hC.1, hC.2.2.2.1]
  unfold cdeed
  generalize fdx ND 0 (wd (tk b n a)) = dd'
  by_cases h1 : dd' < 0
  · rw [if_pos h1, eX6_takesDeed_30, if_pos (Or.inl h1)]
    exact ⟨st, rfl, KP_0 st⟩
  rw [if_neg h1]
  by_cases h2 : 0 < o
  · rw [if_pos (by rw [show (0 : Int32) = Int32.ofNat 0 from rfl, n_lt (by omega) (by omega)]; exact h2), eX6_takesDeed_30, if_pos (Or.inr (Or.inl h2))]
    exact ⟨st, rfl, KP_0 st⟩
  rw [if_neg (by rw [show (0 : Int32) = Int32.ofNat 0 from rfl, n_lt (by omega) (by omega)]; exact h2)]
  by_cases h3 : R.length < 8
  · rw [if_pos (by rw [show (8 : Int32) = Int32.ofNat 8 from rfl, n_lt (by omega) (by omega)]; exact h3), if_neg (by rintro (z | z | z); exact h1 z; exact h2 z; omega), eX6_takesDeed_32]
    obtain ⟨s1, e1, c1, f1, g1⟩ := x_addC (d + 5) 1 hC (by omega)
    rw [e1]
    simp only [m_bd, Option.toList, List.cons_append, List.nil_append]
    rw [eX6_takesDeed_37, c1.2.2.2.1, ix_8 h3, ob_s]
    have c2 : HC (m_up s1 39 R.length dd') o (awx 1 W S).1 (awx 1 W S).2 R := HC_e c1 (by rw [up_ne (by decide)]) (by rw [up_ne (by decide)]) (up_ne (by decide)) (up_ne (by decide)) (up_ne (by decide)) fun r hr => ⟨by rw [up_ne (by decide)], by rw [up_nj (by omega)], by rw [up_ne (by decide)], by rw [up_ne (by decide)]⟩
    have fin : ∀ v : Nat, 1 ≤ v → KP st (m_up (m_up s1 39 R.length dd') 35 7 (Int32.ofNat v)) ∧ HX (m_up (m_up s1 39 R.length dd') 35 7 (Int32.ofNat v)) (v, lf, sg, o, (awx 1 W S).1, (awx 1 W S).2, R, kd, dd', nm) := by
      intro v hv
      refine ⟨KP_35 (KP_n (KP_f (fr_mono f1 (by decide)) g1) rfl _ _) (by decide) _, up_in _ _ _ _, ?_, ?_, HC_35 c2 (by decide) _, fun _ => ?_, fun _ => ?_⟩
      · rw [up_nj (by decide), up_ne (by decide), g1 8 (by decide)]; exact x2
      · rw [up_nj (by decide), up_ne (by decide), g1 9 (by decide)]; exact x3
      · rw [up_ne (by decide), up_ne (by decide), up_ne (by decide), up_ne (by decide), f1 38 rfl, f1 40 rfl]; exact x5 hq
      · rw [up_ne (by decide), up_in]
    by_cases h4 : dd' = 3
    · rw [if_pos h4, if_pos h4, eX6_takesDeed_66]
      exact ⟨_, rfl, fin 7 (by omega)⟩
    · rw [if_neg h4, if_neg h4, eX6_takesDeed_64, eX6_takesDeed_66]
      exact ⟨_, rfl, fin 6 (by omega)⟩
  · rw [if_neg (by rw [show (8 : Int32) = Int32.ofNat 8 from rfl, n_lt (by omega) (by omega)]; exact h3), eX6_takesDeed_30, if_pos (Or.inr (Or.inr (by omega)))]
    exact ⟨st, rfl, KP_0 st⟩
