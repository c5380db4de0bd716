/-! THE TAPE IN THE MODEL: a number, a code, a side of a sign, a comparison -/
theorem cl_cg {s t : Nat → Int32} : ∀ m i, (∀ j, i ≤ j → j < i + m → s (110 + j) = t (110 + j)) → cl s i m = cl t i m
  | 0, _, _ => rfl
  | m + 1, i, h => by
    show s (110 + i) :: cl s (i + 1) m = t (110 + i) :: cl t (i + 1) m
    rw [h i (Nat.le_refl i) (by omega), cl_cg m (i + 1) fun j h1 h2 => h j (by omega) (by omega)]
theorem cl_s (s : Nat → Int32) : ∀ m i, cl s i (m + 1) = cl s i m ++ [s (110 + (i + m))]
  | 0, i => rfl
  | m + 1, i => by
    show s (110 + i) :: cl s (i + 1) (m + 1) = s (110 + i) :: (cl s (i + 1) m ++ [s (110 + (i + (m + 1)))])
    rw [cl_s s m (i + 1), show i + 1 + m = i + (m + 1) by omega]
def MC (st : zS) (M : List Int32) : Prop := st 85 22 = Int32.ofNat M.length ∧ cl (st 86) 0 M.length = M
def fC (st st' : zS) : Prop := fr [85, 86] st st' ∧ (∀ j, j ≠ 18 → j ≠ 19 → j ≠ 20 → j ≠ 22 → j ≠ 23 → st' 85 j = st 85 j) ∧ ∀ j, j < 110 ∨ 310 ≤ j → st' 86 j = st 86 j
theorem fC_0 (st : zS) : fC st st := ⟨fr_refl _ _, fun _ _ _ _ _ _ => rfl, fun _ _ => rfl⟩
theorem fC_t {a b c : zS} (h : fC a b) (g : fC b c) : fC a c := ⟨fr_mono (fr_tr h.1 g.1) (by decide), fun j h1 h2 h3 h4 h5 => (g.2.1 j h1 h2 h3 h4 h5).trans (h.2.1 j h1 h2 h3 h4 h5), fun j hj => (g.2.2 j hj).trans (h.2.2 j hj)⟩
theorem fC_T {a b : zS} (h : fZt a b) : fC a b := ⟨fr_mono h.1 (by decide), fun j h1 h2 _ _ h5 => h.2 j h1 h2 h5, fun j _ => by rw [h.1 86 rfl]⟩
theorem MC_T {a b : zS} {M : List Int32} (h : MC a M) (f : fZt a b) : MC b M := by
  unfold MC
  rw [f.2 22 (by decide) (by decide) (by decide), f.1 86 rfl]
  exact h
def fNm (st st' : zS) : Prop := fr [85] st st' ∧ ∀ j, j ≠ 18 → j ≠ 19 → j ≠ 20 → j ≠ 23 → st' 85 j = st 85 j
theorem fC_N {a b : zS} (h : fNm a b) : fC a b := ⟨fr_mono h.1 (by decide), fun j h1 h2 h3 _ h5 => h.2 j h1 h2 h3 h5, fun j _ => by rw [h.1 86 rfl]⟩
theorem MC_N {a b : zS} {M : List Int32} (h : MC a M) (f : fNm a b) : MC b M := by
  unfold MC
  rw [f.2 22 (by decide) (by decide) (by decide) (by decide), f.1 86 rfl]
  exact h
theorem MA_e {st st' : zS} {b : Nat → Nat} {n p : Nat} (h : MA st b n p) (f : st' 94 = st 94) (g : ∀ j, j = 17 ∨ j = 18 ∨ j = 19 ∨ j = 23 → st' 85 j = st 85 j) : MA st' b n p := by
  obtain ⟨hM, hp, h18, h19, h23⟩ := h
  exact ⟨MP_e hM f (g 17 (by omega)), hp, (g 18 (by omega)).trans h18, (g 19 (by omega)).trans h19, (g 23 (by omega)).trans h23⟩
theorem WR_e {st st' : zS} {b : Nat → Nat} {n a : Nat} (h : WR st b n a) (f : st' 94 = st 94) (g : ∀ j, j = 17 ∨ j = 18 ∨ j = 19 ∨ j = 23 → st' 85 j = st 85 j) : WR st' b n a := by
  obtain ⟨hM, ha, h18, ⟨e, he, h19⟩, h23⟩ := h
  exact ⟨MP_e hM f (g 17 (by omega)), ha, (g 18 (by omega)).trans h18, ⟨e, he, (g 19 (by omega)).trans h19⟩, (g 23 (by omega)).trans h23⟩
theorem tk_D {b : Nat → Nat} {n a : Nat} : (tk b n a).1 = 1 ↔ (Dz b n a = true ∧ ez b n a - a < 5) := by
  by_cases h1 : Lz b n a = true
  · have e : tk b n a = (0, wv b a (ez b n a - a)) := by unfold tk; rw [if_pos h1]
    rw [e, LD_n h1]
    exact ⟨(fun z => by cases z), (fun z => by cases z.1)⟩
  by_cases h2 : Dz b n a = true
  · have e : tk b n a = if ez b n a - a ≤ 4 then (1, dv b a (ez b n a - a)) else (3, 0) := by unfold tk; rw [if_neg h1, if_pos h2]
    rw [e]
    by_cases h3 : ez b n a - a ≤ 4
    · rw [if_pos h3]; exact ⟨fun _ => ⟨h2, by omega⟩, fun _ => rfl⟩
    · rw [if_neg h3]; exact ⟨(fun z => by cases z), (fun z => by omega)⟩
  · have : ¬ (tk b n a).1 = 1 := by
      by_cases h3 : a < n
      · have e : tk b n a = (2, b a) := by unfold tk; rw [if_neg h1, if_neg h2, if_pos h3]
        rw [e]; intro z; cases z
      · have e : tk b n a = (4, 0) := by unfold tk; rw [if_neg h1, if_neg h2, if_neg h3]
        rw [e]; intro z; cases z
    exact ⟨fun z => absurd z this, fun z => absurd z.1 h2⟩
theorem tk_Dv {b : Nat → Nat} {n a : Nat} (h : (tk b n a).1 = 1) : (tk b n a).2 = dv b a (ez b n a - a) ∧ ∀ i, i < ez b n a - a → 48 ≤ b (a + i) ∧ b (a + i) ≤ 57 := by
  obtain ⟨h2, h3⟩ := tk_D.mp h
  have h1 : ¬ Lz b n a = true := fun z => by rw [LD_n z] at h2; cases h2
  have e : tk b n a = if ez b n a - a ≤ 4 then (1, dv b a (ez b n a - a)) else (3, 0) := by unfold tk; rw [if_neg h1, if_pos h2]
  have ee : ez b n a = rz (Dz b n) a := by unfold ez; rw [if_neg h1, if_pos h2]
  refine ⟨by rw [e, if_pos (by omega)], fun i hi => ?_⟩
  rw [ee] at hi
  exact (Dz_i.mp (rz_all (P := Dz b n) (p := a) (i := a + i) (by omega) (by omega))).2
theorem n_dig2 {v c : Nat} (hc : 48 ≤ c) : 10 * Int32.ofNat v + Int32.ofNat c - 48 = Int32.ofNat (10 * v + (c - 48)) := by
  rw [show (10 : Int32) = Int32.ofNat 10 from rfl, show (48 : Int32) = Int32.ofNat 48 from rfl, n_mul, n_add, n_sub (by omega)]
  congr 1; omega
theorem m_nloop (d : Nat) {b : Nat → Nat} {n a e : Nat} {hi : Int32} (he : e ≤ n) (hb : ∀ i, i < e - a → 48 ≤ b (a + i) ∧ b (a + i) ≤ 57) : ∀ m k (st : zS), k + m = e → a ≤ k → MP st b n → st 85 19 = Int32.ofNat e → st 85 20 = Int32.ofNat (dv b a (k - a)) → ∃ x, m_ev none d 233 43 [some (.ref 85), some (.int hi), some (.int 1), some (.int (Int32.ofNat k))] [] (SH, st) = m_ev none d 233 82 [some (.ref 85), some (.int hi), some (.int 1), some (.int x)] [] (SH, m_up st 85 20 (Int32.ofNat (dv b a (e - a))))
  | 0, k, st, hk, ha, hM, h19, h20 => by
    have hn := hM.2.1
    have hk : k = e := hk
    subst hk
    refine ⟨Int32.ofNat k, ?_⟩
    rw [eX12_number_43, h19, if_neg (by rw [n_lt (by omega) (by omega)]; omega), up_same h20]
  | m + 1, k, st, hk, ha, hM, h19, h20 => by
    have hn := hM.2.1
    have hbk := hb (k - a) (by omega)
    rw [show a + (k - a) = k by omega] at hbk
    obtain ⟨x, ex⟩ := m_nloop d (hi := hi) he hb m (k + 1) (m_up st 85 20 (Int32.ofNat (dv b a (k + 1 - a)))) (by omega) (by omega) (MP_85 hM (by decide) _) (by rw [up_nj (by decide)]; exact h19) (up_in _ _ _ _)
    refine ⟨x, ?_⟩
    rw [eX12_number_43, h19, if_pos (by rw [n_lt (by omega) (by omega)]; omega), if_neg i_10, ix_200 (by omega), ob_s, h20, (hM.2.2 k (by omega)).1, n_dig2 hbk.1, n_succ]
    have : 10 * dv b a (k - a) + (b k - 48) = dv b a (k + 1 - a) := by
      rw [show k + 1 - a = (k - a) + 1 by omega]
      show _ = 10 * dv b a (k - a) + (b (a + (k - a)) - 48)
      rw [show a + (k - a) = k by omega]
    rw [this, ex, up_up]
theorem m_numb (d : Nat) {st : zS} {b : Nat → Nat} {n p : Nat} (h : MA st b n p) {hi : Nat} (hh : hi ≤ 9999) : ((tk b n (fz b n p)).1 = 1 ∧ (tk b n (fz b n p)).2 ≤ hi → ∃ st', m_evc (d + 5) 233 [.ref 85, .int (Int32.ofNat hi)] (SH, st) = some (none, (SH, st')) ∧ fNm st st' ∧ MA st' b n (ez b n (fz b n p)) ∧ st' 85 20 = Int32.ofNat (tk b n (fz b n p)).2) ∧ (¬ ((tk b n (fz b n p)).1 = 1 ∧ (tk b n (fz b n p)).2 ≤ hi) → ∃ st', m_evc (d + 5) 233 [.ref 85, .int (Int32.ofNat hi)] (SH, st) = some (none, (SH, st')) ∧ fNm st st' ∧ WR st' b n (fz b n p)) := by
  have hA := h
  obtain ⟨hM, hp, h18, h19, h23⟩ := h
  have hn := hM.2.1
  have ha := fz_le (b := b) hp
  have he := ez_le (b := b) ha
  have ge := ez_ge (b := b) (n := n) (a := fz b n p)
  have up20 : ∀ v, MA (m_up st 85 20 v) b n p := fun v => MA_e hA (up_ne (by decide)) fun j hj => up_nj (by omega)
  have fNm20 : ∀ (v : Int32) (s : zS), fZt (m_up st 85 20 v) s → fNm st s := fun v s f => ⟨fr_mono (fr_tr (fr_up0 st 85 20 v) f.1) (by decide), fun j h1 h2 h3 h5 => by rw [f.2 j h1 h2 h5, up_nj h3]⟩
  have head : m_evc (d + 5) 233 [.ref 85, .int (Int32.ofNat hi)] (SH, st) = m_ev none (d + 4) 233 43 [some (.ref 85), some (.int (Int32.ofNat hi)), some (.int (if (tk b n (fz b n p)).1 = 1 then 1 else 0)), some (.int (Int32.ofNat (fz b n p)))] [] (SH, m_up st 85 20 0) := by
    have e32 : ∀ t0 : Int32, m_ev none (d + 4) 233 32 [some (.ref 85), some (.int (Int32.ofNat hi)), none, none] [.int t0] (SH, st) = m_ev none (d + 4) 233 43 [some (.ref 85), some (.int (Int32.ofNat hi)), some (.int t0), some (.int (Int32.ofNat (fz b n p)))] [] (SH, m_up st 85 20 0) := fun t0 => by
      rw [eX12_number_32]
      simp only [h18, up_nj (show (18 : Nat) ≠ 20 by decide)]
    rw [cal_X12_number, eX12_number_0, h18, m_byt (d + 3) hM (by omega)]
    simp only [m_bd, Option.toList, List.cons_append, List.nil_append]
    rw [eX12_number_8, m_dg (d + 2) hM]
    simp only [m_bd, Option.toList, List.cons_append, List.nil_append]
    rw [eX12_number_11, bZ_if, h18, h19, n_sub ge]
    by_cases q : Dz b n (fz b n p) = true
    · rw [if_pos q]
      by_cases q2 : ez b n (fz b n p) - fz b n p < 5
      · rw [if_pos (by rw [show (5 : Int32) = Int32.ofNat 5 from rfl, n_lt (by omega) (by omega)]; exact q2), if_pos (tk_D.mpr ⟨q, q2⟩), e32]
      · rw [if_neg (by rw [show (5 : Int32) = Int32.ofNat 5 from rfl, n_lt (by omega) (by omega)]; exact q2), if_neg (fun z => q2 (tk_D.mp z).2), eX12_number_31, e32]
    · rw [if_neg q, if_neg (fun z => q (tk_D.mp z).1), eX12_number_31, e32]
  have wrong : ∀ (v x2 x : Int32) , (x2 = 0 ∨ Int32.ofNat hi < v) → ∃ st', m_ev none (d + 4) 233 82 [some (.ref 85), some (.int (Int32.ofNat hi)), some (.int x2), some (.int x)] [] (SH, m_up st 85 20 v) = some (none, (SH, st')) ∧ fNm st st' ∧ WR st' b n (fz b n p) := by
    intro v x2 x hv
    obtain ⟨s, e1, w1, f1⟩ := m_need0 (d + 3) (up20 v)
    refine ⟨s, ?_, fNm20 v s f1, w1⟩
    have e99 : m_ev none (d + 4) 233 99 [some (.ref 85), some (.int (Int32.ofNat hi)), some (.int x2), some (.int x)] [.ref 85] (SH, m_up st 85 20 v) = some (none, (SH, s)) := by
      rw [eX12_number_99, eX12_number_100, e1]
      simp only [m_bd, Option.toList, List.cons_append, List.nil_append]
      rw [eX12_number_103]
    rw [eX12_number_82]
    by_cases q : x2 = 0
    · rw [if_pos q, e99]
    · rw [if_neg q, up_in, if_pos (hv.resolve_left q), e99]
  rw [head]
  constructor
  · rintro ⟨q, q2⟩
    obtain ⟨v1, v2⟩ := tk_Dv q
    have v9 := tk_9999 q
    obtain ⟨x, ex⟩ := m_nloop (d + 4) (hi := Int32.ofNat hi) he v2 (ez b n (fz b n p) - fz b n p) (fz b n p) (m_up st 85 20 0) (by omega) (Nat.le_refl _) (MP_85 hM (by decide) _) (by rw [up_nj (by decide)]; exact h19) (by rw [up_in, Nat.sub_self]; rfl)
    obtain ⟨s, e1, w1, f1⟩ := m_need1 d (up20 (Int32.ofNat (tk b n (fz b n p)).2))
    rw [if_pos q, ex, up_up, ← v1, eX12_number_82, if_neg i_10, up_in, if_neg (by rw [n_lt (by omega) (by omega)]; omega), eX12_number_100, e1]
    simp only [m_bd, Option.toList, List.cons_append, List.nil_append]
    rw [eX12_number_103]
    exact ⟨s, rfl, fNm20 _ s f1, w1, by rw [f1.2 20 (by decide) (by decide) (by decide), up_in]⟩
  · intro hq
    by_cases q : (tk b n (fz b n p)).1 = 1
    · obtain ⟨v1, v2⟩ := tk_Dv q
      have v9 := tk_9999 q
      obtain ⟨x, ex⟩ := m_nloop (d + 4) (hi := Int32.ofNat hi) he v2 (ez b n (fz b n p) - fz b n p) (fz b n p) (m_up st 85 20 0) (by omega) (Nat.le_refl _) (MP_85 hM (by decide) _) (by rw [up_nj (by decide)]; exact h19) (by rw [up_in, Nat.sub_self]; rfl)
      rw [if_pos q, ex, up_up, ← v1]
      refine wrong _ 1 x (Or.inr ?_)
      rw [n_lt (by omega) (by omega)]
      by_cases z : (tk b n (fz b n p)).2 ≤ hi
      · exact absurd ⟨q, z⟩ hq
      · omega
    · rw [if_neg q, eX12_number_43, up_nj (by decide), h19]
      by_cases z : Int32.ofNat (fz b n p) < Int32.ofNat (ez b n (fz b n p))
      · rw [if_pos z, if_pos rfl]
        exact wrong 0 0 _ (Or.inl rfl)
      · rw [if_neg z]
        exact wrong 0 0 _ (Or.inl rfl)
theorem m_wr (d : Nat) {st : zS} {b : Nat → Nat} {n p : Nat} {M : List Int32} (h : MA st b n p) (hM : MC st M) (hl : M.length < 200) (c : Int32) : ∃ st', m_evc (d + 1) 236 [.ref 85, .int c] (SH, st) = some (none, (SH, st')) ∧ fC st st' ∧ MA st' b n p ∧ MC st' (M ++ [c]) := by
  have h23 := h.2.2.2.2
  obtain ⟨m1, m2⟩ := hM
  have ix : m_ix (110 + Int32.ofNat M.length) 310 = some (110 + M.length) := ix_C hl
  refine ⟨m_up (m_up st 86 (110 + M.length) c) 85 22 (Int32.ofNat (M.length + 1)), ?_, ⟨fr_up (fr_up (fr_refl _ _) rfl) rfl, fun j _ _ _ j4 _ => by rw [up_nj j4, up_ne (by decide)], fun j hj => by rw [up_ne (by decide), up_nj (by omega)]⟩, MA_e h (by rw [up_ne (by decide), up_ne (by decide)]) fun j hj => by rw [up_nj (by omega), up_ne (by decide)], ?_, ?_⟩
  · rw [cal_X12_writes, eX12_writes_0, h23, if_pos rfl, m1, ix, ob_s, eX12_writes_30, n_succ]
  · rw [up_in, List.length_append]; rfl
  · rw [List.length_append, show M.length + [c].length = M.length + 1 from rfl, cl_s, up_ne (by decide), Nat.zero_add, up_in]
    congr 1
    refine Eq.trans (cl_cg _ _ fun j _ hj => ?_) m2
    rw [up_nj (by omega)]
theorem m_wrW (d : Nat) {st : zS} {b : Nat → Nat} {n a : Nat} (h : WR st b n a) (c : Int32) : m_evc (d + 1) 236 [.ref 85, .int c] (SH, st) = some (none, (SH, st)) := by
  rw [cal_X12_writes, eX12_writes_0, h.2.2.2.2, if_neg i_10, eX12_writes_30]
theorem tk_lt {b : Nat → Nat} {n a : Nat} (h : (tk b n a).1 ≠ 4) : a < n := by
  by_cases q : a < n
  · exact q
  · rw [tk_end (by omega)] at h; exact absurd rfl h
theorem wd_lt {b : Nat → Nat} {n a : Nat} (h : wd (tk b n a) ≠ 0) : a < n := tk_lt fun z => h (by unfold wd; rw [z]; rfl)
theorem opd_lt {b : Nat → Nat} {n a : Nat} (h : ¬ opd (tk b n a) < 0) : a < n := by
  by_cases q : a < n
  · exact q
  · rw [tk_end (by omega)] at h; exact absurd (by decide) h
theorem m_val (d : Nat) {st : zS} {b : Nat → Nat} {n p : Nat} {M : List Int32} (h : MA st b n p) (hM : MC st M) (hl : M.length ≤ p) : (¬ opd (tk b n (fz b n p)) < 0 → ∃ st', m_evc (d + 6) 237 [.ref 85] (SH, st) = some (none, (SH, st')) ∧ fC st st' ∧ MA st' b n (ez b n (fz b n p)) ∧ MC st' (M ++ [oc (tk b n (fz b n p))])) ∧ (opd (tk b n (fz b n p)) < 0 → ∃ st', m_evc (d + 6) 237 [.ref 85] (SH, st) = some (none, (SH, st')) ∧ fC st st' ∧ WR st' b n (fz b n p)) := by
  have hn := h.1.2.1
  have hp := h.2.1
  have ha := fz_ge b n p
  have ef := m_factw (d + 4) wd_top (m_wordA d h)
  have num : ¬ fcd (wd (tk b n (fz b n p))) < 0 → m_evc (d + 6) 237 [.ref 85] (SH, st) = m_bd (m_evc (d + 5) 233 [.ref 85, .int 9999] (SH, st)) fun w hh => m_ev none (d + 5) 237 36 [some (.ref 85), some (.int (fcd (wd (tk b n (fz b n p)))))] (w.toList ++ []) hh := by
    intro hf
    rw [cal_X12_valueHere, eX12_valueHere_0, ef]
    simp only [m_bd, Option.toList, List.cons_append, List.nil_append]
    rw [eX12_valueHere_4, if_neg hf, eX12_valueHere_22, h.2.2.2.2, if_pos rfl]
    rfl
  obtain ⟨n1, n2⟩ := m_numb d h (hi := 9999) (by omega)
  constructor
  · intro ho
    have hlt := opd_lt ho
    have gt := ez_gt (b := b) hn hlt
    have le := ez_le (b := b) (n := n) (a := fz b n p) (by omega)
    by_cases q : (tk b n (fz b n p)).1 = 1
    · have w0 : wd (tk b n (fz b n p)) = 0 := by unfold wd; rw [if_neg (by omega)]
      obtain ⟨s1, e1, f1, a1, v1⟩ := n1 ⟨q, tk_9999 q⟩
      have e1 : m_evc (d + 5) 233 [.ref 85, .int 9999] (SH, st) = some (none, (SH, s1)) := e1
      obtain ⟨s2, e2, f2, a2, c2⟩ := m_wr (d + 4) a1 (MC_N hM f1) (by omega) (Int32.ofNat (tk b n (fz b n p)).2)
      rw [num (by rw [w0]; decide), e1]
      simp only [m_bd, Option.toList, List.cons_append, List.nil_append]
      rw [eX12_valueHere_36, v1, e2]
      simp only [m_bd, Option.toList, List.cons_append, List.nil_append]
      rw [eX12_valueHere_44]
      refine ⟨s2, rfl, fC_t (fC_N f1) f2, a2, ?_⟩
      unfold oc
      rw [if_pos q]; exact c2
    · have hf : fcd (wd (tk b n (fz b n p))) < 0 := by
        unfold opd at ho
        rw [if_neg q] at ho
        rcases fdx_F (wd (tk b n (fz b n p))) with ⟨z1, _⟩ | ⟨i, hi, z1, z2⟩
        · rw [z1] at ho; exact absurd (by decide) ho
        · rw [z2]
          have : i = 0 ∨ i = 1 ∨ i = 2 ∨ i = 3 ∨ i = 4 ∨ i = 5 := by omega
          rcases this with rfl | rfl | rfl | rfl | rfl | rfl <;> decide
      obtain ⟨s1, e1, a1, f1⟩ := m_need1 (d + 1) h
      obtain ⟨s2, e2, f2, a2, c2⟩ := m_wr (d + 4) a1 (MC_T hM f1) (by omega) (fcd (wd (tk b n (fz b n p))))
      rw [cal_X12_valueHere, eX12_valueHere_0, ef]
      simp only [m_bd, Option.toList, List.cons_append, List.nil_append]
      rw [eX12_valueHere_4, if_pos hf, e1]
      simp only [m_bd, Option.toList, List.cons_append, List.nil_append]
      rw [eX12_valueHere_14, e2]
      simp only [m_bd, Option.toList, List.cons_append, List.nil_append]
      rw [eX12_valueHere_19, eX12_valueHere_44]
      refine ⟨s2, rfl, fC_t (fC_T f1) f2, a2, ?_⟩
      unfold oc
      rw [if_neg q]; exact c2
  · intro ho
    obtain ⟨q, w0⟩ := opd_no ho
    obtain ⟨s1, e1, f1, a1⟩ := n2 (fun z => q z.1)
    have e1 : m_evc (d + 5) 233 [.ref 85, .int 9999] (SH, st) = some (none, (SH, s1)) := e1
    rw [num (by rw [w0]; decide), e1]
    simp only [m_bd, Option.toList, List.cons_append, List.nil_append]
    rw [eX12_valueHere_36, m_wrW (d + 4) a1]
    simp only [m_bd, Option.toList, List.cons_append, List.nil_append]
    rw [eX12_valueHere_44]
    exact ⟨s1, rfl, fC_N f1, a1⟩
theorem m_valW (d : Nat) {st : zS} {b : Nat → Nat} {n a : Nat} (h : WR st b n a) : m_evc (d + 3) 237 [.ref 85] (SH, st) = some (none, (SH, st)) := by
  have ef := m_factw (d + 1) (w := 0) (by omega) (m_wordW d h)
  rw [cal_X12_valueHere, eX12_valueHere_0, ef]
  simp only [m_bd, Option.toList, List.cons_append, List.nil_append]
  rw [eX12_valueHere_4, if_neg (by decide), eX12_valueHere_22, h.2.2.2.2, if_neg i_10, eX12_valueHere_44]
/-- a byte that is no letter and no digit is a token of its own -/
theorem tk_c {st : zS} {b : Nat → Nat} {n a c : Nat} (hM : MP st b n) (hc : (c < 48 ∨ 57 < c) ∧ c < 97) : ((if a < n then Int32.ofNat (b a) else -1) = Int32.ofNat c) ↔ ((tk b n a).1 = 2 ∧ (tk b n a).2 = c) := by
  by_cases q : a < n
  · have hb := (hM.2.2 a q).2
    rw [if_pos q, n_eq (by omega) (by omega)]
    by_cases h1 : Lz b n a = true
    · have e : tk b n a = (0, wv b a (ez b n a - a)) := by unfold tk; rw [if_pos h1]
      have := Lz_i.mp h1
      rw [e]
      exact ⟨fun z => by omega, fun z => by cases z.1⟩
    by_cases h2 : Dz b n a = true
    · have := Dz_i.mp h2
      have : ¬ (tk b n a).1 = 2 := by
        unfold tk
        rw [if_neg h1, if_pos h2]
        split <;> (intro z; cases z)
      exact ⟨fun z => by omega, fun z => absurd z.1 this⟩
    · have e : tk b n a = (2, b a) := by unfold tk; rw [if_neg h1, if_neg h2, if_pos q]
      rw [e]
      exact ⟨fun z => ⟨rfl, z⟩, fun z => z.2⟩
  · rw [if_neg q, tk_end (by omega)]
    exact ⟨fun z => by
      have := congrArg Int32.toInt z
      rw [n_int (by omega), show (-1 : Int32).toInt = -1 from rfl] at this
      omega, fun z => by cases z.1⟩
