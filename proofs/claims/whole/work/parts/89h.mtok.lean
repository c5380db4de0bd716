/-! THE TAPE IN THE MODEL: tokens, words, numbers -/
def MP (st : zS) (b : Nat → Nat) (n : Nat) : Prop := st 85 17 = Int32.ofNat n ∧ n ≤ 200 ∧ ∀ i, i < n → st 94 i = Int32.ofNat (b i) ∧ b i ≤ 255
theorem MP_e {st st' : zS} {b : Nat → Nat} {n : Nat} (h : MP st b n) (f : st' 94 = st 94) (g : st' 85 17 = st 85 17) : MP st' b n := by
  unfold MP
  rw [f, g]; exact h
theorem m_byt (d : Nat) {st : zS} {b : Nat → Nat} {n k : Nat} (h : MP st b n) (hk : k ≤ 200) : m_evc (d + 1) 227 [.ref 85, .int (Int32.ofNat k)] (SH, st) = some (some (.int (if k < n then Int32.ofNat (b k) else -1)), (SH, st)) := by
  have hn := h.2.1
  rw [cal_X12_byteAt, eX12_byteAt_0, h.1]
  by_cases q : k < n
  · rw [if_pos (by rw [n_lt (by omega) (by omega)]; exact q), ix_200 (by omega), ob_s, eX12_byteAt_18, if_pos q, (h.2.2 k q).1]
  · rw [if_neg (by rw [n_lt (by omega) (by omega)]; exact q), eX12_byteAt_17, eX12_byteAt_18, if_neg q]
theorem m_lt (d : Nat) {st st0 : zS} {b : Nat → Nat} {n k : Nat} (h : MP st0 b n) : m_evc (d + 2) 228 [.int (if k < n then Int32.ofNat (b k) else -1)] (SH, st) = some (some (.int (bZ (Lz b n k = true))), (SH, st)) := by
  have e := s_inb d st (if k < n then Int32.ofNat (b k) else -1) 97 122
  rw [cal_X12_isLetter, eX12_isLetter_0, e]
  simp only [m_bd, Option.toList, List.cons_append, List.nil_append]
  rw [eX12_isLetter_11, if_pos (by rw [bZ_ok]; trivial)]
  have e1 : (97 : Int64).toInt = 97 := rfl
  have e2 : (122 : Int64).toInt = 122 := rfl
  rw [e1, e2]
  refine congrArg (fun z => some (some (Value.int z), (SH, st))) (bZ_c ?_)
  rw [Lz_i]
  by_cases q : k < n
  · have := (h.2.2 k q).2
    rw [if_pos q, n_int (by omega)]; omega
  · rw [if_neg q, show (-1 : Int32).toInt = -1 from rfl]; omega
theorem m_dg (d : Nat) {st st0 : zS} {b : Nat → Nat} {n k : Nat} (h : MP st0 b n) : m_evc (d + 2) 229 [.int (if k < n then Int32.ofNat (b k) else -1)] (SH, st) = some (some (.int (bZ (Dz b n k = true))), (SH, st)) := by
  have e := s_inb d st (if k < n then Int32.ofNat (b k) else -1) 48 57
  rw [cal_X12_isDigit, eX12_isDigit_0, e]
  simp only [m_bd, Option.toList, List.cons_append, List.nil_append]
  rw [eX12_isDigit_11, if_pos (by rw [bZ_ok]; trivial)]
  have e1 : (48 : Int64).toInt = 48 := rfl
  have e2 : (57 : Int64).toInt = 57 := rfl
  rw [e1, e2]
  refine congrArg (fun z => some (some (Value.int z), (SH, st))) (bZ_c ?_)
  rw [Dz_i]
  by_cases q : k < n
  · have := (h.2.2 k q).2
    rw [if_pos q, n_int (by omega)]; omega
  · rw [if_neg q, show (-1 : Int32).toInt = -1 from rfl]; omega
theorem MP_85 {st : zS} {b : Nat → Nat} {n : Nat} (h : MP st b n) {j : Nat} (hj : 17 ≠ j) (v : Int32) : MP (m_up st 85 j v) b n := MP_e h (up_ne (by decide)) (up_nj hj)
theorem LD_n {b : Nat → Nat} {n i : Nat} (h : Lz b n i = true) : Dz b n i = false := bo_f fun z => by
  have h1 := Lz_i.mp h
  have h2 := Dz_i.mp z
  omega
theorem m_blanks (d : Nat) {b : Nat → Nat} {n : Nat} : ∀ k p (st : zS), p + k = n → MP st b n → st 85 18 = Int32.ofNat p → m_ev none (d + 1) 230 8 [some (.ref 85), none, none] [] (SH, st) = m_ev none (d + 1) 230 34 [some (.ref 85), none, none] [] (SH, m_up st 85 18 (Int32.ofNat (fz b n p)))
  | 0, p, st, e, h, h5 => by
    have e : p = n := e
    subst e
    have h2 := h.2.1
    rw [eX12_token_8, h5, m_byt d h h2, if_neg (by omega)]
    simp only [m_bd, Option.toList, List.cons_append, List.nil_append]
    rw [eX12_token_16, if_neg (by decide)]
    unfold fz
    rw [rz_f Bz_n, up_same h5]
  | k + 1, p, st, e, h, h5 => by
    have h2 := h.2.1
    have hp : p < n := by omega
    have hb := (h.2.2 p hp).2
    rw [eX12_token_8, h5, m_byt d h (by omega), if_pos hp]
    simp only [m_bd, Option.toList, List.cons_append, List.nil_append]
    rw [eX12_token_16]
    by_cases q : b p = 32
    · rw [if_pos (by rw [q]; rfl), h5, n_succ, m_blanks d k (p + 1) _ (by omega) (MP_85 h (by decide) _) (up_in _ _ _ _), up_up]
      have : fz b n p = fz b n (p + 1) := by unfold fz; exact rz_t (Bz_i.mpr ⟨hp, q⟩) (by omega)
      rw [this]
    · rw [if_neg (by rw [show (32 : Int32) = Int32.ofNat 32 from rfl, n_eq (by omega) (by omega)]; exact q)]
      have : fz b n p = p := by unfold fz; exact rz_f (bo_f (fun z => q (Bz_i.mp z).2))
      rw [this, up_same h5]
theorem m_toL (d : Nat) {b : Nat → Nat} {n : Nat} : ∀ k p (st : zS), p + k = n → MP st b n → st 85 19 = Int32.ofNat p → m_ev none (d + 2) 230 86 [some (.ref 85), some (.int 1), some (.int 0)] [] (SH, st) = some (none, (SH, m_up st 85 19 (Int32.ofNat (rz (Lz b n) p))))
  | 0, p, st, e, h, h5 => by
    have e : p = n := e
    subst e
    have h2 := h.2.1
    rw [eX12_token_86, if_neg i_10, h5, m_byt (d + 1) h h2]
    simp only [m_bd, Option.toList, List.cons_append, List.nil_append]
    rw [eX12_token_98, m_lt d h]
    simp only [m_bd, Option.toList, List.cons_append, List.nil_append]
    rw [eX12_token_101, bZ_if, if_neg (by rw [Lz_n]; decide), eX12_token_104, if_pos rfl, eX12_token_135, rz_f Lz_n, up_same h5]
  | k + 1, p, st, e, h, h5 => by
    have h2 := h.2.1
    have hp : p < n := by omega
    rw [eX12_token_86, if_neg i_10, h5, m_byt (d + 1) h (by omega)]
    simp only [m_bd, Option.toList, List.cons_append, List.nil_append]
    rw [eX12_token_98, m_lt d h]
    simp only [m_bd, Option.toList, List.cons_append, List.nil_append]
    rw [eX12_token_101, bZ_if]
    by_cases q : Lz b n p = true
    · rw [if_pos q, eX12_token_122, h5, n_succ, m_toL d k (p + 1) _ (by omega) (MP_85 h (by decide) _) (up_in _ _ _ _), up_up, rz_t q (by omega)]
    · rw [if_neg q, eX12_token_104, if_pos rfl, eX12_token_135, rz_f (bo_f q), up_same h5]
theorem m_toD (d : Nat) {b : Nat → Nat} {n : Nat} : ∀ k p (st : zS), p + k = n → MP st b n → st 85 19 = Int32.ofNat p → m_ev none (d + 2) 230 86 [some (.ref 85), some (.int 0), some (.int 1)] [] (SH, st) = some (none, (SH, m_up st 85 19 (Int32.ofNat (rz (Dz b n) p))))
  | 0, p, st, e, h, h5 => by
    have e : p = n := e
    subst e
    have h2 := h.2.1
    rw [eX12_token_86, if_pos rfl, eX12_token_104, if_neg i_10, h5, m_byt (d + 1) h h2]
    simp only [m_bd, Option.toList, List.cons_append, List.nil_append]
    rw [eX12_token_116, m_dg d h]
    simp only [m_bd, Option.toList, List.cons_append, List.nil_append]
    rw [eX12_token_119, bZ_if, if_neg (by rw [Dz_n]; decide), eX12_token_135, rz_f Dz_n, up_same h5]
  | k + 1, p, st, e, h, h5 => by
    have h2 := h.2.1
    have hp : p < n := by omega
    rw [eX12_token_86, if_pos rfl, eX12_token_104, if_neg i_10, h5, m_byt (d + 1) h (by omega)]
    simp only [m_bd, Option.toList, List.cons_append, List.nil_append]
    rw [eX12_token_116, m_dg d h]
    simp only [m_bd, Option.toList, List.cons_append, List.nil_append]
    rw [eX12_token_119, bZ_if]
    by_cases q : Dz b n p = true
    · rw [if_pos q, eX12_token_122, h5, n_succ, m_toD d k (p + 1) _ (by omega) (MP_85 h (by decide) _) (up_in _ _ _ _), up_up, rz_t q (by omega)]
    · rw [if_neg q, eX12_token_135, rz_f (bo_f q), up_same h5]
theorem m_tok (d : Nat) {st : zS} {b : Nat → Nat} {n p : Nat} (h : MP st b n) (hp : p ≤ n) (h5 : st 85 19 = Int32.ofNat p) : m_evc (d + 3) 230 [.ref 85] (SH, st) = some (none, (SH, m_up (m_up st 85 18 (Int32.ofNat (fz b n p))) 85 19 (Int32.ofNat (ez b n (fz b n p))))) := by
  have h2 := h.2.1
  have ha := fz_le (b := b) hp
  rw [cal_X12_token, eX12_token_0, h5, m_blanks (d + 1) (n - p) p _ (by omega) (MP_85 h (by decide) _) (up_in _ _ _ _), up_up]
  generalize fz b n p = a at ha ⊢
  have h1 : MP (m_up st 85 18 (Int32.ofNat a)) b n := MP_85 h (by decide) _
  have h19 : ∀ v w, m_up (m_up (m_up st 85 18 (Int32.ofNat a)) 85 19 v) 85 19 w = m_up (m_up st 85 18 (Int32.ofNat a)) 85 19 w := fun v w => up_up _ _ _ _ _
  rw [eX12_token_34, up_in, m_byt (d + 1) h1 (by omega)]
  simp only [m_bd, Option.toList, List.cons_append, List.nil_append]
  rw [eX12_token_42, m_lt d h]
  simp only [m_bd, Option.toList, List.cons_append, List.nil_append]
  rw [eX12_token_45, up_in, m_byt (d + 1) h1 (by omega)]
  simp only [m_bd, Option.toList, List.cons_append, List.nil_append]
  rw [eX12_token_54, m_dg d h]
  simp only [m_bd, Option.toList, List.cons_append, List.nil_append]
  rw [eX12_token_57, up_in, h1.1]
  by_cases q : a < n
  · have hM : MP (m_up (m_up st 85 18 (Int32.ofNat a)) 85 19 (Int32.ofNat (a + 1))) b n := MP_85 h1 (by decide) _
    rw [if_pos (by rw [n_lt (by omega) (by omega)]; exact q), eX12_token_83, n_succ]
    by_cases qL : Lz b n a = true
    · have ee : ez b n a = rz (Lz b n) a := by unfold ez; rw [if_pos qL]
      rw [bZ_t qL, bZ_f (by rw [LD_n qL]; decide), m_toL d (n - (a + 1)) (a + 1) _ (by omega) hM (up_in _ _ _ _), h19, ee, rz_t qL (by omega)]
    · by_cases qD : Dz b n a = true
      · have ee : ez b n a = rz (Dz b n) a := by unfold ez; rw [if_neg qL, if_pos qD]
        rw [bZ_t qD, bZ_f qL, m_toD d (n - (a + 1)) (a + 1) _ (by omega) hM (up_in _ _ _ _), h19, ee, rz_t qD (by omega)]
      · have ee : ez b n a = a + 1 := by unfold ez; rw [if_neg qL, if_neg qD, if_pos q]
        rw [bZ_f qD, bZ_f qL, eX12_token_86, if_pos rfl, eX12_token_104, if_pos rfl, eX12_token_135, ee]
  · have qL : ¬ Lz b n a = true := fun z => q (Lz_i.mp z).1
    have qD : ¬ Dz b n a = true := fun z => q (Dz_i.mp z).1
    have ee : ez b n a = a := by unfold ez; rw [if_neg qL, if_neg qD, if_neg q]
    rw [if_neg (by rw [n_lt (by omega) (by omega)]; exact q), eX12_token_79, up_in, eX12_token_83, bZ_f qD, bZ_f qL, eX12_token_86, if_pos rfl, eX12_token_104, if_pos rfl, eX12_token_135, ee]
/-- the model stands at a token, nothing is wrong -/
def MA (st : zS) (b : Nat → Nat) (n p : Nat) : Prop := MP st b n ∧ p ≤ n ∧ st 85 18 = Int32.ofNat (fz b n p) ∧ st 85 19 = Int32.ofNat (ez b n (fz b n p)) ∧ st 85 23 = 0
/-- something is wrong, at a place -/
def WR (st : zS) (b : Nat → Nat) (n a : Nat) : Prop := MP st b n ∧ a ≤ n ∧ st 85 18 = Int32.ofNat a ∧ (∃ e, e ≤ n ∧ st 85 19 = Int32.ofNat e) ∧ st 85 23 = 1
/-- only where the model stands has changed -/
def fZt (st st' : zS) : Prop := fr [85] st st' ∧ ∀ j, j ≠ 18 → j ≠ 19 → j ≠ 23 → st' 85 j = st 85 j
theorem fZt_t {a b c : zS} (h : fZt a b) (g : fZt b c) : fZt a c := ⟨fr_mono (fr_tr h.1 g.1) (by decide), fun j h1 h2 h3 => (g.2 j h1 h2 h3).trans (h.2 j h1 h2 h3)⟩
theorem fZt_0 (st : zS) : fZt st st := ⟨fr_refl _ _, fun _ _ _ _ => rfl⟩
theorem m_need1 (d : Nat) {st : zS} {b : Nat → Nat} {n p : Nat} (h : MA st b n p) : RT (m_evc (d + 4) 231 [.ref 85, .int 1] (SH, st)) none (fun st' => MA st' b n (ez b n (fz b n p)) ∧ fZt st st') := by
  obtain ⟨hM, hp, h18, h19, h23⟩ := h
  have le := ez_le (b := b) (fz_le (b := b) hp)
  refine ⟨m_up (m_up (m_up st 85 23 0) 85 18 (Int32.ofNat (fz b n (ez b n (fz b n p))))) 85 19 (Int32.ofNat (ez b n (fz b n (ez b n (fz b n p))))), ?_, ⟨MP_85 (MP_85 (MP_85 hM (by decide) _) (by decide) _) (by decide) _, le, ?_, ?_, ?_⟩, fr_up (fr_up (fr_up (fr_refl _ _) rfl) rfl) rfl, fun j j1 j2 j3 => ?_⟩
  · rw [cal_X12_needs, eX12_needs_0, h23, if_pos rfl, if_neg i_10, eX12_needs_16, eX12_needs_17, if_pos (Or.inl rfl), if_pos rfl, m_tok d (MP_85 hM (by decide) 0) le (by rw [up_nj (by decide)]; exact h19)]
    simp only [m_bd, Option.toList, List.cons_append, List.nil_append]
    rw [eX12_needs_31]
  · rw [up_nj (by decide), up_in]
  · rw [up_in]
  · rw [up_nj (by decide), up_nj (by decide), up_in]
  · rw [up_nj j2, up_nj j1, up_nj j3]
theorem m_need0 (d : Nat) {st : zS} {b : Nat → Nat} {n p : Nat} (h : MA st b n p) : RT (m_evc (d + 1) 231 [.ref 85, .int 0] (SH, st)) none (fun st' => WR st' b n (fz b n p) ∧ fZt st st') := by
  obtain ⟨hM, hp, h18, h19, h23⟩ := h
  refine ⟨m_up st 85 23 1, ?_, ⟨MP_85 hM (by decide) _, fz_le hp, ?_, ⟨_, ez_le (b := b) (fz_le (b := b) hp), ?_⟩, up_in _ _ _ _⟩, fr_up0 _ _ _ _, fun j j1 j2 j3 => up_nj j3⟩
  · rw [cal_X12_needs, eX12_needs_0, h23, if_pos rfl, if_pos rfl, eX12_needs_12, eX12_needs_17, if_pos (Or.inr rfl), if_neg i_10, eX12_needs_31]
  · rw [up_nj (by decide)]; exact h18
  · rw [up_nj (by decide)]; exact h19
theorem m_needW (d : Nat) {st : zS} {b : Nat → Nat} {n a : Nat} (h : WR st b n a) (v : Int32) : m_evc (d + 1) 231 [.ref 85, .int v] (SH, st) = some (none, (SH, st)) := by
  have h23 := h.2.2.2.2
  rw [cal_X12_needs, eX12_needs_0, h23, if_neg i_10, eX12_needs_12, eX12_needs_17, if_pos (Or.inr rfl), if_neg i_10, eX12_needs_31, up_same h23]
theorem l_int {m : Nat} (h : m < 9223372036854775808) : (Int64.ofNat m).toInt = (m : Int) := Int64.toInt_ofNat_of_lt h
theorem l_of {m : Nat} (h : m < 2147483648) : (Int32.ofNat m).toInt64 = Int64.ofNat m := by
  apply Int64.toInt_inj.mp
  rw [Int32.toInt_toInt64, n_int h, l_int (by omega)]
theorem l_gt {m : Nat} (h : m < 9223372036854775808) : ((36028797018963967 : Int64) < Int64.ofNat m) = (36028797018963967 < m) := by
  rw [Int64.lt_iff_toInt_lt, l_int h]
  have : (36028797018963967 : Int64).toInt = 36028797018963967 := rfl
  rw [this]; apply propext; omega
theorem l_eq {m c : Nat} (h : m < 9223372036854775808) (hc : c < 9223372036854775808) : (lg_cmp (Int64.ofNat m) (Int64.ofNat c) = 0) = (m = c) := by
  rw [lg_cmp_eq]
  apply propext
  constructor
  · intro z
    have := congrArg Int64.toInt z
    rw [l_int h, l_int hc] at this
    omega
  · intro z; rw [z]
theorem m_wloop (d : Nat) {st : zS} {b : Nat → Nat} {n a e : Nat} (h : MP st b n) (he : e ≤ n) (h19 : st 85 19 = Int32.ofNat e) : ∀ m k (v : Int64), k + m = e → a ≤ k → ((∀ i, i < e - a → 97 ≤ b (a + i) ∧ b (a + i) ≤ 122) → v = Int64.ofNat (wv b a (k - a))) → ∃ v' x, m_ev none d 232 7 [some (.ref 85), some (.long v), none, some (.int (Int32.ofNat k))] [] (SH, st) = m_ev none d 232 50 [some (.ref 85), some (.long v'), none, some (.int x)] [] (SH, st) ∧ ((∀ i, i < e - a → 97 ≤ b (a + i) ∧ b (a + i) ≤ 122) → v' = Int64.ofNat (wv b a (e - a)))
  | 0, k, v, hk, ha, hv => by
    have hn := h.2.1
    have hk : k = e := hk
    subst hk
    refine ⟨v, Int32.ofNat k, ?_, hv⟩
    rw [eX12_word_7, h19, if_neg (by rw [n_lt (by omega) (by omega)]; omega)]
  | m + 1, k, v, hk, ha, hv => by
    have hn := h.2.1
    have hkn : k < n := by omega
    have hM := h.2.2 k hkn
    rw [eX12_word_7, h19, if_pos (by rw [n_lt (by omega) (by omega)]; omega)]
    by_cases q : 0 < lg_cmp v 36028797018963967
    · rw [if_pos q, eX12_word_43, n_succ]
      refine m_wloop d h he h19 m (k + 1) v (by omega) (by omega) fun hl => ?_
      have tp := wv_top (b := b) (a := a) (k - a) (fun i hi => (hl i (by omega)).2)
      have ev := hv hl
      rw [ev, lg_cmp_gt, l_gt (by omega)] at q
      rw [ev, show k + 1 - a = (k - a) + 1 by omega]
      show _ = Int64.ofNat (if 36028797018963967 < wv b a (k - a) then wv b a (k - a) else 32 * wv b a (k - a) + (b (a + (k - a)) - 96))
      rw [if_pos q]
    · rw [if_neg q, eX12_word_27, ix_200 (by omega), ob_s, eX12_word_43, n_succ]
      refine m_wloop d h he h19 m (k + 1) _ (by omega) (by omega) fun hl => ?_
      have tp := wv_top (b := b) (a := a) (k - a) (fun i hi => (hl i (by omega)).2)
      have ev := hv hl
      have hb := hl (k - a) (by omega)
      rw [show a + (k - a) = k by omega] at hb
      rw [ev, lg_cmp_gt, l_gt (by omega)] at q
      rw [ev, show k + 1 - a = (k - a) + 1 by omega]
      show _ = Int64.ofNat (if 36028797018963967 < wv b a (k - a) then wv b a (k - a) else 32 * wv b a (k - a) + (b (a + (k - a)) - 96))
      rw [if_neg q, show a + (k - a) = k by omega, hM.1, show (96 : Int32) = Int32.ofNat 96 from rfl, n_sub (by omega), l_of (by omega), show (32 : Int64) = Int64.ofNat 32 from rfl, Int64.ofNat_add, Int64.ofNat_mul]
theorem m_wloop0 (d : Nat) {st : zS} {b : Nat → Nat} {n a e : Nat} (h : MP st b n) (he : e ≤ n) (ha : a ≤ n) (h19 : st 85 19 = Int32.ofNat e) : ∃ v' x, m_ev none d 232 7 [some (.ref 85), some (.long 0), none, some (.int (Int32.ofNat a))] [] (SH, st) = m_ev none d 232 50 [some (.ref 85), some (.long v'), none, some (.int x)] [] (SH, st) ∧ ((∀ i, i < e - a → 97 ≤ b (a + i) ∧ b (a + i) ≤ 122) → v' = Int64.ofNat (wv b a (e - a))) := by
  by_cases q : a ≤ e
  · exact m_wloop d h he h19 (e - a) a 0 (by omega) (Nat.le_refl a) fun _ => by rw [show a - a = 0 by omega]; rfl
  · have hn := h.2.1
    refine ⟨0, Int32.ofNat a, ?_, fun _ => by rw [show e - a = 0 by omega]; rfl⟩
    rw [eX12_word_7, h19, if_neg (by rw [n_lt (by omega) (by omega)]; omega)]
theorem m_wordA (d : Nat) {st : zS} {b : Nat → Nat} {n p : Nat} (h : MA st b n p) : m_evc (d + 4) 232 [.ref 85] (SH, st) = some (some (.long (Int64.ofNat (wd (tk b n (fz b n p))))), (SH, st)) := by
  obtain ⟨hM, hp, h18, h19, h23⟩ := h
  have ha := fz_le (b := b) hp
  have hn := hM.2.1
  obtain ⟨v, x, e1, hv⟩ := m_wloop0 (d + 3) hM (ez_le (b := b) ha) ha h19
  rw [cal_X12_word, eX12_word_0, h18, e1, eX12_word_50, h23, if_pos rfl, h18, m_byt (d + 2) hM (by omega)]
  simp only [m_bd, Option.toList, List.cons_append, List.nil_append]
  rw [eX12_word_65, m_lt (d + 1) hM]
  simp only [m_bd, Option.toList, List.cons_append, List.nil_append]
  rw [eX12_word_68, bZ_if]
  by_cases q : Lz b n (fz b n p) = true
  · have et : tk b n (fz b n p) = (0, wv b (fz b n p) (ez b n (fz b n p) - fz b n p)) := by unfold tk; rw [if_pos q]
    rw [if_pos q, eX12_word_75, eX12_word_76, hv (tk_let (by rw [et])), et]
    rfl
  · have et : wd (tk b n (fz b n p)) = 0 := by
      unfold wd
      rw [if_neg]
      intro z
      exact q (tk_L z).1
    rw [if_neg q, eX12_word_71, eX12_word_76, et]
    rfl
theorem m_wordW (d : Nat) {st : zS} {b : Nat → Nat} {n a : Nat} (h : WR st b n a) : m_evc (d + 1) 232 [.ref 85] (SH, st) = some (some (.long (Int64.ofNat 0)), (SH, st)) := by
  obtain ⟨hM, ha, h18, ⟨e, he, h19⟩, h23⟩ := h
  obtain ⟨v, x, e1, hv⟩ := m_wloop0 d hM he ha h19
  rw [cal_X12_word, eX12_word_0, h18, e1, eX12_word_50, h23, if_neg i_10, eX12_word_71, eX12_word_76]
  rfl
theorem wd_top {b : Nat → Nat} {n a : Nat} : wd (tk b n a) < 9223372036854775808 := by
  unfold wd
  by_cases q : (tk b n a).1 = 0
  · rw [if_pos q, (tk_L q).2.2]
    have := wv_top (b := b) (a := a) (ez b n a - a) (fun i hi => (tk_let q i hi).2)
    omega
  · rw [if_neg q]; omega
def fcd (w : Nat) : Int32 := if w = 4153 then -1 else if w = 763332 then -2 else if w = 1156 then -3 else if w = 4370489 then -4 else if w = 13938867 then -5 else if w = 492210354 then -6 else 0
theorem m_kindw (d : Nat) {st : zS} {w : Nat} (hw : w < 9223372036854775808) (e : m_evc d 232 [.ref 85] (SH, st) = some (some (.long (Int64.ofNat w)), (SH, st))) : m_evc (d + 1) 234 [.ref 85] (SH, st) = some (some (.int (fdx NK 0 w)), (SH, st)) := by
  rw [cal_X12_kindHere, eX12_kindHere_0, e]
  simp only [m_bd, Option.toList, List.cons_append, List.nil_append]
  have k1 : (lg_cmp (Int64.ofNat w) 792022234158 = 0) = (w = 792022234158) := l_eq (c := 792022234158) hw (by omega)
  have k2 : (lg_cmp (Int64.ofNat w) 17171758 = 0) = (w = 17171758) := l_eq (c := 17171758) hw (by omega)
  have k3 : (lg_cmp (Int64.ofNat w) 17383076 = 0) = (w = 17383076) := l_eq (c := 17383076) hw (by omega)
  have k4 : (lg_cmp (Int64.ofNat w) 4806091 = 0) = (w = 4806091) := l_eq (c := 4806091) hw (by omega)
  have k5 : (lg_cmp (Int64.ofNat w) 441913522 = 0) = (w = 441913522) := l_eq (c := 441913522) hw (by omega)
  have k6 : (lg_cmp (Int64.ofNat w) 20809171122 = 0) = (w = 20809171122) := l_eq (c := 20809171122) hw (by omega)
  show _ = some (some (Value.int (if w = 792022234158 then 0 else if w = 17171758 then 1 else if w = 17383076 then 2 else if w = 4806091 then 3 else if w = 441913522 then 4 else if w = 20809171122 then 5 else -1)), (SH, st))
  rw [eX12_kindHere_4]
  simp only [k1]
  by_cases q : w = 792022234158
  · rw [if_pos q, if_pos q, eX12_kindHere_78]
  rw [if_neg q, if_neg q, eX12_kindHere_17]
  simp only [k2]
  by_cases q : w = 17171758
  · rw [if_pos q, if_pos q, eX12_kindHere_78]
  rw [if_neg q, if_neg q, eX12_kindHere_29]
  simp only [k3]
  by_cases q : w = 17383076
  · rw [if_pos q, if_pos q, eX12_kindHere_78]
  rw [if_neg q, if_neg q, eX12_kindHere_41]
  simp only [k4]
  by_cases q : w = 4806091
  · rw [if_pos q, if_pos q, eX12_kindHere_78]
  rw [if_neg q, if_neg q, eX12_kindHere_53]
  simp only [k5]
  by_cases q : w = 441913522
  · rw [if_pos q, if_pos q, eX12_kindHere_78]
  rw [if_neg q, if_neg q, eX12_kindHere_65]
  simp only [k6]
  by_cases q : w = 20809171122
  · rw [if_pos q, if_pos q, eX12_kindHere_78]
  rw [if_neg q, if_neg q, eX12_kindHere_77, eX12_kindHere_78]
theorem m_factw (d : Nat) {st : zS} {w : Nat} (hw : w < 9223372036854775808) (e : m_evc d 232 [.ref 85] (SH, st) = some (some (.long (Int64.ofNat w)), (SH, st))) : m_evc (d + 1) 235 [.ref 85] (SH, st) = some (some (.int (fcd w)), (SH, st)) := by
  rw [cal_X12_factHere, eX12_factHere_0, e]
  simp only [m_bd, Option.toList, List.cons_append, List.nil_append]
  have k1 : (lg_cmp (Int64.ofNat w) 4153 = 0) = (w = 4153) := l_eq (c := 4153) hw (by omega)
  have k2 : (lg_cmp (Int64.ofNat w) 763332 = 0) = (w = 763332) := l_eq (c := 763332) hw (by omega)
  have k3 : (lg_cmp (Int64.ofNat w) 1156 = 0) = (w = 1156) := l_eq (c := 1156) hw (by omega)
  have k4 : (lg_cmp (Int64.ofNat w) 4370489 = 0) = (w = 4370489) := l_eq (c := 4370489) hw (by omega)
  have k5 : (lg_cmp (Int64.ofNat w) 13938867 = 0) = (w = 13938867) := l_eq (c := 13938867) hw (by omega)
  have k6 : (lg_cmp (Int64.ofNat w) 492210354 = 0) = (w = 492210354) := l_eq (c := 492210354) hw (by omega)
  unfold fcd
  rw [eX12_factHere_4]
  simp only [k1]
  by_cases q : w = 4153
  · rw [if_pos q, if_pos q, eX12_factHere_83]
  rw [if_neg q, if_neg q, eX12_factHere_17]
  simp only [k2]
  by_cases q : w = 763332
  · rw [if_pos q, if_pos q, eX12_factHere_83]
  rw [if_neg q, if_neg q, eX12_factHere_30]
  simp only [k3]
  by_cases q : w = 1156
  · rw [if_pos q, if_pos q, eX12_factHere_83]
  rw [if_neg q, if_neg q, eX12_factHere_43]
  simp only [k4]
  by_cases q : w = 4370489
  · rw [if_pos q, if_pos q, eX12_factHere_83]
  rw [if_neg q, if_neg q, eX12_factHere_56]
  simp only [k5]
  by_cases q : w = 13938867
  · rw [if_pos q, if_pos q, eX12_factHere_83]
  rw [if_neg q, if_neg q, eX12_factHere_69]
  simp only [k6]
  by_cases q : w = 492210354
  · rw [if_pos q, if_pos q, eX12_factHere_83]
  rw [if_neg q, if_neg q, eX12_factHere_82, eX12_factHere_83]
