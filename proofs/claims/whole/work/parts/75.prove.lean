/-! CALLS: prove -/
theorem chain (P : Nat → Bool) : ∀ cap : Nat, (∀ j, j + 1 < cap → P (j + 1) = true → P j = true) → ∃ M, M ≤ cap ∧ ∀ j, j < cap → (P j = true ↔ j < M)
  | 0, _ => ⟨0, Nat.le_refl _, fun j hj => by omega⟩
  | cap + 1, h => by
    obtain ⟨M, h1, h2⟩ := chain P cap (fun j hj => h j (by omega))
    by_cases q : M = cap ∧ P cap = true
    · obtain ⟨q1, q2⟩ := q
      refine ⟨cap + 1, Nat.le_refl _, fun j hj => ?_⟩
      by_cases z : j = cap
      · subst z; exact ⟨fun _ => hj, fun _ => q2⟩
      · exact ⟨fun _ => hj, fun _ => (h2 j (by omega)).mpr (by omega)⟩
    · refine ⟨M, by omega, fun j hj => ?_⟩
      by_cases z : j = cap
      · subst z
        have : ¬ P j = true := fun hp => by
          by_cases q3 : M = j
          · exact q ⟨q3, hp⟩
          · cases j with
            | zero => omega
            | succ i =>
              have := (h2 i (by omega)).mp (h i (by omega) hp)
              omega
        exact ⟨fun hp => absurd hp this, fun hl => by omega⟩
      · exact h2 j (by omega)
theorem cnt_gen {f : Nat → cH} {n lo hi : Nat} (h : ∀ k, k < n → ((f k).isSome = true ↔ lo ≤ k ∧ k < hi)) (hh : hi ≤ n) : ∀ m j c, j + m = n → lp (cntF f) m j (Int32.ofNat c) = Int32.ofNat (c + (hi - (if lo ≤ j then j else lo)))
  | 0, j, c, e => by
    show Int32.ofNat c = _
    rw [show c + (hi - (if lo ≤ j then j else lo)) = c by split <;> omega]
  | m + 1, j, c, e => by
    show lp (cntF f) m (j + 1) (cntF f j (Int32.ofNat c)) = _
    have hj := h j (by omega)
    unfold cntF
    cases q : f j with
    | none =>
      rw [q] at hj
      have hn : ¬ (lo ≤ j ∧ j < hi) := fun z => by have := hj.mpr z; cases this
      show lp (cntF f) m (j + 1) (Int32.ofNat c) = _
      rw [cnt_gen h hh m (j + 1) c (by omega)]
      congr 1
      split <;> split <;> omega
    | some ch =>
      rw [q] at hj
      have hn := hj.mp rfl
      show lp (cntF f) m (j + 1) (Int32.ofNat c + 1) = _
      rw [n_succ, cnt_gen h hh m (j + 1) (c + 1) (by omega)]
      congr 1
      split <;> split <;> omega
theorem cnt_of {f : Nat → cH} {n lo hi : Nat} (h : ∀ k, k < n → ((f k).isSome = true ↔ lo ≤ k ∧ k < hi)) (hh : hi ≤ n) : lp (cntF f) n 0 0 = Int32.ofNat (hi - lo) := by
  have := cnt_gen h hh n 0 0 (by omega)
  rw [show (0 : Int32) = Int32.ofNat 0 from rfl, this]
  congr 1
  split <;> omega
/-- the tower that a one-way cry comes to after so many -/
def tw (w : Int32) (fm j : Nat) : Nat := if w = 0 then fm - j else fm + j
def tcap (s : Nat → Int32) (w : Int32) (fm : Nat) : Nat := if w = 0 then fm + 1 else tn s - fm
theorem est_chain {s : Nat → Int32} {fm : Nat} {t : Int32} {j : Nat} (h : (est s fm t (j + 1)).isSome = true) : (est s fm t j).isSome = true := by
  unfold est at h
  cases q : est s fm t j with
  | none => rw [q] at h; exact h
  | some ch => rfl
theorem wes_chain {s : Nat → Int32} {fm : Nat} {t : Int32} {j : Nat} (h : (wes s fm t (fm + (j + 1))).isSome = true) : (wes s fm t (fm + j)).isSome = true := by
  unfold wes at h ⊢
  rw [show fm + (j + 1) = (fm + j) + 1 by omega] at h
  unfold wst at h
  rw [if_neg (by rw [isb_lt (by omega)]; decide)] at h
  cases q : wst s (isb fm) nob t (fm + j) with
  | none => rw [q] at h; exact h
  | some ch => rfl
theorem onw_far {s : Nat → Int32} {fm : Nat} (hf : fm < tn s) {t w : Int32} (hw : w = 0 ∨ w = 1) : ∃ M, 0 < M ∧ M ≤ tcap s w fm ∧ (∀ j, j < tcap s w fm → ((onw s fm t w (tw w fm j)).isSome = true ↔ j < M)) ∧ lp (cntF (onw s fm t w)) (tn s) 0 0 = Int32.ofNat M := by
  rcases hw with rfl | rfl
  · have e : ∀ j, j < fm + 1 → onw s fm t 0 (fm - j) = est s fm t j := fun j hj => by
      unfold onw
      rw [if_pos rfl]
      unfold eas
      rw [if_pos (by omega), show fm - (fm - j) = j by omega]
    obtain ⟨M, h1, h2⟩ := chain (fun j => (est s fm t j).isSome) (fm + 1) (fun j _ h => est_chain h)
    have hM : 0 < M := (h2 0 (by omega)).mp rfl
    refine ⟨M, hM, h1, fun j hj => ?_, ?_⟩
    · have hj : j < fm + 1 := hj
      show (onw s fm t 0 (fm - j)).isSome = true ↔ _
      rw [e j hj]; exact h2 j hj
    · rw [cnt_of (lo := fm + 1 - M) (hi := fm + 1) (fun k hk => ?_) (by omega)]
      · congr 1; omega
      · by_cases q : k ≤ fm
        · have := e (fm - k) (by omega)
          rw [show fm - (fm - k) = k by omega] at this
          rw [this]
          have h3 := h2 (fm - k) (by omega)
          exact ⟨fun z => by have := h3.mp z; omega, fun z => h3.mpr (by omega)⟩
        · unfold onw
          rw [if_pos rfl]
          unfold eas
          rw [if_neg q]
          exact ⟨(fun z => by cases z), fun z => by omega⟩
  · have e : ∀ j, onw s fm t 1 (fm + j) = wes s fm t (fm + j) := fun j => by
      unfold onw
      rw [if_neg i_10]
    obtain ⟨M, h1, h2⟩ := chain (fun j => (wes s fm t (fm + j)).isSome) (tn s - fm) (fun j _ h => wes_chain h)
    have h00 : (wes s fm t (fm + 0)).isSome = true := by
      unfold wes
      rw [Nat.add_zero]
      cases fm with
      | zero => unfold wst; rw [if_pos (isb_at 0)]; rfl
      | succ i => unfold wst; rw [if_pos (isb_at (i + 1))]; rfl
    have hM : 0 < M := (h2 0 (by omega)).mp h00
    refine ⟨M, hM, h1, fun j hj => ?_, ?_⟩
    · have hj : j < tn s - fm := hj
      show (onw s fm t 1 (fm + j)).isSome = true ↔ _
      rw [e j]; exact h2 j hj
    · rw [cnt_of (lo := fm) (hi := fm + M) (fun k hk => ?_) (by omega)]
      · congr 1; omega
      · by_cases q : fm ≤ k
        · have := e (k - fm)
          rw [show fm + (k - fm) = k by omega] at this
          rw [this]
          have h3 := h2 (k - fm) (by omega)
          rw [show fm + (k - fm) = k by omega] at h3
          exact ⟨fun z => by have := h3.mp z; omega, fun z => h3.mpr (by omega)⟩
        · unfold onw
          rw [if_neg i_10]
          unfold wes
          rw [wes_lo k (by omega)]
          exact ⟨(fun z => by cases z), fun z => by omega⟩
theorem tw_lt {s : Nat → Int32} {fm : Nat} (hf : fm < tn s) {w : Int32} {j : Nat} (hj : j < tcap s w fm) : tw w fm j < tn s := by
  unfold tcap at hj
  unfold tw
  split at hj
  · rw [if_pos (by assumption)]; omega
  · rw [if_neg (by assumption)]; omega
theorem tcap_9 {s : Nat → Int32} (h9 : tn s ≤ 9) {fm : Nat} (hf : fm < tn s) {w : Int32} : tcap s w fm ≤ 9 := by
  unfold tcap; split <;> omega
theorem n_sub {a b : Nat} (h : b ≤ a) : Int32.ofNat a - Int32.ofNat b = Int32.ofNat (a - b) := (Int32.ofNat_sub _ _ h).symm
/-- where the model's loop stands after so many -/
def twI (w : Int32) (fm j : Nat) : Int32 := if w = 0 then (if j ≤ fm then Int32.ofNat (fm - j) else -1) else Int32.ofNat (fm + j)
theorem twI_in {s : Nat → Int32} {fm : Nat} {w : Int32} {j : Nat} (hj : j < tcap s w fm) : twI w fm j = Int32.ofNat (tw w fm j) := by
  unfold tcap at hj
  unfold twI tw
  split at hj
  · rename_i hw
    rw [if_pos hw, if_pos hw, if_pos (by omega)]
  · rename_i hw
    rw [if_neg hw, if_neg hw]
theorem twI_out {s : Nat → Int32} {fm : Nat} (hf : fm < tn s) (h9 : tn s ≤ 9) {w : Int32} : ¬ gT s (twI w fm (tcap s w fm)) := by
  unfold tcap twI
  split
  · rw [if_neg (by omega)]
    intro z
    exact absurd z.1 (by decide)
  · intro z
    have := z.2
    rw [n_int (by omega)] at this
    omega
theorem twI_s0 {fm j : Nat} (hj : j ≤ fm) : Int32.ofNat (fm - j) - 1 = twI 0 fm (j + 1) := by
  unfold twI
  rw [if_pos rfl]
  by_cases q : j + 1 ≤ fm
  · rw [if_pos q, show fm - j = (fm - (j + 1)) + 1 by omega, n_pred]
  · rw [if_neg q, show fm - j = 0 by omega]; rfl
theorem gT_at {s : Nat → Int32} {k : Nat} (h : k < tn s) (h9 : tn s ≤ 9) : gT s (Int32.ofNat k) := by
  show 0 ≤ (Int32.ofNat k).toInt ∧ (Int32.ofNat k).toInt < (tn s : Int)
  rw [n_int (by omega)]
  omega
theorem r_prove (x t w : Int32) (hw : w = 0 ∨ w = 1) : lw_C Rel 131 220 [.int x, .int t, .int w] := by
  intro st hR
  obtain ⟨hN, hV, h7, e0⟩ := Rel_x hR
  have h9 := hV.1.2
  by_cases h : gT (st 86) x ∧ TG t
  · obtain ⟨fm, hf, rfl⟩ := gT_e h.1
    have hb := fb_onw hV hf h.2 w
    obtain ⟨M, hM0, hM, hP, hC⟩ := onw_far (t := t) hf hw
    have hc9 := tcap_9 h9 hf (w := w)
    have twl : ∀ j, j < M → tw w fm j < tn (st 86) := fun j hj => tw_lt hf (by omega)
    obtain ⟨a, ea, fa, Da, ra⟩ := s_cryO 2039 st hN hV h7 h.2 hf w
    have ra : rp (-9) (a 47) (a 48) (onw (st 86) fm t w) (tn (st 86)) := ra
    have enb : a 1 0 = Int32.ofNat (tn (st 86)) := by rw [fa 1 rfl, e0]; exact hV.1.1
    have La := lp_inv (fun j (c : zS × Option Value) => m_ev none 2046 131 32 [some (.ref 0), some (.int (Int32.ofNat fm)), some (.int t), some (.int w), some (.int (Int32.ofNat j)), c.2] [] (SH, c.1)) (fun j c => fr [57, 58, 59, 60, 61, 62, 63, 64, 65] (m_up a 0 8 (Int32.ofNat M)) c.1 ∧ ∀ i, i < j → c.1 (57 + i) 0 = Int32.ofNat (tw w fm i) ∧ c.1 (57 + i) 1 = a 47 (tw w fm i) ∧ c.1 (57 + i) 2 = a 48 (tw w fm i)) M ?_ M 0 (m_up a 0 8 (Int32.ofNat M), none) (by omega) ⟨fr_refl _ _, fun i hi => by omega⟩
    · obtain ⟨⟨b, b5⟩, eb, fb1, gb⟩ := La
      have fb1 : fr [57, 58, 59, 60, 61, 62, 63, 64, 65] (m_up a 0 8 (Int32.ofNat M)) b := fb1
      have gb : ∀ i, i < M → b (57 + i) 0 = Int32.ofNat (tw w fm i) ∧ b (57 + i) 1 = a 47 (tw w fm i) ∧ b (57 + i) 2 = a 48 (tw w fm i) := gb
      have b08 : b 0 8 = Int32.ofNat M := by rw [fb1 0 rfl, up_in]
      have EX : m_evc 2047 131 [.ref 0, .int (Int32.ofNat fm), .int t, .int w] (SH, st) = some (some (.int (Int32.ofNat M)), (SH, b)) := by
        rw [cal_X11_prove 2046, eX11_prove_0, s_isCry 2044 st e0 hV.1, bZ_t h]
        simp only [m_bd, Option.toList, List.cons_append, List.nil_append]
        rw [eX11_prove_6, if_neg i_10, eX11_prove_11, ea]
        simp only [m_bd, Option.toList, List.cons_append, List.nil_append]
        rw [eX11_prove_18, ya_cnt 2044 a enb h9 ra hb, hC]
        simp only [m_bd, Option.toList, List.cons_append, List.nil_append]
        rw [eX11_prove_26]
        refine Eq.trans eb ?_
        show m_ev none 2046 131 32 [some (.ref 0), some (.int (Int32.ofNat fm)), some (.int t), some (.int w), some (.int (Int32.ofNat M)), b5] [] (SH, b) = _
        rw [eX11_prove_32, b08, if_neg (by rw [n_lt (by omega) (by omega)]; omega), eX11_prove_125, b08]
      -- the model
      have b86 : b 86 = st 86 := by rw [fb1 86 rfl, up_ne (by decide), fa 86 rfl]
      obtain ⟨c, ec, fc, gc⟩ := s_quiets 2045 b
      have c86 : c 86 = st 86 := by rw [fc 86 rfl, b86]
      obtain ⟨e, ee, fe, re⟩ := m_one 2040 (st := c) (by rw [c86]; exact hV) (t := t) (fm := fm) (by rw [c86]; exact hf) hw gc
      rw [c86] at re
      have e86 : e 86 = st 86 := by rw [fe.1 86 rfl, c86]
      have Lm := lp_inv (fun j (g : zS) => m_ev none 2046 220 38 [some (.ref 85), some (.int (Int32.ofNat fm)), some (.int t), some (.int w), some (.int (twI w fm j))] [] (SH, g)) (fun j g => fr [85, 93] e g ∧ (∀ i, i ≠ 15 → g 85 i = e 85 i) ∧ g 85 15 = Int32.ofNat j ∧ ∀ i, i < j → g 93 (3 * i + 0) = Int32.ofNat (tw w fm i) ∧ g 93 (3 * i + 1) = e 90 (tw w fm i) ∧ g 93 (3 * i + 2) = e 91 (tw w fm i)) M ?_ M 0 (m_up e 85 15 0) (by omega) ⟨fr_up (fr_refl _ _) rfl, fun i hi => up_nj hi, up_in _ _ _ _, fun i hi => by omega⟩
      · obtain ⟨g, eg, fg, sg, ng, hg⟩ := Lm
        have g86 : g 86 = st 86 := by rw [fg 86 rfl, e86]
        refine ⟨Int32.ofNat M, b, g, EX, ?_, ?_⟩
        · rw [cal_X12_prove 2046, eX12_prove_0, s_isTM0 2044 b (by rw [b86]; exact hV), b86, bZ_t h.1]
          simp only [m_bd, Option.toList, List.cons_append, List.nil_append]
          rw [eX12_prove_5, if_neg i_10, s_isTM 2044, bZ_t h.2]
          simp only [m_bd, Option.toList, List.cons_append, List.nil_append]
          rw [eX12_prove_12, if_neg i_10, eX12_prove_17, ec]
          simp only [m_bd, Option.toList, List.cons_append, List.nil_append]
          rw [eX12_prove_21, ee]
          simp only [m_bd, Option.toList, List.cons_append, List.nil_append]
          rw [eX12_prove_30, show Int32.ofNat fm = twI w fm 0 by
            unfold twI; split
            · rw [if_pos (by omega)]; rfl
            · rfl]
          refine Eq.trans (by rw [show twI w fm 0 = Int32.ofNat fm by
            unfold twI; split
            · rw [if_pos (by omega)]; rfl
            · rfl]) (Eq.trans eg ?_)
          show m_ev none 2046 220 38 [some (.ref 85), some (.int (Int32.ofNat fm)), some (.int t), some (.int w), some (.int (twI w fm M))] [] (SH, g) = _
          rw [eX12_prove_38, s_isTM0 2044 g (by rw [g86]; exact hV), g86]
          simp only [m_bd, Option.toList, List.cons_append, List.nil_append]
          rw [eX12_prove_44, bZ_if]
          by_cases q : M = tcap (st 86) w fm
          · rw [if_neg (by rw [q]; exact twI_out hf h9), eX12_prove_140, ng]
          · have hl := tw_lt hf (w := w) (show M < tcap (st 86) w fm by omega)
            have rg : rp (-1) (g 90) (g 91) (onw (st 86) fm t w) (tn (st 86)) := by rw [fg 90 rfl, fg 91 rfl]; exact re
            have ho : onw (st 86) fm t w (tw w fm M) = none := by
              cases hq : onw (st 86) fm t w (tw w fm M) with
              | none => rfl
              | some ch =>
                have := (hP M (by omega)).mp (by rw [hq]; rfl)
                omega
            rw [twI_in (s := st 86) (by omega), if_pos (gT_at hl h9), ix_9 (show tw w fm M < 9 by omega), ob_s, if_pos ((rp_neg rg hb hl).mpr ho), eX12_prove_140, ng]
        · have fab : fr [17, 44, 45, 46, 47, 48, 0, 57, 58, 59, 60, 61, 62, 63, 64, 65] st b := fr_mono (fr_tr (fr_up (cs := [17, 44, 45, 46, 47, 48, 0]) (fr_mono fa (by decide)) rfl) fb1) (by decide)
          have all := fr_tr (fr_tr (fr_tr fab fc) fe.1) fg
          have z0 : ∀ i, i ≠ 8 → g 0 i = st 0 i := fun i hi => by
            rw [fg 0 rfl, fe.1 0 rfl, fc 0 rfl, fb1 0 rfl, up_nj hi, fa 0 rfl]
          have z85 : ∀ i, i ≠ 15 → i ≠ 5 → i ≠ 6 → g 85 i = st 85 i := fun i h1 h2 h3 => by
            rw [sg i h1, fe.2 i h2 h3, fc 85 rfl, fab 85 rfl]
          refine Rel_rows hR ⟨fr_mono all (by decide), z0 2 (by decide), z85 3 (by decide) (by decide) (by decide), z85 17 (by decide) (by decide) (by decide), z85 31 (by decide) (by decide) (by decide)⟩ ?_
          have g08 : g 0 8 = Int32.ofNat M := by rw [fg 0 rfl, fe.1 0 rfl, fc 0 rfl, b08]
          unfold Rrows
          rw [g08, ng, n_nat (by omega)]
          refine ⟨rfl, rfl, by omega, fun i hi u hu => ?_⟩
          have gr : g (57 + i) = b (57 + i) := by
            have i9 : i < 9 := by omega
            rw [fg _ (by simp; omega), fe.1 _ (by simp; omega), fc _ (by simp; omega)]
          obtain ⟨k0, k1, k2⟩ := gb i hi
          obtain ⟨m0, m1, m2⟩ := hg i hi
          have hl := twl i hi
          have hs := (hP i (by omega)).mpr hi
          cases hq : onw (st 86) fm t w (tw w fm i) with
          | none => rw [hq] at hs; cases hs
          | some ch =>
            obtain ⟨w1, w2⟩ := rp_at ra hl (c := ch.1) (g := ch.2) hq
            obtain ⟨v1, v2⟩ := rp_at re hl (c := ch.1) (g := ch.2) hq
            rw [gr]
            have hu3 : u = 0 ∨ u = 1 ∨ u = 2 := by omega
            rcases hu3 with rfl | rfl | rfl
            · rw [k0, m0]
            · rw [k1, m1, w1, v1]
            · rw [k2, m2, w2, v2]
      · rintro j g hj ⟨fg, sg, ng, hg⟩
        have g86 : g 86 = st 86 := by rw [fg 86 rfl, e86]
        have hl := twl j hj
        have rg : rp (-1) (g 90) (g 91) (onw (st 86) fm t w) (tn (st 86)) := by rw [fg 90 rfl, fg 91 rfl]; exact re
        have hs := (hP j (by omega)).mpr hj
        have ho : ¬ onw (st 86) fm t w (tw w fm j) = none := fun z => by rw [z] at hs; cases hs
        have q0 : m_ix (3 * g 85 15) 27 = some (3 * j + 0) := by
          rw [ng, show (3 : Int32) = Int32.ofNat 3 from rfl, n_mul]
          exact ix_n (by omega) (by omega)
        have q1 : m_ix (3 * g 85 15 + 1) 27 = some (3 * j + 1) := by rw [ng]; exact ix_Q (w := 1) (by omega) (by omega)
        have q2 : m_ix (3 * g 85 15 + 2) 27 = some (3 * j + 2) := by rw [ng]; exact ix_Q (w := 2) (by omega) (by omega)
        refine ⟨m_up (m_up (m_up (m_up g 93 (3 * j + 0) (Int32.ofNat (tw w fm j))) 93 (3 * j + 1) (g 90 (tw w fm j))) 93 (3 * j + 2) (g 91 (tw w fm j))) 85 15 (Int32.ofNat (j + 1)), ?_, fr_up (fr_up (fr_up (fr_up fg rfl) rfl) rfl) rfl, fun i hi => ?_, up_in _ _ _ _, fun i hi => ?_⟩
        · show m_ev none 2046 220 38 [some (.ref 85), some (.int (Int32.ofNat fm)), some (.int t), some (.int w), some (.int (twI w fm j))] [] (SH, g) = _
          rw [eX12_prove_38, s_isTM0 2044 g (by rw [g86]; exact hV), g86, twI_in (s := st 86) (by omega)]
          simp only [m_bd, Option.toList, List.cons_append, List.nil_append]
          rw [eX12_prove_44, bZ_if, if_pos (gT_at hl h9), ix_9 (show tw w fm j < 9 by omega), ob_s, if_neg (fun z => ho ((rp_neg rg hb hl).mp z)), q0, q1, q2]
          simp only [ob_s]
          rw [ng, n_succ]
          rcases hw with rfl | rfl
          · rw [if_pos rfl, eX12_prove_131, eX12_prove_135]
            have : j ≤ fm := by
              have : tcap (st 86) 0 fm = fm + 1 := rfl
              omega
            show m_ev none 2046 220 38 [_, _, _, _, some (.int (Int32.ofNat (fm - j) - 1))] [] _ = _
            rw [twI_s0 this]
          · rw [if_neg i_10, eX12_prove_135]
            show m_ev none 2046 220 38 [_, _, _, _, some (.int (Int32.ofNat (fm + j) + 1))] [] _ = m_ev none 2046 220 38 [_, _, _, _, some (.int (Int32.ofNat (fm + (j + 1))))] [] _
            rw [n_succ]; rfl
        · rw [up_nj hi, up_ne (by decide), up_ne (by decide), up_ne (by decide)]; exact sg i hi
        · rw [up_ne (show 93 ≠ 85 by decide)]
          by_cases z : i = j
          · subst z
            rw [up_nj (by omega), up_nj (by omega), up_in, up_nj (by omega), up_in, up_in, fg 90 rfl, fg 91 rfl]
            exact ⟨rfl, rfl, rfl⟩
          · rw [up_nj (by omega), up_nj (by omega), up_nj (by omega), up_nj (by omega), up_nj (by omega), up_nj (by omega), up_nj (by omega), up_nj (by omega), up_nj (by omega)]
            exact hg i (by omega)
    · rintro j ⟨c, c5⟩ hj ⟨f, g⟩
      have f : fr [57, 58, 59, 60, 61, 62, 63, 64, 65] (m_up a 0 8 (Int32.ofNat M)) c := f
      have hl := twl j hj
      have hj9 : j < 9 := by omega
      have c08 : c 0 8 = Int32.ofNat M := by rw [f 0 rfl, up_in]
      have c1 : c 1 0 = st 86 0 := by rw [f 1 rfl, up_ne (by decide), fa 1 rfl, e0]
      have c47 : c 47 = a 47 := by rw [f 47 rfl, up_ne (by decide)]
      have c48 : c 48 = a 48 := by rw [f 48 rfl, up_ne (by decide)]
      refine ⟨(m_up (m_up (m_up c (57 + j) 0 (Int32.ofNat (tw w fm j))) (57 + j) 1 (c 47 (tw w fm j))) (57 + j) 2 (c 48 (tw w fm j)), some (.int (Int32.ofNat (tw w fm j)))), ?_, fr_up (fr_up (fr_up f (by simp; omega)) (by simp; omega)) (by simp; omega), fun i hi => ?_⟩
      · show m_ev none 2046 131 32 [some (.ref 0), some (.int (Int32.ofNat fm)), some (.int t), some (.int w), some (.int (Int32.ofNat j)), c5] [] (SH, c) = _
        have tail : m_ev none 2046 131 56 [some (.ref 0), some (.int (Int32.ofNat fm)), some (.int t), some (.int w), some (.int (Int32.ofNat j)), c5] [.int (Int32.ofNat (tw w fm j))] (SH, c) = m_ev none 2046 131 32 [some (.ref 0), some (.int (Int32.ofNat fm)), some (.int t), some (.int w), some (.int (Int32.ofNat (j + 1))), some (.int (Int32.ofNat (tw w fm j)))] [] (SH, (m_up (m_up (m_up c (57 + j) 0 (Int32.ofNat (tw w fm j))) (57 + j) 1 (c 47 (tw w fm j))) (57 + j) 2 (c 48 (tw w fm j)))) := by
          rw [eX11_prove_56, s_isTowX 2045 c c1 hV.1, bZ_t (gT_at hl h9)]
          simp only [m_bd, Option.toList, List.cons_append, List.nil_append]
          rw [eX11_prove_67, if_neg i_10, ix_9 hj9, ob_s, gprove_77 _ _ _ _ _ _ _ hj9, ix_9 hj9, ob_s, gprove_88 _ _ _ _ _ _ _ hj9, ix_9 (show tw w fm j < 9 by omega), ob_s, ix_9 hj9, ob_s, gprove_107 _ _ _ _ _ _ _ hj9, ix_9 (show tw w fm j < 9 by omega), ob_s, eX11_prove_119, n_succ, up_ne (show 47 ≠ 57 + j by omega), up_ne (show 48 ≠ 57 + j by omega), up_ne (show 48 ≠ 57 + j by omega)]
        rw [eX11_prove_32, c08, if_pos (by rw [n_lt (by omega) (by omega)]; exact hj)]
        rcases hw with rfl | rfl
        · have : j ≤ fm := by
            have : tcap (st 86) 0 fm = fm + 1 := rfl
            omega
          rw [if_pos rfl, eX11_prove_52, n_sub this]
          exact tail
        · rw [if_neg i_10, n_add]
          exact tail
      · show m_up _ _ _ _ (57 + i) 0 = _ ∧ m_up _ _ _ _ (57 + i) 1 = _ ∧ m_up _ _ _ _ (57 + i) 2 = _
        by_cases z : i = j
        · subst z
          rw [up_nj (by omega), up_nj (by omega), up_in, up_nj (by omega), up_in, up_in, c47, c48]
          exact ⟨rfl, rfl, rfl⟩
        · rw [up_ne (by omega), up_ne (by omega), up_ne (by omega)]
          exact g i (by omega)
  · refine lw_bad hR (r := -1) ?_ ?_
    · rw [cal_X11_prove 2046, eX11_prove_0, s_isCry 2044 st e0 hV.1, bZ_f h]
      simp only [m_bd, Option.toList, List.cons_append, List.nil_append]
      rw [eX11_prove_6, if_pos rfl]
    · rw [cal_X12_prove 2046, eX12_prove_0, s_isTM0 2044 st hV]
      simp only [m_bd, Option.toList, List.cons_append, List.nil_append]
      rw [eX12_prove_5, bZ_if]
      by_cases h1 : gT (st 86) x
      · rw [if_pos h1, s_isTM 2044, bZ_f (fun z => h ⟨h1, z⟩)]
        simp only [m_bd, Option.toList, List.cons_append, List.nil_append]
        rw [eX12_prove_12, if_pos rfl, eX12_prove_15]
      · rw [if_neg h1, eX12_prove_15]
