/-! CALLS: towerOf, cry, tower -/
def a_towerOf (x w : Int32) (s : Nat → Int32) : Int32 := if gT s x ∧ gR 0 7 w then (if w = 0 then s (12 + 6 * x.toNatClampNeg) else if w = 1 then s (13 + 6 * x.toNatClampNeg) else if w = 2 then s (14 + 6 * x.toNatClampNeg) else if w = 3 then s (15 + 6 * x.toNatClampNeg) else if w = 4 then ads s x.toNatClampNeg else if w = 5 then bZ (sil s x.toNatClampNeg = true) else if s (17 + 6 * x.toNatClampNeg) < 0 then -9 else if w = 6 then s (16 + 6 * x.toNatClampNeg) else s (17 + 6 * x.toNatClampNeg)) else -1
theorem x_towerOf (d : Nat) {st : zS} (hR : Rel st) (x w : Int32) : RT (m_evc (d + 5) 81 [.ref 0, .int x, .int w] (SH, st)) (some (.int (a_towerOf x w (st 86)))) (scr st) := by
  obtain ⟨hN, hV, h7, e0⟩ := Rel_x hR
  have h9 := hV.1.2
  have hd := hV.2.2.2.1
  unfold a_towerOf
  rw [cal_X11_towerOf, eX11_towerOf_0, s_isTowX _ st e0 hV.1]
  simp only [m_bd, Option.toList, List.cons_append, List.nil_append]
  rw [eX11_towerOf_8, bZ_if]
  by_cases h1 : gT (st 86) x
  · rw [if_pos h1, eX11_towerOf_13]
    by_cases h2 : gR 0 7 w
    · rw [if_pos ⟨h1, h2⟩]
      obtain ⟨k, hk, rfl⟩ := gT_e h1
      obtain ⟨ew, hw1, _⟩ := gR_n h2 (by omega)
      generalize hj : w.toNatClampNeg = j at ew hw1
      subst ew
      have hj8 : j < 8 := by omega
      obtain ⟨t2, t3, t4, t5⟩ := hN.2.2.2.1 k hk
      obtain ⟨_, c2, c3⟩ := he_c (Rel_he hR) hk
      have ek : (Int32.ofNat k).toNatClampNeg = k := n_nat (by omega)
      have ix : m_ix (Int32.ofNat k) 9 = some k := ix_9 (by omega)
      have rule : ∃ a, m_evc (d + 4) 71 [.ref 1, .int (Int32.ofNat k), .int (st 1 7)] (SH, st) = some (some (.int (oz (rof (st 86) k))), (SH, a)) ∧ fr [17] st a := by
        obtain ⟨a, e, f⟩ := s_ruleFor d st hN hk hd.2
        rw [sd_self hd] at e
        rw [h7, hd.1]
        exact ⟨a, e, f⟩
      have ho : ∀ q, rof (st 86) k = some q → q < (st 86 4).toNatClampNeg := fun q hq => rof_lt hq
      rw [ek]
      match j, hj8 with
      | 0, _ =>
        rw [show m_case (Int32.ofNat 0) [[0, 60], [1, 70], [2, 80], [3, 90], [4, 100], [5, 131], [6, 165], [7, 175]] 185 = 60 by decide, eX11_towerOf_60, ix, ob_s, t2]
        exact ⟨st, rfl, scr_refl st⟩
      | 1, _ =>
        rw [show m_case (Int32.ofNat 1) [[0, 60], [1, 70], [2, 80], [3, 90], [4, 100], [5, 131], [6, 165], [7, 175]] 185 = 70 by decide, eX11_towerOf_70, ix, ob_s, t3]
        exact ⟨st, rfl, scr_refl st⟩
      | 2, _ =>
        rw [show m_case (Int32.ofNat 2) [[0, 60], [1, 70], [2, 80], [3, 90], [4, 100], [5, 131], [6, 165], [7, 175]] 185 = 80 by decide, eX11_towerOf_80, ix, ob_s, t4]
        exact ⟨st, rfl, scr_refl st⟩
      | 3, _ =>
        rw [show m_case (Int32.ofNat 3) [[0, 60], [1, 70], [2, 80], [3, 90], [4, 100], [5, 131], [6, 165], [7, 175]] 185 = 90 by decide, eX11_towerOf_90, ix, ob_s, t5]
        exact ⟨st, rfl, scr_refl st⟩
      | 4, _ =>
        obtain ⟨a, e, f⟩ := rule
        refine ⟨a, ?_, scr_fr f rfl⟩
        rw [show m_case (Int32.ofNat 4) [[0, 60], [1, 70], [2, 80], [3, 90], [4, 100], [5, 131], [6, 165], [7, 175]] 185 = 100 by decide, eX11_towerOf_100, e]
        simp only [m_bd, Option.toList, List.cons_append, List.nil_append]
        have ea := s_addedBy (d + 2) a (CN_fr hN f rfl) hk hd.2 ho
        rw [sd_self hd] at ea
        rw [eX11_towerOf_119, f 1 rfl, h7, hd.1, ea]
        simp only [m_bd, Option.toList, List.cons_append, List.nil_append]
        rw [eX11_towerOf_130]
        rfl
      | 5, _ =>
        obtain ⟨a, e, f⟩ := rule
        refine ⟨a, ?_, scr_fr f rfl⟩
        rw [show m_case (Int32.ofNat 5) [[0, 60], [1, 70], [2, 80], [3, 90], [4, 100], [5, 131], [6, 165], [7, 175]] 185 = 131 by decide, eX11_towerOf_131, e]
        simp only [m_bd, Option.toList, List.cons_append, List.nil_append]
        rw [eX11_towerOf_153, s_silX (d + 3) a (CN_fr hN f rfl).1 ho]
        simp only [m_bd, Option.toList, List.cons_append, List.nil_append]
        rw [eX11_towerOf_156, bZ_if]
        show _ = some (some (Value.int (bZ (slw (st 86) (rof (st 86) k) = true))), (SH, a))
        by_cases q : slw (st 86) (rof (st 86) k) = true
        · rw [if_pos q, eX11_towerOf_164, bZ_t q]
        · rw [if_neg q, eX11_towerOf_163, eX11_towerOf_164, bZ_f q]
      | 6, _ =>
        refine ⟨st, ?_, scr_refl st⟩
        rw [show m_case (Int32.ofNat 6) [[0, 60], [1, 70], [2, 80], [3, 90], [4, 100], [5, 131], [6, 165], [7, 175]] 185 = 165 by decide, eX11_towerOf_165, ix, ob_s]
        show _ = some (some (Value.int (if st 86 (17 + 6 * k) < 0 then -9 else st 86 (16 + 6 * k))), (SH, st))
        by_cases q : st 86 (17 + 6 * k) < 0
        · rw [if_pos q, (c3 q).1]
        · rw [if_neg q, (c2 q).1]
      | 7, _ =>
        refine ⟨st, ?_, scr_refl st⟩
        rw [show m_case (Int32.ofNat 7) [[0, 60], [1, 70], [2, 80], [3, 90], [4, 100], [5, 131], [6, 165], [7, 175]] 185 = 175 by decide, eX11_towerOf_175, ix, ob_s]
        show _ = some (some (Value.int (if st 86 (17 + 6 * k) < 0 then -9 else st 86 (17 + 6 * k))), (SH, st))
        by_cases q : st 86 (17 + 6 * k) < 0
        · rw [if_pos q, (c3 q).2]
        · rw [if_neg q, (c2 q).2]
    · have hne : ∀ i : Nat, i < 8 → ¬ w = Int32.ofNat i := fun i hi z => h2 (by
        rw [z]
        show 0 ≤ (Int32.ofNat i).toInt ∧ (Int32.ofNat i).toInt ≤ 7
        rw [n_int (by omega)]; omega)
      refine ⟨st, ?_, scr_refl st⟩
      rw [if_neg (show ¬ (gT (st 86) x ∧ gR 0 7 w) from fun z => h2 z.2)]
      have : m_case w [[0, 60], [1, 70], [2, 80], [3, 90], [4, 100], [5, 131], [6, 165], [7, 175]] 185 = 185 := by
        simp only [m_case, if_neg (hne 0 (by omega)), if_neg (hne 1 (by omega)), if_neg (hne 2 (by omega)), if_neg (hne 3 (by omega)), if_neg (hne 4 (by omega)), if_neg (hne 5 (by omega)), if_neg (hne 6 (by omega)), if_neg (hne 7 (by omega))]
      rw [this, eX11_towerOf_185]
  · rw [if_neg h1, if_neg (fun z => h1 z.1)]
    exact ⟨st, rfl, scr_refl st⟩
theorem mc_towerOf (d : Nat) {st : zS} (hR : Rel st) (x w : Int32) : RT (m_evc (d + 6) 172 [.ref 85, .int x, .int w] (SH, st)) (some (.int (a_towerOf x w (st 86)))) (scr st) := by
  obtain ⟨hN, hV, h7, e0⟩ := Rel_x hR
  have h9 := hV.1.2
  unfold a_towerOf
  rw [cal_X12_towerOf, eX12_towerOf_0, s_isTM0 _ st hV]
  simp only [m_bd, Option.toList, List.cons_append, List.nil_append]
  rw [eX12_towerOf_5, bZ_if]
  by_cases h1 : gT (st 86) x
  · rw [if_pos h1, s_inb]
    simp only [m_bd, Option.toList, List.cons_append, List.nil_append]
    rw [eX12_towerOf_17, bZ_if]
    by_cases h2 : gR 0 7 w
    · rw [if_pos (show (0 : Int64).toInt ≤ w.toInt ∧ w.toInt ≤ (7 : Int64).toInt from h2), if_pos ⟨h1, h2⟩]
      obtain ⟨k, hk, rfl⟩ := gT_e h1
      obtain ⟨ew, hw1, _⟩ := gR_n h2 (by omega)
      generalize hj : w.toNatClampNeg = j at ew hw1
      subst ew
      have hj8 : j < 8 := by omega
      have ek : (Int32.ofNat k).toNatClampNeg = k := n_nat (by omega)
      obtain ⟨a, e, f, g5, g6, g⟩ := s_asks d st (show k < 9 by omega) hV.2.2.2.2 hV.2.2.2.1
      have e86 : a 86 = st 86 := f 86 rfl
      refine ⟨a, ?_, scr_M (fM_asks f g)⟩
      rw [ek, eX12_towerOf_22, e]
      simp only [m_bd, Option.toList, List.cons_append, List.nil_append]
      rw [eX12_towerOf_27, s_its5 _ _ (show k < 9 by omega), e86]
      simp only [m_bd, Option.toList, List.cons_append, List.nil_append]
      rw [eX12_towerOf_33]
      have h41 : ∃ y : Int32, (y = 0 ↔ st 86 (17 + 6 * k) < 0) ∧ (if st 86 (17 + 6 * k) < 0 then m_ev none (d + 5) 172 40 [some (.ref 85), some (.int (Int32.ofNat k)), some (.int (Int32.ofNat j)), none] [] (SH, a) else m_ev none (d + 5) 172 41 [some (.ref 85), some (.int (Int32.ofNat k)), some (.int (Int32.ofNat j)), none] [.int 1] (SH, a)) = m_ev none (d + 5) 172 41 [some (.ref 85), some (.int (Int32.ofNat k)), some (.int (Int32.ofNat j)), none] [.int y] (SH, a) := by
        by_cases q : st 86 (17 + 6 * k) < 0
        · exact ⟨0, ⟨fun _ => q, fun _ => rfl⟩, by rw [if_pos q, eX12_towerOf_40]⟩
        · exact ⟨1, ⟨fun z => absurd z i_10, fun z => absurd z q⟩, by rw [if_neg q]⟩
      obtain ⟨y, hy, ey⟩ := h41
      rw [ey, eX12_towerOf_41]
      match j, hj8 with
      | 0, _ =>
        rw [if_pos (by decide), n_00, s_its0 _ _ (show k < 9 by omega), e86]
        simp only [m_bd, Option.toList, List.cons_append, List.nil_append]
        rw [eX12_towerOf_53, eX12_towerOf_105]
        rfl
      | 1, _ =>
        rw [if_pos (by decide), show Int32.ofNat 1 = 1 from rfl, s_its1 _ _ (show k < 9 by omega), e86]
        simp only [m_bd, Option.toList, List.cons_append, List.nil_append]
        rw [eX12_towerOf_53, eX12_towerOf_105]
        rfl
      | 2, _ =>
        rw [if_pos (by decide), show Int32.ofNat 2 = 2 from rfl, s_its2 _ _ (show k < 9 by omega), e86]
        simp only [m_bd, Option.toList, List.cons_append, List.nil_append]
        rw [eX12_towerOf_53, eX12_towerOf_105]
        rfl
      | 3, _ =>
        rw [if_pos (by decide), show Int32.ofNat 3 = 3 from rfl, s_its3 _ _ (show k < 9 by omega), e86]
        simp only [m_bd, Option.toList, List.cons_append, List.nil_append]
        rw [eX12_towerOf_53, eX12_towerOf_105]
        rfl
      | 4, _ =>
        rw [if_neg (by decide), eX12_towerOf_56, if_pos (by decide), eX12_towerOf_105, g5]
        rfl
      | 5, _ =>
        rw [if_neg (by decide), eX12_towerOf_56, if_neg (by decide), eX12_towerOf_68, if_pos (by decide), g6, bZ_if]
        show _ = some (some (Value.int (bZ (sil (st 86) k = true))), (SH, a))
        by_cases q : sil (st 86) k = true
        · rw [if_pos q, eX12_towerOf_105, bZ_t q]
        · rw [if_neg q, eX12_towerOf_84, eX12_towerOf_105, bZ_f q]
      | 6, _ =>
        rw [if_neg (by decide), eX12_towerOf_56, if_neg (by decide), eX12_towerOf_68, if_neg (by decide), eX12_towerOf_88]
        show _ = some (some (Value.int (if st 86 (17 + 6 * k) < 0 then -9 else st 86 (16 + 6 * k))), (SH, a))
        by_cases q : st 86 (17 + 6 * k) < 0
        · rw [if_pos (hy.mpr q), if_pos q, eX12_towerOf_103, eX12_towerOf_105]
        · rw [if_neg (fun z => q (hy.mp z)), if_neg q, show Int32.ofNat 6 - 2 = 4 from rfl, s_its4 _ _ (show k < 9 by omega), e86]
          simp only [m_bd, Option.toList, List.cons_append, List.nil_append]
          rw [eX12_towerOf_100, eX12_towerOf_105]
      | 7, _ =>
        rw [if_neg (by decide), eX12_towerOf_56, if_neg (by decide), eX12_towerOf_68, if_neg (by decide), eX12_towerOf_88]
        show _ = some (some (Value.int (if st 86 (17 + 6 * k) < 0 then -9 else st 86 (17 + 6 * k))), (SH, a))
        by_cases q : st 86 (17 + 6 * k) < 0
        · rw [if_pos (hy.mpr q), if_pos q, eX12_towerOf_103, eX12_towerOf_105]
        · rw [if_neg (fun z => q (hy.mp z)), if_neg q, show Int32.ofNat 7 - 2 = 5 from rfl, s_its5 _ _ (show k < 9 by omega), e86]
          simp only [m_bd, Option.toList, List.cons_append, List.nil_append]
          rw [eX12_towerOf_100, eX12_towerOf_105]
    · rw [if_neg (show ¬ ((0 : Int64).toInt ≤ w.toInt ∧ w.toInt ≤ (7 : Int64).toInt) from h2), if_neg (fun z => h2 z.2), eX12_towerOf_20]
      exact ⟨st, rfl, scr_refl st⟩
  · rw [if_neg h1, if_neg (fun z => h1 z.1), eX12_towerOf_20]
    exact ⟨st, rfl, scr_refl st⟩
/-! cry -/
def onw (s : Nat → Int32) (fm : Nat) (t w : Int32) (k : Nat) : cH := if w = 0 then eas s fm t k else wes s fm t k
theorem m_one (d : Nat) {st : zS} (hV : VN (st 86)) {t : Int32} {fm : Nat} (hf : fm < tn (st 86)) {w : Int32} (hw : w = 0 ∨ w = 1) (h0 : ∀ i, i < 9 → st 90 i = -1) : RT (m_evc (d + 6) 179 [.ref 85, .int (Int32.ofNat fm), .int t, .int w, .int 0, .int (-1)] (SH, st)) none (fun a => fM st a ∧ rp (-1) (a 90) (a 91) (onw (st 86) fm t w) (tn (st 86))) := by
  have h9 := hV.1.2
  rcases hw with rfl | rfl
  · obtain ⟨a, e, f, g, r⟩ := s_goE d hV (t := t) hf (fun i hi => h0 i (by omega))
    refine ⟨a, e, f, fun k hk => ?_⟩
    unfold onw
    rw [if_pos rfl]
    unfold eas
    by_cases q : k ≤ fm
    · rw [if_pos q]; exact r k q
    · rw [if_neg q]
      show a 90 k = -1
      rw [(g k (by omega)).1]; exact h0 k (by omega)
  · obtain ⟨a, e, f, g, r⟩ := s_goW1 d hV (t := t) hf (mute := -1) nob_q h0
    refine ⟨a, e, f, fun k hk => ?_⟩
    unfold onw
    rw [if_neg i_10]
    exact r k hk
theorem fb_onw {s : Nat → Int32} (hV : VN s) {fm : Nat} (hf : fm < tn s) {t : Int32} (ht : TG t) (w : Int32) : fb (onw s fm t w) (tn s) := by
  intro k hk c h e
  unfold onw at e
  split at e
  · exact fb_eas hV hf ht k hk c h e
  · exact fb_wst hV ht k hk c h e
theorem r_cry (x t w : Int32) (hw : w = 0 ∨ w = 1) : lw_C Rel 93 183 [.int x, .int t, .int w] := by
  intro st hR
  obtain ⟨hN, hV, h7, e0⟩ := Rel_x hR
  have h9 := hV.1.2
  have V : VR _ _ _ _ _ _ _ _ _ _ _ _ _ _ _ _ _ := hR.1
  by_cases h : gT (st 86) x ∧ TG t
  · obtain ⟨fm, hf, rfl⟩ := gT_e h.1
    have hb := fb_onw hV hf h.2 w
    -- the class
    obtain ⟨a, ea, fa, Da, ra⟩ := s_cryO 2039 st hN hV h7 h.2 hf w
    have ra : rp (-9) (a 47) (a 48) (onw (st 86) fm t w) (tn (st 86)) := ra
    have La := lp_inv (fun j (c : zS) => m_ev none 2046 93 21 [some (.ref 0), some (.int (Int32.ofNat fm)), some (.int t), some (.int w), some (.int (Int32.ofNat j))] [] (SH, c)) (fun j c => fr [6, 7] a c ∧ ∀ k, k < tn (st 86) → (match onw (st 86) fm t w k with
        | none => c 6 k = a 6 k ∧ c 7 k = a 7 k
        | some ch => if k < j then c 6 k = ch.2 ∧ c 7 k = ch.1 else c 6 k = a 6 k ∧ c 7 k = a 7 k)) (tn (st 86)) ?_ (tn (st 86)) 0 a (by omega) ⟨fr_refl _ _, fun k hk => by
          cases onw (st 86) fm t w k with
          | none => exact ⟨rfl, rfl⟩
          | some ch => exact ⟨rfl, rfl⟩⟩
    · obtain ⟨b, eb, fb1, gb⟩ := La
      have rb : rp (-9) (b 47) (b 48) (onw (st 86) fm t w) (tn (st 86)) := by rw [fb1 47 rfl, fb1 48 rfl]; exact ra
      have eb0 : b 1 0 = st 86 0 := by rw [fb1 1 rfl, fa 1 rfl]; exact e0
      have enb : b 1 0 = Int32.ofNat (tn (st 86)) := by rw [eb0]; exact hV.1.1
      have EX : m_evc 2047 93 [.ref 0, .int (Int32.ofNat fm), .int t, .int w] (SH, st) = some (some (.int (lp (cntF (onw (st 86) fm t w)) (tn (st 86)) 0 0)), (SH, b)) := by
        rw [cal_X11_cry 2046, eX11_cry_0, s_isCry 2044 st e0 hV.1, bZ_t h]
        simp only [m_bd, Option.toList, List.cons_append, List.nil_append]
        rw [eX11_cry_6, if_neg i_10, eX11_cry_11, ea]
        simp only [m_bd, Option.toList, List.cons_append, List.nil_append]
        rw [eX11_cry_18]
        refine Eq.trans eb ?_
        rw [eX11_cry_21, enb, if_neg (by rw [n_lt (by omega) (by omega)]; omega), eX11_cry_91, ya_cnt 2044 b enb h9 rb hb]
        simp only [m_bd, Option.toList, List.cons_append, List.nil_append]
        rw [eX11_cry_98]
      -- the model
      have b86 : b 86 = st 86 := by rw [fb1 86 rfl, fa 86 rfl]
      obtain ⟨c, ec, fc, gc⟩ := s_quiets 2045 b
      have c86 : c 86 = st 86 := by rw [fc 86 rfl, b86]
      obtain ⟨e, ee, fe, re⟩ := m_one 2040 (st := c) (by rw [c86]; exact hV) (t := t) (fm := fm) (by rw [c86]; exact hf) hw gc
      rw [c86] at re
      have e86 : e 86 = st 86 := by rw [fe.1 86 rfl, c86]
      have Lm := lp_inv (fun j (g : zS) => m_ev none 2046 183 33 [some (.ref 85), some (.int (Int32.ofNat fm)), some (.int t), some (.int w), some (.int (Int32.ofNat j))] [] (SH, g)) (fun j g => fr [86] e g ∧ (∀ i, (∀ k, k < 9 → i ≠ 16 + 6 * k ∧ i ≠ 17 + 6 * k) → g 86 i = st 86 i) ∧ ∀ k, k < tn (st 86) → (match onw (st 86) fm t w k with
          | none => g 86 (16 + 6 * k) = st 86 (16 + 6 * k) ∧ g 86 (17 + 6 * k) = st 86 (17 + 6 * k)
          | some ch => if k < j then g 86 (16 + 6 * k) = ch.2 ∧ g 86 (17 + 6 * k) = ch.1 else g 86 (16 + 6 * k) = st 86 (16 + 6 * k) ∧ g 86 (17 + 6 * k) = st 86 (17 + 6 * k))) (tn (st 86)) ?_ (tn (st 86)) 0 e (by omega) ⟨fr_refl _ _, fun i _ => by rw [e86], fun k hk => by
            cases onw (st 86) fm t w k with
            | none => exact ⟨by rw [e86], by rw [e86]⟩
            | some ch => exact ⟨by rw [e86], by rw [e86]⟩⟩
      · obtain ⟨g, eg, fg, sg, hg⟩ := Lm
        have g0 : g 86 0 = st 86 0 := sg 0 (fun k hk => by omega)
        have eng : g 86 0 = Int32.ofNat (tn (st 86)) := by rw [g0]; exact hV.1.1
        have rg : rp (-1) (g 90) (g 91) (onw (st 86) fm t w) (tn (st 86)) := by rw [fg 90 rfl, fg 91 rfl]; exact re
        refine ⟨_, b, g, EX, ?_, ?_⟩
        · rw [cal_X12_cry 2046, eX12_cry_0, s_isTM0 2044 b (by rw [b86]; exact hV), b86, bZ_t h.1]
          simp only [m_bd, Option.toList, List.cons_append, List.nil_append]
          rw [eX12_cry_5, if_neg i_10, s_isTM 2044, bZ_t h.2]
          simp only [m_bd, Option.toList, List.cons_append, List.nil_append]
          rw [eX12_cry_12, if_neg i_10, eX12_cry_17, ec]
          simp only [m_bd, Option.toList, List.cons_append, List.nil_append]
          rw [eX12_cry_21, ee]
          simp only [m_bd, Option.toList, List.cons_append, List.nil_append]
          rw [eX12_cry_30]
          refine Eq.trans eg ?_
          rw [eX12_cry_33, eng, if_neg (by rw [n_lt (by omega) (by omega)]; omega), eX12_cry_96, m_cnt 2045 g eng h9 rg hb]
          simp only [m_bd, Option.toList, List.cons_append, List.nil_append]
          rw [eX12_cry_100]
        · have fab : fr [6, 7, 17, 44, 45, 46, 47, 48] st b := fr_mono (fr_tr fa fb1) (by decide)
          have m1 : mdf st g := by
            refine ⟨fr_mono (fr_tr (fr_tr (fr_tr fab fc) fe.1) fg) (by decide), ?_, ?_, ?_, ?_⟩ <;> rw [fg 85 rfl, fe.2 _ (by decide) (by decide), fc 85 rfl, fab 85 rfl]
          refine Rel_now hR m1 ?_
          have all := fr_tr (fr_tr (fr_tr fab fc) fe.1) fg
          have cl : ∀ i, ([6, 7, 86].elem i) = false → (Nat.ble 1 i && Nat.ble i 16) = true → g i = st i := fun i hi h2 => by
            refine fr_of all (fun c => (Nat.ble 1 c && Nat.ble c 16) && !([6, 7, 86].elem c)) rfl i ?_
            rw [hi, h2]; rfl
          have same : ∀ i, (i < 12 ∨ 66 ≤ i ∨ ∃ k u, u < 4 ∧ i = 12 + 6 * k + u) → g 86 i = st 86 i := fun i hi => sg i (fun k hk => by
            rcases hi with h | h | ⟨k', u, hu, h⟩ <;> omega)
          unfold Rnow
          rw [cl 1 rfl rfl, cl 2 rfl rfl, cl 3 rfl rfl, cl 4 rfl rfl, cl 5 rfl rfl, cl 8 rfl rfl, cl 9 rfl rfl, cl 10 rfl rfl, cl 11 rfl rfl, cl 12 rfl rfl, cl 13 rfl rfl, cl 14 rfl rfl, cl 15 rfl rfl, cl 16 rfl rfl]
          refine VR_gen V g0 (same 4 (by omega)) (fun j hj => (same j (by omega)).symm) ?_ ⟨by rw [g0]; exact V.2.2.1.1, by rw [same 2 (by omega)]; exact V.2.2.1.2.1, by rw [same 3 (by omega)]; exact V.2.2.1.2.2⟩ (fun i hi => ?_) (fun j hj => ?_) (fun i hi => ?_) (rpR_cg V.2.2.2.2.2.2.1 g0 (same 1 (by omega)) rfl (fun j j1 j2 => same j (by omega)))
          · unfold DG; rw [same 2 (by omega)]; exact V.1.2.2.2.1
          · rw [same (12 + 6 * i) (Or.inr (Or.inr ⟨i, 0, by omega, by omega⟩)), same (13 + 6 * i) (Or.inr (Or.inr ⟨i, 1, by omega, by omega⟩)), same (14 + 6 * i) (Or.inr (Or.inr ⟨i, 2, by omega, by omega⟩)), same (15 + 6 * i) (Or.inr (Or.inr ⟨i, 3, by omega, by omega⟩))]; exact VR_T V i hi
          · rw [same _ (by omega)]; exact VR_W V j hj
          · have hi' : i < tn (st 86) := by
              have : tn (g 86) = tn (st 86) := by unfold tn; rw [g0]
              rw [← this]; exact hi
            have e6 : g 6 = b 6 := by rw [fg 6 rfl, fe.1 6 rfl, fc 6 rfl]
            have e7 : g 7 = b 7 := by rw [fg 7 rfl, fe.1 7 rfl, fc 7 rfl]
            have q1 := gb i hi'
            have q2 := hg i hi'
            rw [e6, e7]
            cases ho : onw (st 86) fm t w i with
            | none =>
              rw [ho] at q1 q2
              simp only at q1 q2
              rw [q1.1, q1.2, q2.1, q2.2, fa 6 rfl, fa 7 rfl]
              exact Rel_he hR i hi'
            | some ch =>
              rw [ho] at q1 q2
              simp only [if_pos hi'] at q1 q2
              rw [q1.1, q1.2, q2.1, q2.2]
              exact Or.inr ⟨hb i hi' ch.1 ch.2 ho, rfl, rfl⟩
      · rintro j g hj ⟨fg, sg, hg⟩
        have g0 : g 86 0 = st 86 0 := sg 0 (fun k hk => by omega)
        have eng : g 86 0 = Int32.ofNat (tn (st 86)) := by rw [g0]; exact hV.1.1
        have rg : rp (-1) (g 90) (g 91) (onw (st 86) fm t w) (tn (st 86)) := by rw [fg 90 rfl, fg 91 rfl]; exact re
        have q := rp_neg rg hb hj
        cases ho : onw (st 86) fm t w j with
        | none =>
          refine ⟨g, ?_, fg, sg, fun k hk => ?_⟩
          · rw [eX12_cry_33, eng, if_pos (by rw [n_lt (by omega) (by omega)]; exact hj), ix_9 (show j < 9 by omega), ob_s, if_pos (q.mpr ho), eX12_cry_90, n_succ]
          · have := hg k hk
            cases hk2 : onw (st 86) fm t w k with
            | none => rw [hk2] at this; exact this
            | some ch =>
              rw [hk2] at this
              have hkj : k ≠ j := fun z => by rw [z, ho] at hk2; cases hk2
              simp only at this ⊢
              by_cases z : k < j
              · rw [if_pos z] at this; rw [if_pos (by omega)]; exact this
              · rw [if_neg z] at this; rw [if_neg (by omega)]; exact this
        | some ch =>
          obtain ⟨cc, gg⟩ := ch
          obtain ⟨w1, w2⟩ := rp_at rg hj ho
          refine ⟨m_up (m_up g 86 (16 + 6 * j) gg) 86 (17 + 6 * j) cc, ?_, fr_up (fr_up fg rfl) rfl, fun i hi => ?_, fun k hk => ?_⟩
          · rw [eX12_cry_33, eng, if_pos (by rw [n_lt (by omega) (by omega)]; exact hj), ix_9 (show j < 9 by omega), ob_s, if_neg (fun z => by rw [q.mp z] at ho; cases ho), cal_X12_at 2045, eX12_at_0]
            simp only [m_bd, Option.toList, List.cons_append, List.nil_append]
            rw [eX12_cry_64, ix_9 (show j < 9 by omega), ob_s, ix_T4 (show j < 9 by omega), ob_s, cal_X12_at 2045, eX12_at_0]
            simp only [m_bd, Option.toList, List.cons_append, List.nil_append]
            rw [eX12_cry_82, ix_9 (show j < 9 by omega), ob_s, ix_T5 (show j < 9 by omega), ob_s, eX12_cry_90, n_succ, up_ne (show 90 ≠ 86 by decide), w1, w2]
          · obtain ⟨i1, i2⟩ := hi j (by omega)
            rw [up_nj i2, up_nj i1]; exact sg i hi
          · by_cases z : k = j
            · subst z
              rw [ho]
              simp only
              rw [if_pos (by omega), up_nj (by omega), up_in, up_in]
              exact ⟨rfl, rfl⟩
            · have := hg k hk
              rw [up_nj (show 16 + 6 * k ≠ 17 + 6 * j by omega), up_nj (show 16 + 6 * k ≠ 16 + 6 * j by omega), up_nj (show 17 + 6 * k ≠ 17 + 6 * j by omega), up_nj (show 17 + 6 * k ≠ 16 + 6 * j by omega)]
              cases hk2 : onw (st 86) fm t w k with
              | none => rw [hk2] at this; exact this
              | some ch2 =>
                rw [hk2] at this
                simp only at this ⊢
                by_cases z2 : k < j
                · rw [if_pos z2] at this; rw [if_pos (by omega)]; exact this
                · rw [if_neg z2] at this; rw [if_neg (by omega)]; exact this
    · rintro j c hj ⟨f, g⟩
      have rc : rp (-9) (c 47) (c 48) (onw (st 86) fm t w) (tn (st 86)) := by rw [f 47 rfl, f 48 rfl]; exact ra
      have enc' : c 1 0 = Int32.ofNat (tn (st 86)) := by rw [f 1 rfl, fa 1 rfl, e0]; exact hV.1.1
      cases ho : onw (st 86) fm t w j with
      | none =>
        refine ⟨c, ?_, f, fun k hk => ?_⟩
        · rw [eX11_cry_21, enc', if_pos (by rw [n_lt (by omega) (by omega)]; exact hj), ya_rch 2045 c rc hb hj h9, ho]
          simp only [m_bd, Option.toList, List.cons_append, List.nil_append]
          rw [eX11_cry_42, bZ_if, if_neg iN, eX11_cry_85, n_succ]
        · have := g k hk
          cases hk2 : onw (st 86) fm t w k with
          | none => rw [hk2] at this; exact this
          | some ch =>
            rw [hk2] at this
            have hkj : k ≠ j := fun z => by rw [z, ho] at hk2; cases hk2
            simp only at this ⊢
            by_cases z : k < j
            · rw [if_pos z] at this; rw [if_pos (by omega)]; exact this
            · rw [if_neg z] at this; rw [if_neg (by omega)]; exact this
      | some ch =>
        obtain ⟨cc, gg⟩ := ch
        obtain ⟨w1, w2⟩ := rp_at rc hj ho
        refine ⟨m_up (m_up c 6 j gg) 7 j cc, ?_, fr_up (fr_up f rfl) rfl, fun k hk => ?_⟩
        · rw [eX11_cry_21, enc', if_pos (by rw [n_lt (by omega) (by omega)]; exact hj), ya_rch 2045 c rc hb hj h9, ho]
          simp only [m_bd, Option.toList, List.cons_append, List.nil_append]
          rw [eX11_cry_42, bZ_if, if_pos iS, ix_9 (show j < 9 by omega), ob_s, ob_s, ob_s, ob_s, w1, w2, eX11_cry_85, n_succ]
        · by_cases z : k = j
          · subst z
            rw [ho]
            simp only
            rw [if_pos (by omega), up_ne (by decide), up_in, up_in]
            exact ⟨rfl, rfl⟩
          · have := g k hk
            rw [up_ne (show 6 ≠ 7 by decide), up_nj z, up_nj z, up_ne (show 7 ≠ 6 by decide)]
            cases hk2 : onw (st 86) fm t w k with
            | none => rw [hk2] at this; exact this
            | some ch2 =>
              rw [hk2] at this
              simp only at this ⊢
              by_cases z2 : k < j
              · rw [if_pos z2] at this; rw [if_pos (by omega)]; exact this
              · rw [if_neg z2] at this; rw [if_neg (by omega)]; exact this
  · refine lw_bad hR (r := -1) ?_ ?_
    · rw [cal_X11_cry 2046, eX11_cry_0, s_isCry 2044 st e0 hV.1, bZ_f h]
      simp only [m_bd, Option.toList, List.cons_append, List.nil_append]
      rw [eX11_cry_6, if_pos rfl]
    · rw [cal_X12_cry 2046, eX12_cry_0, s_isTM0 2044 st hV]
      simp only [m_bd, Option.toList, List.cons_append, List.nil_append]
      rw [eX12_cry_5, bZ_if]
      by_cases h1 : gT (st 86) x
      · rw [if_pos h1, s_isTM 2044, bZ_f (fun z => h ⟨h1, z⟩)]
        simp only [m_bd, Option.toList, List.cons_append, List.nil_append]
        rw [eX12_cry_12, if_pos rfl, eX12_cry_15]
      · rw [if_neg h1, eX12_cry_15]
