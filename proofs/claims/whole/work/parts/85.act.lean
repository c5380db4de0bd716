/-! CALLS of the host: act -/
theorem act_fin {st a g : zS} (hR : Rel st) {L : List Int32} {p : Bool} (hL : L.length ≤ 20) (fa : fr [76, 77, 79, 80, 81, 82, 83, 84] st a) (ta : TX a L p) (fg : fr [85, 101] a g) (sg : ∀ j, j < 31 → g 85 j = a 85 j) (tg : TM g L p) : Rel g := by
  have F := fr_tr fa fg
  have e85 : ∀ j, j < 31 → g 85 j = st 85 j := fun j hj => by rw [sg j hj, fa 85 rfl]
  have e0 : g 0 = st 0 := F 0 rfl
  have e35 : g 35 = st 35 := F 35 rfl
  obtain ⟨h1, h2, h3, h4, h5, h6, h7⟩ := hR
  refine ⟨Rnow_fr F rfl h1, Rkept_fr F rfl (by rw [e0]) (e85 3 (by omega)) h2, Rrows_fr F rfl (by rw [e0]) (e85 15 (by omega)) h3, Rsheet_fr F rfl h4, Rshelf_fr F rfl h5, ?_, Rtape_fr F rfl (by rw [e35]) (e85 17 (by omega)) h7⟩
  have g76 : g 76 = a 76 := fg 76 rfl
  have g77 : g 77 = a 77 := fg 77 rfl
  unfold Rtrace
  rw [g76, g77, ta.1, tg.1, n_nat (by omega)]
  exact ⟨rfl, rfl, hL, fun i hi => (ta.2.2 i hi).trans (tg.2.2 i hi).symm⟩
theorem TX_0 (st : zS) : TX (m_up (m_up st 76 0 0) 76 2 0) [] false := ⟨by rw [up_nj (by decide), up_in]; rfl, by rw [up_in]; rfl, fun i hi => by simp at hi⟩
theorem fa_0 (st : zS) : fr [76, 77, 79, 80, 81, 82, 83, 84] st (m_up (m_up st 76 0 0) 76 2 0) := fr_up (fr_up (fr_refl _ _) rfl) rfl
theorem Rel_a0 {st : zS} (hR : Rel st) (d : Nat) : (m_up (m_up st 76 0 0) 76 2 0) 1 = st 1 ∧ (m_up (m_up st 76 0 0) 76 2 0) 73 = st 73 ∧ (m_up (m_up st 76 0 0) 76 2 0) 74 = st 74 ∧ (m_up (m_up st 76 0 0) 76 2 0) 86 = st 86 ∧ (m_up (m_up st 76 0 0) 76 2 0) 98 = st 98 ∧ (m_up (m_up st 76 0 0) 76 2 0) 99 = st 99 := ⟨rfl, rfl, rfl, rfl, rfl, rfl⟩
theorem x_ton2 (d : Nat) (st : zS) (hR : Rel st) {a : zS} (e1 : a 1 = st 1) (e73 : a 73 = st 73) (e74 : a 74 = st 74) {q : Nat} (hq : q < 4) : m_evc (d + 2) 151 [.ref 0, .int (Int32.ofNat q)] (SH, a) = some (some (.int (bZ (tOn st q))), (SH, a)) := by
  obtain ⟨hN, hV, h7, e0⟩ := Rel_x hR
  rw [cal_X11_isTowerOnShelf, eX11_isTowerOnShelf_0, ix_4 hq, ob_s, e73, e74]
  by_cases h1 : st 73 q = 0
  · rw [if_pos h1, ob_s, s_isTowX d a (s := st 86) (by rw [e1]; exact e0) hV.1]
    simp only [m_bd, Option.toList, List.cons_append, List.nil_append]
    rw [eX11_isTowerOnShelf_22, bZ_if]
    by_cases h2 : gT (st 86) (st 74 q)
    · rw [if_pos h2, eX11_isTowerOnShelf_30, if_pos (Or.inr rfl), bZ_t (show tOn st q from ⟨h1, h2⟩)]
    · rw [if_neg h2, eX11_isTowerOnShelf_29, eX11_isTowerOnShelf_30, if_pos (Or.inl rfl), bZ_f (fun w => h2 w.2)]
  · rw [if_neg h1, eX11_isTowerOnShelf_29, eX11_isTowerOnShelf_30, if_pos (Or.inl rfl), bZ_f (fun w => h1 w.1)]
theorem m_ton2 (d : Nat) (st : zS) (hR : Rel st) {g : zS} (e86 : g 86 = st 86) (e98 : g 98 = st 98) (e99 : g 99 = st 99) {q : Nat} (hq : q < 4) : m_evc (d + 3) 252 [.ref 85, .int (Int32.ofNat q)] (SH, g) = some (some (.int (if tOn st q then st 74 q else -1)), (SH, g)) := by
  obtain ⟨hN, hV, h7, e0⟩ := Rel_x hR
  have hq3 : gR 0 3 (Int32.ofNat q) := ⟨by rw [n_int (by omega)]; omega, by rw [n_int (by omega)]; omega⟩
  rw [cal_X12_onShelf, eX12_onShelf_0, m_isOne d, bZ_t hq3]
  simp only [m_bd, Option.toList, List.cons_append, List.nil_append]
  rw [eX12_onShelf_4, if_neg i_10, ix_4 hq, ob_s, e98, e99]
  rcases hR.2.2.2.2.1 q hq with ⟨a, b⟩ | ⟨a, b, c⟩ | ⟨a, b, c, e⟩
  · rw [b, if_neg (by decide), eX12_onShelf_39, eX12_onShelf_40, if_neg]
    rintro ⟨w, _⟩; rw [a] at w; exact absurd w (by decide)
  · rw [b, if_pos rfl, ob_s, s_isTowM d g (by rw [e86]; exact hV.1.1) hV.1.2]
    simp only [m_bd, Option.toList, List.cons_append, List.nil_append]
    rw [eX12_onShelf_27, bZ_if, ← c]
    by_cases h2 : gT (st 86) (st 74 q)
    · rw [if_pos h2, ix_4 hq, ob_s, eX12_onShelf_40, e99, ← c, if_pos ⟨a, h2⟩]
    · rw [if_neg h2, eX12_onShelf_39, eX12_onShelf_40, if_neg (fun w => h2 w.2)]
  · rw [b, if_neg (by decide), eX12_onShelf_39, eX12_onShelf_40, if_neg]
    rintro ⟨w, _⟩; rw [a] at w; exact absurd w (by decide)
theorem m_tonB (d : Nat) (g : zS) {x : Int32} (h : ¬ gR 0 3 x) : m_evc (d + 3) 252 [.ref 85, .int x] (SH, g) = some (some (.int (-1)), (SH, g)) := by
  rw [cal_X12_onShelf, eX12_onShelf_0, m_isOne d, bZ_f h]
  simp only [m_bd, Option.toList, List.cons_append, List.nil_append]
  rw [eX12_onShelf_4, if_pos rfl, eX12_onShelf_39, eX12_onShelf_40]
/-- nothing acts -/
theorem act_no {st : zS} (hR : Rel st) {x y z : Int32} (h : ¬ ((gR 0 3 x ∧ gR 0 3 y) ∧ ∃ q, q < 4 ∧ x = Int32.ofNat q ∧ tOn st q)) : ∃ (r : Int32) (st1 st2 : Nat → Nat → Int32), m_evc 2047 143 [.ref 0, .int x, .int y, .int z] (SH, st) = some (some (.int r), (SH, st1)) ∧ m_evc 2047 260 [.ref 85, .int x, .int y, .int z] (SH, st1) = some (some (.int r), (SH, st2)) ∧ Rel st2 := by
  have X : m_evc 2047 143 [.ref 0, .int x, .int y, .int z] (SH, st) = some (some (.int 0), (SH, (m_up (m_up st 76 0 0) 76 2 0))) := by
    rw [cal_X11_act 2046, eX11_act_0, cal_X8_clear 2045, eX8_clear_0]
    simp only [m_bd, Option.toList, List.cons_append, List.nil_append]
    rw [eX11_act_7, x_isSf 2045]
    simp only [m_bd, Option.toList, List.cons_append, List.nil_append]
    rw [eX11_act_11, bZ_if, gR_if]
    by_cases h1 : gR 0 3 x
    · rw [if_pos h1]
      by_cases h2 : gR 0 3 y
      · obtain ⟨q, hq, rfl⟩ := gR_e3 h1
        rw [if_pos (show gR (0 : Int32).toInt (3 : Int32).toInt y from h2), x_ton2 2044 st hR (a := (m_up (m_up st 76 0 0) 76 2 0)) rfl rfl rfl hq]
        simp only [m_bd, Option.toList, List.cons_append, List.nil_append]
        rw [eX11_act_28, bZ_if, if_neg (fun w => h ⟨⟨h1, h2⟩, q, hq, rfl, w⟩), eX11_act_31]
      · rw [if_neg (show ¬ gR (0 : Int32).toInt (3 : Int32).toInt y from h2), eX11_act_31]
    · rw [if_neg h1, eX11_act_31]
  have M : ∃ v, m_evc 2047 260 [.ref 85, .int x, .int y, .int z] (SH, (m_up (m_up st 76 0 0) 76 2 0)) = some (some (.int 0), (SH, m_up (m_up (m_up (m_up (m_up st 76 0 0) 76 2 0) 85 31 0) 85 35 0) 85 32 v)) := by
    rw [cal_X12_act 2046, eX12_act_0]
    by_cases h1 : gR 0 3 x
    · obtain ⟨q, hq, rfl⟩ := gR_e3 h1
      rw [m_ton2 2043 st hR (show (m_up (m_up (m_up (m_up st 76 0 0) 76 2 0) 85 31 0) 85 35 0) 86 = st 86 from rfl) rfl rfl hq]
      simp only [m_bd, Option.toList, List.cons_append, List.nil_append]
      by_cases ht : tOn st q
      · obtain ⟨k, hk, ek⟩ := gT_e ht.2
        refine ⟨st 74 q, ?_⟩
        rw [if_pos ht, eX12_act_16, ek, if_neg (by rw [n_pos k (by have := (Rel_x hR).2.1.1.2; omega)]; exact fun w => w), s_inb 2045]
        simp only [m_bd, Option.toList, List.cons_append, List.nil_append]
        rw [eX12_act_35, bZ_if, if_neg (show ¬ ((0 : Int64).toInt ≤ y.toInt ∧ y.toInt ≤ (3 : Int64).toInt) from fun w => h ⟨⟨h1, w⟩, q, hq, rfl, ht⟩), eX12_act_38]
      · refine ⟨-1, ?_⟩
        rw [if_neg ht, eX12_act_16, if_pos (by decide), eX12_act_38]
    · rw [m_tonB 2043 _ h1]
      simp only [m_bd, Option.toList, List.cons_append, List.nil_append]
      refine ⟨-1, ?_⟩
      rw [eX12_act_16, if_pos (by decide), eX12_act_38]
  obtain ⟨v, M⟩ := M
  refine ⟨0, _, _, X, M, ?_⟩
  refine act_fin hR (L := []) (p := false) (by simp) (fa_0 st) (TX_0 st) (fr_up (fr_up (fr_up (fr_refl _ _) rfl) rfl) rfl) (fun j hj => by rw [up_nj (by omega), up_nj (by omega), up_nj (by omega)]) ⟨?_, ?_, fun i hi => by simp at hi⟩
  · rw [up_nj (by decide), up_nj (by decide), up_in]; rfl
  · rw [up_nj (by decide), up_in]; rfl
theorem act_1 {st : zS} (hR : Rel st) {q k : Nat} (hq : q < 4) (hk : k < tn (st 86)) (ek : st 74 q = Int32.ofNat k) (ht : tOn st q) (eK : st 86 (12 + 6 * k) = 1) {y : Int32} (hy : y = 0 ∨ y = 1 ∨ y = 2 ∨ y = 3) (hx3 : gR 0 3 (Int32.ofNat q)) (z : Int32) : ∃ (r : Int32) (st1 st2 : Nat → Nat → Int32), m_evc 2047 143 [.ref 0, .int (Int32.ofNat q), .int y, .int z] (SH, st) = some (some (.int r), (SH, st1)) ∧ m_evc 2047 260 [.ref 85, .int (Int32.ofNat q), .int y, .int z] (SH, st1) = some (some (.int r), (SH, st2)) ∧ Rel st2 := by
  obtain ⟨hN, hV, h7, e0⟩ := Rel_x hR
  have h9 := hV.1.2
  obtain ⟨n2, _, n4, _⟩ := hN.2.2.2.1 k hk
  have hy3 : gR 0 3 y := by rcases hy with rfl | rfl | rfl | rfl <;> exact ⟨by decide, by decide⟩
  have cX : m_case y [[0, 108], [1, 119], [2, 130]] 141 = if y = 0 then 108 else if y = 1 then 119 else if y = 2 then 130 else 141 := rfl
  have hA : ∃ A : zS, fr [76, 77, 79, 80, 81, 82, 83, 84] st A ∧ TX A [] false ∧ A 80 1 = Int32.ofNat k ∧ A 80 2 = st 4 k ∧ m_evc 2047 143 [.ref 0, .int (Int32.ofNat q), .int y, .int z] (SH, st) = m_ev none 2046 143 (if y = 0 then 108 else if y = 1 then 119 else if y = 2 then 130 else 141) [some (.ref 0), some (.int (Int32.ofNat q)), some (.int y), some (.int z), some (.int (Int32.ofNat k)), some (.ref 80), none] [] (SH, A) := by
    refine ⟨m_up (m_up (m_up (m_up st 76 0 0) 76 2 0) 80 1 (Int32.ofNat k)) 80 2 (st 4 k), fr_up (fr_up (fa_0 st) rfl) rfl, ?_, by rw [up_nj (by decide), up_in], by rw [up_in], ?_⟩
    · obtain ⟨t1, t2, t3⟩ := TX_0 st
      exact ⟨t1, t2, t3⟩
    · rw [cal_X11_act 2046, eX11_act_0, cal_X8_clear 2045, eX8_clear_0]
      simp only [m_bd, Option.toList, List.cons_append, List.nil_append]
      rw [eX11_act_7, x_isSf 2045]
      simp only [m_bd, Option.toList, List.cons_append, List.nil_append]
      rw [eX11_act_11, bZ_if, gR_if, if_pos hx3, if_pos (show gR (0 : Int32).toInt (3 : Int32).toInt y from hy3), x_ton2 2044 st hR (a := (m_up (m_up st 76 0 0) 76 2 0)) rfl rfl rfl hq]
      simp only [m_bd, Option.toList, List.cons_append, List.nil_append]
      rw [eX11_act_28, bZ_if, if_pos ht, eX11_act_33, ix_4 hq, ob_s, show (m_up (m_up st 76 0 0) 76 2 0) 74 q = st 74 q from rfl, ek, ix_9 (show k < 9 by omega), ob_s, show (m_up (m_up st 76 0 0) 76 2 0) 2 k = st 2 k from rfl, n2, eK, show m_ix (1 : Int32) 6 = some 1 from rfl, ob_s, show va_rf (m_ri [some 79, some 80, some 81, some 82, some 83, some 84] 1) = Value.ref 80 from rfl, eX11_act_56_v1, ix_9 (show k < 9 by omega), ob_s, cX, show (m_up (m_up st 76 0 0) 76 2 0) 4 k = st 4 k from rfl]
  obtain ⟨A, fA, tA, A1, A2, eA⟩ := hA
  have hG : ∀ b : zS, b 86 = st 86 → b 98 = st 98 → b 99 = st 99 → ∃ G : zS, fr [85, 101] b G ∧ (∀ j, j < 31 → G 85 j = b 85 j) ∧ TM G [] false ∧ G 85 32 = Int32.ofNat k ∧ G 85 33 = st 4 k ∧ G 85 34 = 1 ∧ m_evc 2047 260 [.ref 85, .int (Int32.ofNat q), .int y, .int z] (SH, b) = (if y = 0 then m_bd (m_evc 2046 255 [.ref 85, .int z] (SH, G)) fun w h => m_ev none 2046 260 75 [some (.ref 85), some (.int (Int32.ofNat q)), some (.int y), some (.int z), none] (w.toList ++ []) h else m_ev none 2046 260 78 [some (.ref 85), some (.int (Int32.ofNat q)), some (.int y), some (.int z), none] [] (SH, G)) := by
    intro b e86 e98 e99
    refine ⟨m_up (m_up (m_up (m_up (m_up b 85 31 0) 85 35 0) 85 32 (Int32.ofNat k)) 85 33 (st 4 k)) 85 34 1, fr_up (fr_up (fr_up (fr_up (fr_up (fr_refl _ _) rfl) rfl) rfl) rfl) rfl, fun j hj => by rw [up_nj (by omega), up_nj (by omega), up_nj (by omega), up_nj (by omega), up_nj (by omega)], ⟨?_, ?_, fun i hi => by simp at hi⟩, ?_, ?_, up_in _ _ _ _, ?_⟩
    · rw [up_nj (by decide), up_nj (by decide), up_nj (by decide), up_nj (by decide), up_in]; rfl
    · rw [up_nj (by decide), up_nj (by decide), up_nj (by decide), up_in]; rfl
    · rw [up_nj (by decide), up_nj (by decide), up_in]
    · rw [up_nj (by decide), up_in]
    · rw [cal_X12_act 2046, eX12_act_0, m_ton2 2043 st hR (g := (m_up (m_up b 85 31 0) 85 35 0)) (by rw [← e86]; rfl) (by rw [← e98]; rfl) (by rw [← e99]; rfl) hq, if_pos ht, ek]
      simp only [m_bd, Option.toList, List.cons_append, List.nil_append]
      rw [eX12_act_16, if_neg (by rw [n_pos k (by omega)]; exact fun w => w), s_inb 2045]
      simp only [m_bd, Option.toList, List.cons_append, List.nil_append]
      rw [eX12_act_35, bZ_if, if_pos (show (0 : Int64).toInt ≤ y.toInt ∧ y.toInt ≤ (3 : Int64).toInt from hy3), eX12_act_40, up_in, s_its2 2044 _ (show k < 9 by omega), up_ne (show 86 ≠ 85 by decide), up_ne (show 86 ≠ 85 by decide), up_ne (show 86 ≠ 85 by decide), e86, ← n4]
      simp only [m_bd, Option.toList, List.cons_append, List.nil_append]
      rw [eX12_act_50, up_in, s_its0 2044 _ (show k < 9 by omega), up_ne (show 86 ≠ 85 by decide), up_ne (show 86 ≠ 85 by decide), up_ne (show 86 ≠ 85 by decide), up_ne (show 86 ≠ 85 by decide), e86, eK]
      simp only [m_bd, Option.toList, List.cons_append, List.nil_append]
      rw [eX12_act_63]
      simp only [m_bd, Option.toList, List.cons_append, List.nil_append]
  rcases hy with rfl | rfl | rfl | rfl
  · obtain ⟨a, ea, fa, ta⟩ := xC1 2043 tA (by simp) z
    simp only [A1, A2] at ea
    have fAa : fr [76, 77, 79, 80, 81, 82, 83, 84] st a := fr_mono (fr_tr fA fa) (by decide)
    obtain ⟨G, fG, sG, tG, G1, G2, G3, eG⟩ := hG a (fAa 86 rfl) (fAa 98 rfl) (fAa 99 rfl)
    obtain ⟨g, eg, fg, tg⟩ := mC1 2044 tG (by simp) G3 z
    simp only [G1, G2] at eg
    refine ⟨(z + Int32.ofNat k) * 3, a, g, ?_, ?_, act_fin hR (by simp) fAa ta (fr_mono (fr_tr fG fg.1) (by decide)) (fun j hj => by rw [fg.2 j (by omega) (by omega), sG j hj]) tg⟩
    · rw [eA, if_pos rfl, eX11_act_108_v1, ea]
      simp only [m_bd, Option.toList, List.cons_append, List.nil_append]
      rw [eX11_act_114_v1, eX11_act_149_v1, if_pos (show a 76 2 = 0 from ta.2.1), eX11_act_164_v1, eX11_act_166_v1]
    · rw [eG, if_pos rfl, eg]
      simp only [m_bd, Option.toList, List.cons_append, List.nil_append]
      rw [eX12_act_75, eX12_act_109, if_pos (show g 85 35 = 0 from tg.2.1), eX12_act_123, eX12_act_125]
  · obtain ⟨a, ea, fa, ta⟩ := xH1 2041 tA (by simp) z
    simp only [A1, A2] at ea
    have fAa : fr [76, 77, 79, 80, 81, 82, 83, 84] st a := fr_mono (fr_tr fA fa) (by decide)
    obtain ⟨G, fG, sG, tG, G1, G2, G3, eG⟩ := hG a (fAa 86 rfl) (fAa 98 rfl) (fAa 99 rfl)
    obtain ⟨g, eg, fg, tg⟩ := mH1 2043 tG (by simp) G3 z
    simp only [G1, G2] at eg
    refine ⟨((z + Int32.ofNat k) * 3) * 2, a, g, ?_, ?_, act_fin hR (by simp) fAa ta (fr_mono (fr_tr fG fg.1) (by decide)) (fun j hj => by rw [fg.2 j (by omega) (by omega), sG j hj]) tg⟩
    · rw [eA, if_neg (by decide), if_pos rfl, eX11_act_119_v1, ea]
      simp only [m_bd, Option.toList, List.cons_append, List.nil_append]
      rw [eX11_act_125_v1, eX11_act_149_v1, if_pos (show a 76 2 = 0 from ta.2.1), eX11_act_164_v1, eX11_act_166_v1]
    · rw [eG, if_neg (by decide), eX12_act_78, if_pos rfl, eg]
      simp only [m_bd, Option.toList, List.cons_append, List.nil_append]
      rw [eX12_act_88, eX12_act_109, if_pos (show g 85 35 = 0 from tg.2.1), eX12_act_123, eX12_act_125]
  · obtain ⟨a, ea, fa, ta⟩ := xP1 2044 tA (by simp) z
    simp only [A1, A2] at ea ta
    have fAa : fr [76, 77, 79, 80, 81, 82, 83, 84] st a := fr_mono (fr_tr fA fa) (by decide)
    obtain ⟨G, fG, sG, tG, G1, G2, G3, eG⟩ := hG a (fAa 86 rfl) (fAa 98 rfl) (fAa 99 rfl)
    obtain ⟨g, eg, fg, tg⟩ := mS1 2043 tG (by simp) G3 z
    simp only [G1, G2] at eg tg
    by_cases p : st 4 k - Int32.ofNat k = 0
    · have pa : ¬ a 76 2 = 0 := by rw [ta.2.1, decide_eq_true p]; decide
      have pg : ¬ g 85 35 = 0 := by rw [tg.2.1, decide_eq_true p]; decide
      refine ⟨-15, a, g, ?_, ?_, act_fin hR (by simp) fAa ta (fr_mono (fr_tr fG fg.1) (by decide)) (fun j hj => by rw [fg.2 j (by omega) (by omega), sG j hj]) tg⟩
      · rw [eA, if_neg (by decide), if_neg (by decide), if_pos rfl, eX11_act_130_v1, ea]
        simp only [m_bd, Option.toList, List.cons_append, List.nil_append]
        rw [eX11_act_136_v1, eX11_act_149_v1, if_neg pa, eX11_act_166_v1]
      · rw [eG, if_neg (by decide), eX12_act_78, if_neg (by decide), eX12_act_91, if_pos rfl, eg]
        simp only [m_bd, Option.toList, List.cons_append, List.nil_append]
        rw [eX12_act_101, eX12_act_109, if_neg pg, eX12_act_125]
    · have pa : a 76 2 = 0 := by rw [ta.2.1, decide_eq_false p]; decide
      have pg : g 85 35 = 0 := by rw [tg.2.1, decide_eq_false p]; decide
      refine ⟨if st 4 k - Int32.ofNat k = 0 then 0 else z / (st 4 k - Int32.ofNat k), a, g, ?_, ?_, act_fin hR (by simp) fAa ta (fr_mono (fr_tr fG fg.1) (by decide)) (fun j hj => by rw [fg.2 j (by omega) (by omega), sG j hj]) tg⟩
      rotate_left
      · rw [eG, if_neg (by decide), eX12_act_78, if_neg (by decide), eX12_act_91, if_pos rfl, eg]
        simp only [m_bd, Option.toList, List.cons_append, List.nil_append]
        rw [eX12_act_101, eX12_act_109, if_pos pg, eX12_act_123, eX12_act_125]
      · rw [eA, if_neg (by decide), if_neg (by decide), if_pos rfl, eX11_act_130_v1, ea]
        simp only [m_bd, Option.toList, List.cons_append, List.nil_append]
        rw [eX11_act_136_v1, eX11_act_149_v1, if_pos pa, eX11_act_164_v1, eX11_act_166_v1]
  · obtain ⟨a, ea, fa, ta⟩ := xU1 2040 tA (by simp) z
    simp only [A1, A2] at ea
    have fAa : fr [76, 77, 79, 80, 81, 82, 83, 84] st a := fr_mono (fr_tr fA fa) (by decide)
    obtain ⟨G, fG, sG, tG, G1, G2, G3, eG⟩ := hG a (fAa 86 rfl) (fAa 98 rfl) (fAa 99 rfl)
    obtain ⟨g, eg, fg, tg⟩ := mT1 2042 tG (by simp) G3 z
    simp only [G1, G2] at eg
    refine ⟨(((z + Int32.ofNat k) * 3) * 2) ^^^ st 4 k, a, g, ?_, ?_, act_fin hR (by simp) fAa ta (fr_mono (fr_tr fG fg.1) (by decide)) (fun j hj => by rw [fg.2 j (by omega) (by omega), sG j hj]) tg⟩
    · rw [eA, if_neg (by decide), if_neg (by decide), if_neg (by decide), eX11_act_141_v1, ea]
      simp only [m_bd, Option.toList, List.cons_append, List.nil_append]
      rw [eX11_act_147_v1, eX11_act_149_v1, if_pos (show a 76 2 = 0 from ta.2.1), eX11_act_164_v1, eX11_act_166_v1]
    · rw [eG, if_neg (by decide), eX12_act_78, if_neg (by decide), eX12_act_91, if_neg (by decide), eX12_act_104, eg]
      simp only [m_bd, Option.toList, List.cons_append, List.nil_append]
      rw [eX12_act_109, if_pos (show g 85 35 = 0 from tg.2.1), eX12_act_123, eX12_act_125]
theorem act_2 {st : zS} (hR : Rel st) {q k : Nat} (hq : q < 4) (hk : k < tn (st 86)) (ek : st 74 q = Int32.ofNat k) (ht : tOn st q) (eK : st 86 (12 + 6 * k) = 2) {y : Int32} (hy : y = 0 ∨ y = 1 ∨ y = 2 ∨ y = 3) (hx3 : gR 0 3 (Int32.ofNat q)) (z : Int32) : ∃ (r : Int32) (st1 st2 : Nat → Nat → Int32), m_evc 2047 143 [.ref 0, .int (Int32.ofNat q), .int y, .int z] (SH, st) = some (some (.int r), (SH, st1)) ∧ m_evc 2047 260 [.ref 85, .int (Int32.ofNat q), .int y, .int z] (SH, st1) = some (some (.int r), (SH, st2)) ∧ Rel st2 := by
  obtain ⟨hN, hV, h7, e0⟩ := Rel_x hR
  have h9 := hV.1.2
  obtain ⟨n2, _, n4, _⟩ := hN.2.2.2.1 k hk
  have hy3 : gR 0 3 y := by rcases hy with rfl | rfl | rfl | rfl <;> exact ⟨by decide, by decide⟩
  have cX : m_case y [[0, 108], [1, 119], [2, 130]] 141 = if y = 0 then 108 else if y = 1 then 119 else if y = 2 then 130 else 141 := rfl
  have hA : ∃ A : zS, fr [76, 77, 79, 80, 81, 82, 83, 84] st A ∧ TX A [] false ∧ A 81 1 = Int32.ofNat k ∧ A 81 2 = st 4 k ∧ m_evc 2047 143 [.ref 0, .int (Int32.ofNat q), .int y, .int z] (SH, st) = m_ev none 2046 143 (if y = 0 then 108 else if y = 1 then 119 else if y = 2 then 130 else 141) [some (.ref 0), some (.int (Int32.ofNat q)), some (.int y), some (.int z), some (.int (Int32.ofNat k)), some (.ref 81), none] [] (SH, A) := by
    refine ⟨m_up (m_up (m_up (m_up st 76 0 0) 76 2 0) 81 1 (Int32.ofNat k)) 81 2 (st 4 k), fr_up (fr_up (fa_0 st) rfl) rfl, ?_, by rw [up_nj (by decide), up_in], by rw [up_in], ?_⟩
    · obtain ⟨t1, t2, t3⟩ := TX_0 st
      exact ⟨t1, t2, t3⟩
    · rw [cal_X11_act 2046, eX11_act_0, cal_X8_clear 2045, eX8_clear_0]
      simp only [m_bd, Option.toList, List.cons_append, List.nil_append]
      rw [eX11_act_7, x_isSf 2045]
      simp only [m_bd, Option.toList, List.cons_append, List.nil_append]
      rw [eX11_act_11, bZ_if, gR_if, if_pos hx3, if_pos (show gR (0 : Int32).toInt (3 : Int32).toInt y from hy3), x_ton2 2044 st hR (a := (m_up (m_up st 76 0 0) 76 2 0)) rfl rfl rfl hq]
      simp only [m_bd, Option.toList, List.cons_append, List.nil_append]
      rw [eX11_act_28, bZ_if, if_pos ht, eX11_act_33, ix_4 hq, ob_s, show (m_up (m_up st 76 0 0) 76 2 0) 74 q = st 74 q from rfl, ek, ix_9 (show k < 9 by omega), ob_s, show (m_up (m_up st 76 0 0) 76 2 0) 2 k = st 2 k from rfl, n2, eK, show m_ix (2 : Int32) 6 = some 2 from rfl, ob_s, show va_rf (m_ri [some 79, some 80, some 81, some 82, some 83, some 84] 2) = Value.ref 81 from rfl, eX11_act_56_v2, ix_9 (show k < 9 by omega), ob_s, cX, show (m_up (m_up st 76 0 0) 76 2 0) 4 k = st 4 k from rfl]
  obtain ⟨A, fA, tA, A1, A2, eA⟩ := hA
  have hG : ∀ b : zS, b 86 = st 86 → b 98 = st 98 → b 99 = st 99 → ∃ G : zS, fr [85, 101] b G ∧ (∀ j, j < 31 → G 85 j = b 85 j) ∧ TM G [] false ∧ G 85 32 = Int32.ofNat k ∧ G 85 33 = st 4 k ∧ G 85 34 = 2 ∧ m_evc 2047 260 [.ref 85, .int (Int32.ofNat q), .int y, .int z] (SH, b) = (if y = 0 then m_bd (m_evc 2046 255 [.ref 85, .int z] (SH, G)) fun w h => m_ev none 2046 260 75 [some (.ref 85), some (.int (Int32.ofNat q)), some (.int y), some (.int z), none] (w.toList ++ []) h else m_ev none 2046 260 78 [some (.ref 85), some (.int (Int32.ofNat q)), some (.int y), some (.int z), none] [] (SH, G)) := by
    intro b e86 e98 e99
    refine ⟨m_up (m_up (m_up (m_up (m_up b 85 31 0) 85 35 0) 85 32 (Int32.ofNat k)) 85 33 (st 4 k)) 85 34 2, fr_up (fr_up (fr_up (fr_up (fr_up (fr_refl _ _) rfl) rfl) rfl) rfl) rfl, fun j hj => by rw [up_nj (by omega), up_nj (by omega), up_nj (by omega), up_nj (by omega), up_nj (by omega)], ⟨?_, ?_, fun i hi => by simp at hi⟩, ?_, ?_, up_in _ _ _ _, ?_⟩
    · rw [up_nj (by decide), up_nj (by decide), up_nj (by decide), up_nj (by decide), up_in]; rfl
    · rw [up_nj (by decide), up_nj (by decide), up_nj (by decide), up_in]; rfl
    · rw [up_nj (by decide), up_nj (by decide), up_in]
    · rw [up_nj (by decide), up_in]
    · rw [cal_X12_act 2046, eX12_act_0, m_ton2 2043 st hR (g := (m_up (m_up b 85 31 0) 85 35 0)) (by rw [← e86]; rfl) (by rw [← e98]; rfl) (by rw [← e99]; rfl) hq, if_pos ht, ek]
      simp only [m_bd, Option.toList, List.cons_append, List.nil_append]
      rw [eX12_act_16, if_neg (by rw [n_pos k (by omega)]; exact fun w => w), s_inb 2045]
      simp only [m_bd, Option.toList, List.cons_append, List.nil_append]
      rw [eX12_act_35, bZ_if, if_pos (show (0 : Int64).toInt ≤ y.toInt ∧ y.toInt ≤ (3 : Int64).toInt from hy3), eX12_act_40, up_in, s_its2 2044 _ (show k < 9 by omega), up_ne (show 86 ≠ 85 by decide), up_ne (show 86 ≠ 85 by decide), up_ne (show 86 ≠ 85 by decide), e86, ← n4]
      simp only [m_bd, Option.toList, List.cons_append, List.nil_append]
      rw [eX12_act_50, up_in, s_its0 2044 _ (show k < 9 by omega), up_ne (show 86 ≠ 85 by decide), up_ne (show 86 ≠ 85 by decide), up_ne (show 86 ≠ 85 by decide), up_ne (show 86 ≠ 85 by decide), e86, eK]
      simp only [m_bd, Option.toList, List.cons_append, List.nil_append]
      rw [eX12_act_63]
      simp only [m_bd, Option.toList, List.cons_append, List.nil_append]
  rcases hy with rfl | rfl | rfl | rfl
  · obtain ⟨a, ea, fa, ta⟩ := xC2 2043 tA (by simp) z
    simp only [A1, A2] at ea
    have fAa : fr [76, 77, 79, 80, 81, 82, 83, 84] st a := fr_mono (fr_tr fA fa) (by decide)
    obtain ⟨G, fG, sG, tG, G1, G2, G3, eG⟩ := hG a (fAa 86 rfl) (fAa 98 rfl) (fAa 99 rfl)
    obtain ⟨g, eg, fg, tg⟩ := mC2 2044 tG (by simp) G3 z
    simp only [G1, G2] at eg
    refine ⟨z + Int32.ofNat k, a, g, ?_, ?_, act_fin hR (by simp) fAa ta (fr_mono (fr_tr fG fg.1) (by decide)) (fun j hj => by rw [fg.2 j (by omega) (by omega), sG j hj]) tg⟩
    · rw [eA, if_pos rfl, eX11_act_108_v2, ea]
      simp only [m_bd, Option.toList, List.cons_append, List.nil_append]
      rw [eX11_act_114_v2, eX11_act_149_v2, if_pos (show a 76 2 = 0 from ta.2.1), eX11_act_164_v2, eX11_act_166_v2]
    · rw [eG, if_pos rfl, eg]
      simp only [m_bd, Option.toList, List.cons_append, List.nil_append]
      rw [eX12_act_75, eX12_act_109, if_pos (show g 85 35 = 0 from tg.2.1), eX12_act_123, eX12_act_125]
  · obtain ⟨a, ea, fa, ta⟩ := xH2 2041 tA (by simp) z
    simp only [A1, A2] at ea
    have fAa : fr [76, 77, 79, 80, 81, 82, 83, 84] st a := fr_mono (fr_tr fA fa) (by decide)
    obtain ⟨G, fG, sG, tG, G1, G2, G3, eG⟩ := hG a (fAa 86 rfl) (fAa 98 rfl) (fAa 99 rfl)
    obtain ⟨g, eg, fg, tg⟩ := mH2 2043 tG (by simp) G3 z
    simp only [G1, G2] at eg
    refine ⟨(z + Int32.ofNat k) * 2 - st 4 k, a, g, ?_, ?_, act_fin hR (by simp) fAa ta (fr_mono (fr_tr fG fg.1) (by decide)) (fun j hj => by rw [fg.2 j (by omega) (by omega), sG j hj]) tg⟩
    · rw [eA, if_neg (by decide), if_pos rfl, eX11_act_119_v2, ea]
      simp only [m_bd, Option.toList, List.cons_append, List.nil_append]
      rw [eX11_act_125_v2, eX11_act_149_v2, if_pos (show a 76 2 = 0 from ta.2.1), eX11_act_164_v2, eX11_act_166_v2]
    · rw [eG, if_neg (by decide), eX12_act_78, if_pos rfl, eg]
      simp only [m_bd, Option.toList, List.cons_append, List.nil_append]
      rw [eX12_act_88, eX12_act_109, if_pos (show g 85 35 = 0 from tg.2.1), eX12_act_123, eX12_act_125]
  · obtain ⟨a, ea, fa, ta⟩ := xP2 2044 tA (by simp) z
    simp only [A1, A2] at ea ta
    have fAa : fr [76, 77, 79, 80, 81, 82, 83, 84] st a := fr_mono (fr_tr fA fa) (by decide)
    obtain ⟨G, fG, sG, tG, G1, G2, G3, eG⟩ := hG a (fAa 86 rfl) (fAa 98 rfl) (fAa 99 rfl)
    obtain ⟨g, eg, fg, tg⟩ := mS2 2043 tG (by simp) G3 z
    simp only [G1, G2] at eg tg
    by_cases p : st 4 k - Int32.ofNat k = 0
    · have pa : ¬ a 76 2 = 0 := by rw [ta.2.1, decide_eq_true p]; decide
      have pg : ¬ g 85 35 = 0 := by rw [tg.2.1, decide_eq_true p]; decide
      refine ⟨-15, a, g, ?_, ?_, act_fin hR (by simp) fAa ta (fr_mono (fr_tr fG fg.1) (by decide)) (fun j hj => by rw [fg.2 j (by omega) (by omega), sG j hj]) tg⟩
      · rw [eA, if_neg (by decide), if_neg (by decide), if_pos rfl, eX11_act_130_v2, ea]
        simp only [m_bd, Option.toList, List.cons_append, List.nil_append]
        rw [eX11_act_136_v2, eX11_act_149_v2, if_neg pa, eX11_act_166_v2]
      · rw [eG, if_neg (by decide), eX12_act_78, if_neg (by decide), eX12_act_91, if_pos rfl, eg]
        simp only [m_bd, Option.toList, List.cons_append, List.nil_append]
        rw [eX12_act_101, eX12_act_109, if_neg pg, eX12_act_125]
    · have pa : a 76 2 = 0 := by rw [ta.2.1, decide_eq_false p]; decide
      have pg : g 85 35 = 0 := by rw [tg.2.1, decide_eq_false p]; decide
      refine ⟨if st 4 k - Int32.ofNat k = 0 then 0 else z / (st 4 k - Int32.ofNat k), a, g, ?_, ?_, act_fin hR (by simp) fAa ta (fr_mono (fr_tr fG fg.1) (by decide)) (fun j hj => by rw [fg.2 j (by omega) (by omega), sG j hj]) tg⟩
      rotate_left
      · rw [eG, if_neg (by decide), eX12_act_78, if_neg (by decide), eX12_act_91, if_pos rfl, eg]
        simp only [m_bd, Option.toList, List.cons_append, List.nil_append]
        rw [eX12_act_101, eX12_act_109, if_pos pg, eX12_act_123, eX12_act_125]
      · rw [eA, if_neg (by decide), if_neg (by decide), if_pos rfl, eX11_act_130_v2, ea]
        simp only [m_bd, Option.toList, List.cons_append, List.nil_append]
        rw [eX11_act_136_v2, eX11_act_149_v2, if_pos pa, eX11_act_164_v2, eX11_act_166_v2]
  · obtain ⟨a, ea, fa, ta⟩ := xU2 2040 tA (by simp) z
    simp only [A1, A2] at ea
    have fAa : fr [76, 77, 79, 80, 81, 82, 83, 84] st a := fr_mono (fr_tr fA fa) (by decide)
    obtain ⟨G, fG, sG, tG, G1, G2, G3, eG⟩ := hG a (fAa 86 rfl) (fAa 98 rfl) (fAa 99 rfl)
    obtain ⟨g, eg, fg, tg⟩ := mT2 2042 tG (by simp) G3 z
    simp only [G1, G2] at eg
    refine ⟨((z + Int32.ofNat k) * 2 - st 4 k) ^^^ st 4 k, a, g, ?_, ?_, act_fin hR (by simp) fAa ta (fr_mono (fr_tr fG fg.1) (by decide)) (fun j hj => by rw [fg.2 j (by omega) (by omega), sG j hj]) tg⟩
    · rw [eA, if_neg (by decide), if_neg (by decide), if_neg (by decide), eX11_act_141_v2, ea]
      simp only [m_bd, Option.toList, List.cons_append, List.nil_append]
      rw [eX11_act_147_v2, eX11_act_149_v2, if_pos (show a 76 2 = 0 from ta.2.1), eX11_act_164_v2, eX11_act_166_v2]
    · rw [eG, if_neg (by decide), eX12_act_78, if_neg (by decide), eX12_act_91, if_neg (by decide), eX12_act_104, eg]
      simp only [m_bd, Option.toList, List.cons_append, List.nil_append]
      rw [eX12_act_109, if_pos (show g 85 35 = 0 from tg.2.1), eX12_act_123, eX12_act_125]
theorem act_3 {st : zS} (hR : Rel st) {q k : Nat} (hq : q < 4) (hk : k < tn (st 86)) (ek : st 74 q = Int32.ofNat k) (ht : tOn st q) (eK : st 86 (12 + 6 * k) = 3) {y : Int32} (hy : y = 0 ∨ y = 1 ∨ y = 2 ∨ y = 3) (hx3 : gR 0 3 (Int32.ofNat q)) (z : Int32) : ∃ (r : Int32) (st1 st2 : Nat → Nat → Int32), m_evc 2047 143 [.ref 0, .int (Int32.ofNat q), .int y, .int z] (SH, st) = some (some (.int r), (SH, st1)) ∧ m_evc 2047 260 [.ref 85, .int (Int32.ofNat q), .int y, .int z] (SH, st1) = some (some (.int r), (SH, st2)) ∧ Rel st2 := by
  obtain ⟨hN, hV, h7, e0⟩ := Rel_x hR
  have h9 := hV.1.2
  obtain ⟨n2, _, n4, _⟩ := hN.2.2.2.1 k hk
  have hy3 : gR 0 3 y := by rcases hy with rfl | rfl | rfl | rfl <;> exact ⟨by decide, by decide⟩
  have cX : m_case y [[0, 108], [1, 119], [2, 130]] 141 = if y = 0 then 108 else if y = 1 then 119 else if y = 2 then 130 else 141 := rfl
  have hA : ∃ A : zS, fr [76, 77, 79, 80, 81, 82, 83, 84] st A ∧ TX A [] false ∧ A 82 1 = Int32.ofNat k ∧ A 82 2 = st 4 k ∧ m_evc 2047 143 [.ref 0, .int (Int32.ofNat q), .int y, .int z] (SH, st) = m_ev none 2046 143 (if y = 0 then 108 else if y = 1 then 119 else if y = 2 then 130 else 141) [some (.ref 0), some (.int (Int32.ofNat q)), some (.int y), some (.int z), some (.int (Int32.ofNat k)), some (.ref 82), none] [] (SH, A) := by
    refine ⟨m_up (m_up (m_up (m_up st 76 0 0) 76 2 0) 82 1 (Int32.ofNat k)) 82 2 (st 4 k), fr_up (fr_up (fa_0 st) rfl) rfl, ?_, by rw [up_nj (by decide), up_in], by rw [up_in], ?_⟩
    · obtain ⟨t1, t2, t3⟩ := TX_0 st
      exact ⟨t1, t2, t3⟩
    · rw [cal_X11_act 2046, eX11_act_0, cal_X8_clear 2045, eX8_clear_0]
      simp only [m_bd, Option.toList, List.cons_append, List.nil_append]
      rw [eX11_act_7, x_isSf 2045]
      simp only [m_bd, Option.toList, List.cons_append, List.nil_append]
      rw [eX11_act_11, bZ_if, gR_if, if_pos hx3, if_pos (show gR (0 : Int32).toInt (3 : Int32).toInt y from hy3), x_ton2 2044 st hR (a := (m_up (m_up st 76 0 0) 76 2 0)) rfl rfl rfl hq]
      simp only [m_bd, Option.toList, List.cons_append, List.nil_append]
      rw [eX11_act_28, bZ_if, if_pos ht, eX11_act_33, ix_4 hq, ob_s, show (m_up (m_up st 76 0 0) 76 2 0) 74 q = st 74 q from rfl, ek, ix_9 (show k < 9 by omega), ob_s, show (m_up (m_up st 76 0 0) 76 2 0) 2 k = st 2 k from rfl, n2, eK, show m_ix (3 : Int32) 6 = some 3 from rfl, ob_s, show va_rf (m_ri [some 79, some 80, some 81, some 82, some 83, some 84] 3) = Value.ref 82 from rfl, eX11_act_56_v3, ix_9 (show k < 9 by omega), ob_s, cX, show (m_up (m_up st 76 0 0) 76 2 0) 4 k = st 4 k from rfl]
  obtain ⟨A, fA, tA, A1, A2, eA⟩ := hA
  have hG : ∀ b : zS, b 86 = st 86 → b 98 = st 98 → b 99 = st 99 → ∃ G : zS, fr [85, 101] b G ∧ (∀ j, j < 31 → G 85 j = b 85 j) ∧ TM G [] false ∧ G 85 32 = Int32.ofNat k ∧ G 85 33 = st 4 k ∧ G 85 34 = 3 ∧ m_evc 2047 260 [.ref 85, .int (Int32.ofNat q), .int y, .int z] (SH, b) = (if y = 0 then m_bd (m_evc 2046 255 [.ref 85, .int z] (SH, G)) fun w h => m_ev none 2046 260 75 [some (.ref 85), some (.int (Int32.ofNat q)), some (.int y), some (.int z), none] (w.toList ++ []) h else m_ev none 2046 260 78 [some (.ref 85), some (.int (Int32.ofNat q)), some (.int y), some (.int z), none] [] (SH, G)) := by
    intro b e86 e98 e99
    refine ⟨m_up (m_up (m_up (m_up (m_up b 85 31 0) 85 35 0) 85 32 (Int32.ofNat k)) 85 33 (st 4 k)) 85 34 3, fr_up (fr_up (fr_up (fr_up (fr_up (fr_refl _ _) rfl) rfl) rfl) rfl) rfl, fun j hj => by rw [up_nj (by omega), up_nj (by omega), up_nj (by omega), up_nj (by omega), up_nj (by omega)], ⟨?_, ?_, fun i hi => by simp at hi⟩, ?_, ?_, up_in _ _ _ _, ?_⟩
    · rw [up_nj (by decide), up_nj (by decide), up_nj (by decide), up_nj (by decide), up_in]; rfl
    · rw [up_nj (by decide), up_nj (by decide), up_nj (by decide), up_in]; rfl
    · rw [up_nj (by decide), up_nj (by decide), up_in]
    · rw [up_nj (by decide), up_in]
    · rw [cal_X12_act 2046, eX12_act_0, m_ton2 2043 st hR (g := (m_up (m_up b 85 31 0) 85 35 0)) (by rw [← e86]; rfl) (by rw [← e98]; rfl) (by rw [← e99]; rfl) hq, if_pos ht, ek]
      simp only [m_bd, Option.toList, List.cons_append, List.nil_append]
      rw [eX12_act_16, if_neg (by rw [n_pos k (by omega)]; exact fun w => w), s_inb 2045]
      simp only [m_bd, Option.toList, List.cons_append, List.nil_append]
      rw [eX12_act_35, bZ_if, if_pos (show (0 : Int64).toInt ≤ y.toInt ∧ y.toInt ≤ (3 : Int64).toInt from hy3), eX12_act_40, up_in, s_its2 2044 _ (show k < 9 by omega), up_ne (show 86 ≠ 85 by decide), up_ne (show 86 ≠ 85 by decide), up_ne (show 86 ≠ 85 by decide), e86, ← n4]
      simp only [m_bd, Option.toList, List.cons_append, List.nil_append]
      rw [eX12_act_50, up_in, s_its0 2044 _ (show k < 9 by omega), up_ne (show 86 ≠ 85 by decide), up_ne (show 86 ≠ 85 by decide), up_ne (show 86 ≠ 85 by decide), up_ne (show 86 ≠ 85 by decide), e86, eK]
      simp only [m_bd, Option.toList, List.cons_append, List.nil_append]
      rw [eX12_act_63]
      simp only [m_bd, Option.toList, List.cons_append, List.nil_append]
  rcases hy with rfl | rfl | rfl | rfl
  · obtain ⟨a, ea, fa, ta⟩ := xC3 2043 tA (by simp) z
    simp only [A1, A2] at ea
    have fAa : fr [76, 77, 79, 80, 81, 82, 83, 84] st a := fr_mono (fr_tr fA fa) (by decide)
    obtain ⟨G, fG, sG, tG, G1, G2, G3, eG⟩ := hG a (fAa 86 rfl) (fAa 98 rfl) (fAa 99 rfl)
    obtain ⟨g, eg, fg, tg⟩ := mC3 2044 tG (by simp) G3 z
    simp only [G1, G2] at eg
    refine ⟨(z + Int32.ofNat k) ^^^ Int32.ofNat k, a, g, ?_, ?_, act_fin hR (by simp) fAa ta (fr_mono (fr_tr fG fg.1) (by decide)) (fun j hj => by rw [fg.2 j (by omega) (by omega), sG j hj]) tg⟩
    · rw [eA, if_pos rfl, eX11_act_108_v3, ea]
      simp only [m_bd, Option.toList, List.cons_append, List.nil_append]
      rw [eX11_act_114_v3, eX11_act_149_v3, if_pos (show a 76 2 = 0 from ta.2.1), eX11_act_164_v3, eX11_act_166_v3]
    · rw [eG, if_pos rfl, eg]
      simp only [m_bd, Option.toList, List.cons_append, List.nil_append]
      rw [eX12_act_75, eX12_act_109, if_pos (show g 85 35 = 0 from tg.2.1), eX12_act_123, eX12_act_125]
  · obtain ⟨a, ea, fa, ta⟩ := xH3 2041 tA (by simp) z
    simp only [A1, A2] at ea
    have fAa : fr [76, 77, 79, 80, 81, 82, 83, 84] st a := fr_mono (fr_tr fA fa) (by decide)
    obtain ⟨G, fG, sG, tG, G1, G2, G3, eG⟩ := hG a (fAa 86 rfl) (fAa 98 rfl) (fAa 99 rfl)
    obtain ⟨g, eg, fg, tg⟩ := mH3 2043 tG (by simp) G3 z
    simp only [G1, G2] at eg
    refine ⟨((z + Int32.ofNat k) ^^^ Int32.ofNat k) * 2 - st 4 k, a, g, ?_, ?_, act_fin hR (by simp) fAa ta (fr_mono (fr_tr fG fg.1) (by decide)) (fun j hj => by rw [fg.2 j (by omega) (by omega), sG j hj]) tg⟩
    · rw [eA, if_neg (by decide), if_pos rfl, eX11_act_119_v3, ea]
      simp only [m_bd, Option.toList, List.cons_append, List.nil_append]
      rw [eX11_act_125_v3, eX11_act_149_v3, if_pos (show a 76 2 = 0 from ta.2.1), eX11_act_164_v3, eX11_act_166_v3]
    · rw [eG, if_neg (by decide), eX12_act_78, if_pos rfl, eg]
      simp only [m_bd, Option.toList, List.cons_append, List.nil_append]
      rw [eX12_act_88, eX12_act_109, if_pos (show g 85 35 = 0 from tg.2.1), eX12_act_123, eX12_act_125]
  · obtain ⟨a, ea, fa, ta⟩ := xP3 2044 tA (by simp) z
    simp only [A1, A2] at ea ta
    have fAa : fr [76, 77, 79, 80, 81, 82, 83, 84] st a := fr_mono (fr_tr fA fa) (by decide)
    obtain ⟨G, fG, sG, tG, G1, G2, G3, eG⟩ := hG a (fAa 86 rfl) (fAa 98 rfl) (fAa 99 rfl)
    obtain ⟨g, eg, fg, tg⟩ := mS3 2043 tG (by simp) G3 z
    simp only [G1, G2] at eg tg
    by_cases p : st 4 k - Int32.ofNat k = 0
    · have pa : ¬ a 76 2 = 0 := by rw [ta.2.1, decide_eq_true p]; decide
      have pg : ¬ g 85 35 = 0 := by rw [tg.2.1, decide_eq_true p]; decide
      refine ⟨-15, a, g, ?_, ?_, act_fin hR (by simp) fAa ta (fr_mono (fr_tr fG fg.1) (by decide)) (fun j hj => by rw [fg.2 j (by omega) (by omega), sG j hj]) tg⟩
      · rw [eA, if_neg (by decide), if_neg (by decide), if_pos rfl, eX11_act_130_v3, ea]
        simp only [m_bd, Option.toList, List.cons_append, List.nil_append]
        rw [eX11_act_136_v3, eX11_act_149_v3, if_neg pa, eX11_act_166_v3]
      · rw [eG, if_neg (by decide), eX12_act_78, if_neg (by decide), eX12_act_91, if_pos rfl, eg]
        simp only [m_bd, Option.toList, List.cons_append, List.nil_append]
        rw [eX12_act_101, eX12_act_109, if_neg pg, eX12_act_125]
    · have pa : a 76 2 = 0 := by rw [ta.2.1, decide_eq_false p]; decide
      have pg : g 85 35 = 0 := by rw [tg.2.1, decide_eq_false p]; decide
      refine ⟨if st 4 k - Int32.ofNat k = 0 then 0 else z / (st 4 k - Int32.ofNat k), a, g, ?_, ?_, act_fin hR (by simp) fAa ta (fr_mono (fr_tr fG fg.1) (by decide)) (fun j hj => by rw [fg.2 j (by omega) (by omega), sG j hj]) tg⟩
      rotate_left
      · rw [eG, if_neg (by decide), eX12_act_78, if_neg (by decide), eX12_act_91, if_pos rfl, eg]
        simp only [m_bd, Option.toList, List.cons_append, List.nil_append]
        rw [eX12_act_101, eX12_act_109, if_pos pg, eX12_act_123, eX12_act_125]
      · rw [eA, if_neg (by decide), if_neg (by decide), if_pos rfl, eX11_act_130_v3, ea]
        simp only [m_bd, Option.toList, List.cons_append, List.nil_append]
        rw [eX11_act_136_v3, eX11_act_149_v3, if_pos pa, eX11_act_164_v3, eX11_act_166_v3]
  · obtain ⟨a, ea, fa, ta⟩ := xT3 2039 tA (by simp) z
    simp only [A1, A2] at ea ta
    have fAa : fr [76, 77, 79, 80, 81, 82, 83, 84] st a := fr_mono (fr_tr fA fa) (by decide)
    obtain ⟨G, fG, sG, tG, G1, G2, G3, eG⟩ := hG a (fAa 86 rfl) (fAa 98 rfl) (fAa 99 rfl)
    obtain ⟨g, eg, fg, tg⟩ := mT3 2042 tG (by simp) G3 z
    simp only [G1, G2] at eg tg
    by_cases p : st 4 k - Int32.ofNat k = 0
    · have pa : ¬ a 76 2 = 0 := by rw [ta.2.1, decide_eq_true p]; decide
      have pg : ¬ g 85 35 = 0 := by rw [tg.2.1, decide_eq_true p]; decide
      refine ⟨-15, a, g, ?_, ?_, act_fin hR (by simp) fAa ta (fr_mono (fr_tr fG fg.1) (by decide)) (fun j hj => by rw [fg.2 j (by omega) (by omega), sG j hj]) tg⟩
      · rw [eA, if_neg (by decide), if_neg (by decide), if_neg (by decide), eX11_act_141_v3, ea]
        simp only [m_bd, Option.toList, List.cons_append, List.nil_append]
        rw [eX11_act_147_v3, eX11_act_149_v3, if_neg pa, eX11_act_166_v3]
      · rw [eG, if_neg (by decide), eX12_act_78, if_neg (by decide), eX12_act_91, if_neg (by decide), eX12_act_104, eg]
        simp only [m_bd, Option.toList, List.cons_append, List.nil_append]
        rw [eX12_act_109, if_neg pg, eX12_act_125]
    · have pa : a 76 2 = 0 := by rw [ta.2.1, decide_eq_false p]; decide
      have pg : g 85 35 = 0 := by rw [tg.2.1, decide_eq_false p]; decide
      refine ⟨((((z + Int32.ofNat k) ^^^ Int32.ofNat k) * 2 - st 4 k) ^^^ st 4 k) + (if st 4 k - Int32.ofNat k = 0 then 0 else Int32.ofNat k / (st 4 k - Int32.ofNat k)), a, g, ?_, ?_, act_fin hR (by simp) fAa ta (fr_mono (fr_tr fG fg.1) (by decide)) (fun j hj => by rw [fg.2 j (by omega) (by omega), sG j hj]) tg⟩
      rotate_left
      · rw [eG, if_neg (by decide), eX12_act_78, if_neg (by decide), eX12_act_91, if_neg (by decide), eX12_act_104, eg]
        simp only [m_bd, Option.toList, List.cons_append, List.nil_append]
        rw [eX12_act_109, if_pos pg, eX12_act_123, eX12_act_125]
      · rw [eA, if_neg (by decide), if_neg (by decide), if_neg (by decide), eX11_act_141_v3, ea]
        simp only [m_bd, Option.toList, List.cons_append, List.nil_append]
        rw [eX11_act_147_v3, eX11_act_149_v3, if_pos pa, eX11_act_164_v3, eX11_act_166_v3]
theorem act_4 {st : zS} (hR : Rel st) {q k : Nat} (hq : q < 4) (hk : k < tn (st 86)) (ek : st 74 q = Int32.ofNat k) (ht : tOn st q) (eK : st 86 (12 + 6 * k) = 4) {y : Int32} (hy : y = 0 ∨ y = 1 ∨ y = 2 ∨ y = 3) (hx3 : gR 0 3 (Int32.ofNat q)) (z : Int32) : ∃ (r : Int32) (st1 st2 : Nat → Nat → Int32), m_evc 2047 143 [.ref 0, .int (Int32.ofNat q), .int y, .int z] (SH, st) = some (some (.int r), (SH, st1)) ∧ m_evc 2047 260 [.ref 85, .int (Int32.ofNat q), .int y, .int z] (SH, st1) = some (some (.int r), (SH, st2)) ∧ Rel st2 := by
  obtain ⟨hN, hV, h7, e0⟩ := Rel_x hR
  have h9 := hV.1.2
  obtain ⟨n2, _, n4, _⟩ := hN.2.2.2.1 k hk
  have hy3 : gR 0 3 y := by rcases hy with rfl | rfl | rfl | rfl <;> exact ⟨by decide, by decide⟩
  have cX : m_case y [[0, 108], [1, 119], [2, 130]] 141 = if y = 0 then 108 else if y = 1 then 119 else if y = 2 then 130 else 141 := rfl
  have hA : ∃ A : zS, fr [76, 77, 79, 80, 81, 82, 83, 84] st A ∧ TX A [] false ∧ A 83 1 = Int32.ofNat k ∧ A 83 2 = st 4 k ∧ m_evc 2047 143 [.ref 0, .int (Int32.ofNat q), .int y, .int z] (SH, st) = m_ev none 2046 143 (if y = 0 then 108 else if y = 1 then 119 else if y = 2 then 130 else 141) [some (.ref 0), some (.int (Int32.ofNat q)), some (.int y), some (.int z), some (.int (Int32.ofNat k)), some (.ref 83), none] [] (SH, A) := by
    refine ⟨m_up (m_up (m_up (m_up st 76 0 0) 76 2 0) 83 1 (Int32.ofNat k)) 83 2 (st 4 k), fr_up (fr_up (fa_0 st) rfl) rfl, ?_, by rw [up_nj (by decide), up_in], by rw [up_in], ?_⟩
    · obtain ⟨t1, t2, t3⟩ := TX_0 st
      exact ⟨t1, t2, t3⟩
    · rw [cal_X11_act 2046, eX11_act_0, cal_X8_clear 2045, eX8_clear_0]
      simp only [m_bd, Option.toList, List.cons_append, List.nil_append]
      rw [eX11_act_7, x_isSf 2045]
      simp only [m_bd, Option.toList, List.cons_append, List.nil_append]
      rw [eX11_act_11, bZ_if, gR_if, if_pos hx3, if_pos (show gR (0 : Int32).toInt (3 : Int32).toInt y from hy3), x_ton2 2044 st hR (a := (m_up (m_up st 76 0 0) 76 2 0)) rfl rfl rfl hq]
      simp only [m_bd, Option.toList, List.cons_append, List.nil_append]
      rw [eX11_act_28, bZ_if, if_pos ht, eX11_act_33, ix_4 hq, ob_s, show (m_up (m_up st 76 0 0) 76 2 0) 74 q = st 74 q from rfl, ek, ix_9 (show k < 9 by omega), ob_s, show (m_up (m_up st 76 0 0) 76 2 0) 2 k = st 2 k from rfl, n2, eK, show m_ix (4 : Int32) 6 = some 4 from rfl, ob_s, show va_rf (m_ri [some 79, some 80, some 81, some 82, some 83, some 84] 4) = Value.ref 83 from rfl, eX11_act_56_v4, ix_9 (show k < 9 by omega), ob_s, cX, show (m_up (m_up st 76 0 0) 76 2 0) 4 k = st 4 k from rfl]
  obtain ⟨A, fA, tA, A1, A2, eA⟩ := hA
  have hG : ∀ b : zS, b 86 = st 86 → b 98 = st 98 → b 99 = st 99 → ∃ G : zS, fr [85, 101] b G ∧ (∀ j, j < 31 → G 85 j = b 85 j) ∧ TM G [] false ∧ G 85 32 = Int32.ofNat k ∧ G 85 33 = st 4 k ∧ G 85 34 = 4 ∧ m_evc 2047 260 [.ref 85, .int (Int32.ofNat q), .int y, .int z] (SH, b) = (if y = 0 then m_bd (m_evc 2046 255 [.ref 85, .int z] (SH, G)) fun w h => m_ev none 2046 260 75 [some (.ref 85), some (.int (Int32.ofNat q)), some (.int y), some (.int z), none] (w.toList ++ []) h else m_ev none 2046 260 78 [some (.ref 85), some (.int (Int32.ofNat q)), some (.int y), some (.int z), none] [] (SH, G)) := by
    intro b e86 e98 e99
    refine ⟨m_up (m_up (m_up (m_up (m_up b 85 31 0) 85 35 0) 85 32 (Int32.ofNat k)) 85 33 (st 4 k)) 85 34 4, fr_up (fr_up (fr_up (fr_up (fr_up (fr_refl _ _) rfl) rfl) rfl) rfl) rfl, fun j hj => by rw [up_nj (by omega), up_nj (by omega), up_nj (by omega), up_nj (by omega), up_nj (by omega)], ⟨?_, ?_, fun i hi => by simp at hi⟩, ?_, ?_, up_in _ _ _ _, ?_⟩
    · rw [up_nj (by decide), up_nj (by decide), up_nj (by decide), up_nj (by decide), up_in]; rfl
    · rw [up_nj (by decide), up_nj (by decide), up_nj (by decide), up_in]; rfl
    · rw [up_nj (by decide), up_nj (by decide), up_in]
    · rw [up_nj (by decide), up_in]
    · rw [cal_X12_act 2046, eX12_act_0, m_ton2 2043 st hR (g := (m_up (m_up b 85 31 0) 85 35 0)) (by rw [← e86]; rfl) (by rw [← e98]; rfl) (by rw [← e99]; rfl) hq, if_pos ht, ek]
      simp only [m_bd, Option.toList, List.cons_append, List.nil_append]
      rw [eX12_act_16, if_neg (by rw [n_pos k (by omega)]; exact fun w => w), s_inb 2045]
      simp only [m_bd, Option.toList, List.cons_append, List.nil_append]
      rw [eX12_act_35, bZ_if, if_pos (show (0 : Int64).toInt ≤ y.toInt ∧ y.toInt ≤ (3 : Int64).toInt from hy3), eX12_act_40, up_in, s_its2 2044 _ (show k < 9 by omega), up_ne (show 86 ≠ 85 by decide), up_ne (show 86 ≠ 85 by decide), up_ne (show 86 ≠ 85 by decide), e86, ← n4]
      simp only [m_bd, Option.toList, List.cons_append, List.nil_append]
      rw [eX12_act_50, up_in, s_its0 2044 _ (show k < 9 by omega), up_ne (show 86 ≠ 85 by decide), up_ne (show 86 ≠ 85 by decide), up_ne (show 86 ≠ 85 by decide), up_ne (show 86 ≠ 85 by decide), e86, eK]
      simp only [m_bd, Option.toList, List.cons_append, List.nil_append]
      rw [eX12_act_63]
      simp only [m_bd, Option.toList, List.cons_append, List.nil_append]
  rcases hy with rfl | rfl | rfl | rfl
  · obtain ⟨a, ea, fa, ta⟩ := xC4 2043 tA (by simp) z
    simp only [A1, A2] at ea
    have fAa : fr [76, 77, 79, 80, 81, 82, 83, 84] st a := fr_mono (fr_tr fA fa) (by decide)
    obtain ⟨G, fG, sG, tG, G1, G2, G3, eG⟩ := hG a (fAa 86 rfl) (fAa 98 rfl) (fAa 99 rfl)
    obtain ⟨g, eg, fg, tg⟩ := mC4 2044 tG (by simp) G3 z
    simp only [G1, G2] at eg
    refine ⟨z + Int32.ofNat k, a, g, ?_, ?_, act_fin hR (by simp) fAa ta (fr_mono (fr_tr fG fg.1) (by decide)) (fun j hj => by rw [fg.2 j (by omega) (by omega), sG j hj]) tg⟩
    · rw [eA, if_pos rfl, eX11_act_108_v4, ea]
      simp only [m_bd, Option.toList, List.cons_append, List.nil_append]
      rw [eX11_act_114_v4, eX11_act_149_v4, if_pos (show a 76 2 = 0 from ta.2.1), eX11_act_164_v4, eX11_act_166_v4]
    · rw [eG, if_pos rfl, eg]
      simp only [m_bd, Option.toList, List.cons_append, List.nil_append]
      rw [eX12_act_75, eX12_act_109, if_pos (show g 85 35 = 0 from tg.2.1), eX12_act_123, eX12_act_125]
  · obtain ⟨a, ea, fa, ta⟩ := xH4 2041 tA (by simp) z
    simp only [A1, A2] at ea
    have fAa : fr [76, 77, 79, 80, 81, 82, 83, 84] st a := fr_mono (fr_tr fA fa) (by decide)
    obtain ⟨G, fG, sG, tG, G1, G2, G3, eG⟩ := hG a (fAa 86 rfl) (fAa 98 rfl) (fAa 99 rfl)
    obtain ⟨g, eg, fg, tg⟩ := mH4 2043 tG (by simp) G3 z
    simp only [G1, G2] at eg
    refine ⟨(z + Int32.ofNat k) * 2, a, g, ?_, ?_, act_fin hR (by simp) fAa ta (fr_mono (fr_tr fG fg.1) (by decide)) (fun j hj => by rw [fg.2 j (by omega) (by omega), sG j hj]) tg⟩
    · rw [eA, if_neg (by decide), if_pos rfl, eX11_act_119_v4, ea]
      simp only [m_bd, Option.toList, List.cons_append, List.nil_append]
      rw [eX11_act_125_v4, eX11_act_149_v4, if_pos (show a 76 2 = 0 from ta.2.1), eX11_act_164_v4, eX11_act_166_v4]
    · rw [eG, if_neg (by decide), eX12_act_78, if_pos rfl, eg]
      simp only [m_bd, Option.toList, List.cons_append, List.nil_append]
      rw [eX12_act_88, eX12_act_109, if_pos (show g 85 35 = 0 from tg.2.1), eX12_act_123, eX12_act_125]
  · obtain ⟨a, ea, fa, ta⟩ := xQ4 2043 tA (by simp) z
    simp only [A1, A2] at ea ta
    have fAa : fr [76, 77, 79, 80, 81, 82, 83, 84] st a := fr_mono (fr_tr fA fa) (by decide)
    obtain ⟨G, fG, sG, tG, G1, G2, G3, eG⟩ := hG a (fAa 86 rfl) (fAa 98 rfl) (fAa 99 rfl)
    obtain ⟨g, eg, fg, tg⟩ := mS4 2043 tG (by simp) G3 z
    simp only [G1, G2] at eg tg
    by_cases p : st 4 k - Int32.ofNat k = 0
    · have pa : ¬ a 76 2 = 0 := by rw [ta.2.1, decide_eq_true p]; decide
      have pg : ¬ g 85 35 = 0 := by rw [tg.2.1, decide_eq_true p]; decide
      refine ⟨-15, a, g, ?_, ?_, act_fin hR (by simp) fAa ta (fr_mono (fr_tr fG fg.1) (by decide)) (fun j hj => by rw [fg.2 j (by omega) (by omega), sG j hj]) tg⟩
      · rw [eA, if_neg (by decide), if_neg (by decide), if_pos rfl, eX11_act_130_v4, ea]
        simp only [m_bd, Option.toList, List.cons_append, List.nil_append]
        rw [eX11_act_136_v4, eX11_act_149_v4, if_neg pa, eX11_act_166_v4]
      · rw [eG, if_neg (by decide), eX12_act_78, if_neg (by decide), eX12_act_91, if_pos rfl, eg]
        simp only [m_bd, Option.toList, List.cons_append, List.nil_append]
        rw [eX12_act_101, eX12_act_109, if_neg pg, eX12_act_125]
    · have pa : a 76 2 = 0 := by rw [ta.2.1, decide_eq_false p]; decide
      have pg : g 85 35 = 0 := by rw [tg.2.1, decide_eq_false p]; decide
      refine ⟨if st 4 k - Int32.ofNat k = 0 then 0 else (z + 1) / (st 4 k - Int32.ofNat k), a, g, ?_, ?_, act_fin hR (by simp) fAa ta (fr_mono (fr_tr fG fg.1) (by decide)) (fun j hj => by rw [fg.2 j (by omega) (by omega), sG j hj]) tg⟩
      rotate_left
      · rw [eG, if_neg (by decide), eX12_act_78, if_neg (by decide), eX12_act_91, if_pos rfl, eg]
        simp only [m_bd, Option.toList, List.cons_append, List.nil_append]
        rw [eX12_act_101, eX12_act_109, if_pos pg, eX12_act_123, eX12_act_125]
      · rw [eA, if_neg (by decide), if_neg (by decide), if_pos rfl, eX11_act_130_v4, ea]
        simp only [m_bd, Option.toList, List.cons_append, List.nil_append]
        rw [eX11_act_136_v4, eX11_act_149_v4, if_pos pa, eX11_act_164_v4, eX11_act_166_v4]
  · obtain ⟨a, ea, fa, ta⟩ := xU4 2040 tA (by simp) z
    simp only [A1, A2] at ea
    have fAa : fr [76, 77, 79, 80, 81, 82, 83, 84] st a := fr_mono (fr_tr fA fa) (by decide)
    obtain ⟨G, fG, sG, tG, G1, G2, G3, eG⟩ := hG a (fAa 86 rfl) (fAa 98 rfl) (fAa 99 rfl)
    obtain ⟨g, eg, fg, tg⟩ := mT4 2042 tG (by simp) G3 z
    simp only [G1, G2] at eg
    refine ⟨((z + Int32.ofNat k) * 2) ^^^ st 4 k, a, g, ?_, ?_, act_fin hR (by simp) fAa ta (fr_mono (fr_tr fG fg.1) (by decide)) (fun j hj => by rw [fg.2 j (by omega) (by omega), sG j hj]) tg⟩
    · rw [eA, if_neg (by decide), if_neg (by decide), if_neg (by decide), eX11_act_141_v4, ea]
      simp only [m_bd, Option.toList, List.cons_append, List.nil_append]
      rw [eX11_act_147_v4, eX11_act_149_v4, if_pos (show a 76 2 = 0 from ta.2.1), eX11_act_164_v4, eX11_act_166_v4]
    · rw [eG, if_neg (by decide), eX12_act_78, if_neg (by decide), eX12_act_91, if_neg (by decide), eX12_act_104, eg]
      simp only [m_bd, Option.toList, List.cons_append, List.nil_append]
      rw [eX12_act_109, if_pos (show g 85 35 = 0 from tg.2.1), eX12_act_123, eX12_act_125]
theorem act_5 {st : zS} (hR : Rel st) {q k : Nat} (hq : q < 4) (hk : k < tn (st 86)) (ek : st 74 q = Int32.ofNat k) (ht : tOn st q) (eK : st 86 (12 + 6 * k) = 5) {y : Int32} (hy : y = 0 ∨ y = 1 ∨ y = 2 ∨ y = 3) (hx3 : gR 0 3 (Int32.ofNat q)) (z : Int32) : ∃ (r : Int32) (st1 st2 : Nat → Nat → Int32), m_evc 2047 143 [.ref 0, .int (Int32.ofNat q), .int y, .int z] (SH, st) = some (some (.int r), (SH, st1)) ∧ m_evc 2047 260 [.ref 85, .int (Int32.ofNat q), .int y, .int z] (SH, st1) = some (some (.int r), (SH, st2)) ∧ Rel st2 := by
  obtain ⟨hN, hV, h7, e0⟩ := Rel_x hR
  have h9 := hV.1.2
  obtain ⟨n2, _, n4, _⟩ := hN.2.2.2.1 k hk
  have hy3 : gR 0 3 y := by rcases hy with rfl | rfl | rfl | rfl <;> exact ⟨by decide, by decide⟩
  have cX : m_case y [[0, 108], [1, 119], [2, 130]] 141 = if y = 0 then 108 else if y = 1 then 119 else if y = 2 then 130 else 141 := rfl
  have hA : ∃ A : zS, fr [76, 77, 79, 80, 81, 82, 83, 84] st A ∧ TX A [] false ∧ A 84 1 = Int32.ofNat k ∧ A 84 2 = st 4 k ∧ m_evc 2047 143 [.ref 0, .int (Int32.ofNat q), .int y, .int z] (SH, st) = m_ev none 2046 143 (if y = 0 then 108 else if y = 1 then 119 else if y = 2 then 130 else 141) [some (.ref 0), some (.int (Int32.ofNat q)), some (.int y), some (.int z), some (.int (Int32.ofNat k)), some (.ref 84), none] [] (SH, A) := by
    refine ⟨m_up (m_up (m_up (m_up st 76 0 0) 76 2 0) 84 1 (Int32.ofNat k)) 84 2 (st 4 k), fr_up (fr_up (fa_0 st) rfl) rfl, ?_, by rw [up_nj (by decide), up_in], by rw [up_in], ?_⟩
    · obtain ⟨t1, t2, t3⟩ := TX_0 st
      exact ⟨t1, t2, t3⟩
    · rw [cal_X11_act 2046, eX11_act_0, cal_X8_clear 2045, eX8_clear_0]
      simp only [m_bd, Option.toList, List.cons_append, List.nil_append]
      rw [eX11_act_7, x_isSf 2045]
      simp only [m_bd, Option.toList, List.cons_append, List.nil_append]
      rw [eX11_act_11, bZ_if, gR_if, if_pos hx3, if_pos (show gR (0 : Int32).toInt (3 : Int32).toInt y from hy3), x_ton2 2044 st hR (a := (m_up (m_up st 76 0 0) 76 2 0)) rfl rfl rfl hq]
      simp only [m_bd, Option.toList, List.cons_append, List.nil_append]
      rw [eX11_act_28, bZ_if, if_pos ht, eX11_act_33, ix_4 hq, ob_s, show (m_up (m_up st 76 0 0) 76 2 0) 74 q = st 74 q from rfl, ek, ix_9 (show k < 9 by omega), ob_s, show (m_up (m_up st 76 0 0) 76 2 0) 2 k = st 2 k from rfl, n2, eK, show m_ix (5 : Int32) 6 = some 5 from rfl, ob_s, show va_rf (m_ri [some 79, some 80, some 81, some 82, some 83, some 84] 5) = Value.ref 84 from rfl, eX11_act_56_v5, ix_9 (show k < 9 by omega), ob_s, cX, show (m_up (m_up st 76 0 0) 76 2 0) 4 k = st 4 k from rfl]
  obtain ⟨A, fA, tA, A1, A2, eA⟩ := hA
  have hG : ∀ b : zS, b 86 = st 86 → b 98 = st 98 → b 99 = st 99 → ∃ G : zS, fr [85, 101] b G ∧ (∀ j, j < 31 → G 85 j = b 85 j) ∧ TM G [] false ∧ G 85 32 = Int32.ofNat k ∧ G 85 33 = st 4 k ∧ G 85 34 = 5 ∧ m_evc 2047 260 [.ref 85, .int (Int32.ofNat q), .int y, .int z] (SH, b) = (if y = 0 then m_bd (m_evc 2046 255 [.ref 85, .int z] (SH, G)) fun w h => m_ev none 2046 260 75 [some (.ref 85), some (.int (Int32.ofNat q)), some (.int y), some (.int z), none] (w.toList ++ []) h else m_ev none 2046 260 78 [some (.ref 85), some (.int (Int32.ofNat q)), some (.int y), some (.int z), none] [] (SH, G)) := by
    intro b e86 e98 e99
    refine ⟨m_up (m_up (m_up (m_up (m_up b 85 31 0) 85 35 0) 85 32 (Int32.ofNat k)) 85 33 (st 4 k)) 85 34 5, fr_up (fr_up (fr_up (fr_up (fr_up (fr_refl _ _) rfl) rfl) rfl) rfl) rfl, fun j hj => by rw [up_nj (by omega), up_nj (by omega), up_nj (by omega), up_nj (by omega), up_nj (by omega)], ⟨?_, ?_, fun i hi => by simp at hi⟩, ?_, ?_, up_in _ _ _ _, ?_⟩
    · rw [up_nj (by decide), up_nj (by decide), up_nj (by decide), up_nj (by decide), up_in]; rfl
    · rw [up_nj (by decide), up_nj (by decide), up_nj (by decide), up_in]; rfl
    · rw [up_nj (by decide), up_nj (by decide), up_in]
    · rw [up_nj (by decide), up_in]
    · rw [cal_X12_act 2046, eX12_act_0, m_ton2 2043 st hR (g := (m_up (m_up b 85 31 0) 85 35 0)) (by rw [← e86]; rfl) (by rw [← e98]; rfl) (by rw [← e99]; rfl) hq, if_pos ht, ek]
      simp only [m_bd, Option.toList, List.cons_append, List.nil_append]
      rw [eX12_act_16, if_neg (by rw [n_pos k (by omega)]; exact fun w => w), s_inb 2045]
      simp only [m_bd, Option.toList, List.cons_append, List.nil_append]
      rw [eX12_act_35, bZ_if, if_pos (show (0 : Int64).toInt ≤ y.toInt ∧ y.toInt ≤ (3 : Int64).toInt from hy3), eX12_act_40, up_in, s_its2 2044 _ (show k < 9 by omega), up_ne (show 86 ≠ 85 by decide), up_ne (show 86 ≠ 85 by decide), up_ne (show 86 ≠ 85 by decide), e86, ← n4]
      simp only [m_bd, Option.toList, List.cons_append, List.nil_append]
      rw [eX12_act_50, up_in, s_its0 2044 _ (show k < 9 by omega), up_ne (show 86 ≠ 85 by decide), up_ne (show 86 ≠ 85 by decide), up_ne (show 86 ≠ 85 by decide), up_ne (show 86 ≠ 85 by decide), e86, eK]
      simp only [m_bd, Option.toList, List.cons_append, List.nil_append]
      rw [eX12_act_63]
      simp only [m_bd, Option.toList, List.cons_append, List.nil_append]
  rcases hy with rfl | rfl | rfl | rfl
  · obtain ⟨a, ea, fa, ta⟩ := xC5 2043 tA (by simp) z
    simp only [A1, A2] at ea
    have fAa : fr [76, 77, 79, 80, 81, 82, 83, 84] st a := fr_mono (fr_tr fA fa) (by decide)
    obtain ⟨G, fG, sG, tG, G1, G2, G3, eG⟩ := hG a (fAa 86 rfl) (fAa 98 rfl) (fAa 99 rfl)
    obtain ⟨g, eg, fg, tg⟩ := mC5 2044 tG (by simp) G3 z
    simp only [G1, G2] at eg
    refine ⟨z + Int32.ofNat k, a, g, ?_, ?_, act_fin hR (by simp) fAa ta (fr_mono (fr_tr fG fg.1) (by decide)) (fun j hj => by rw [fg.2 j (by omega) (by omega), sG j hj]) tg⟩
    · rw [eA, if_pos rfl, eX11_act_108_v5, ea]
      simp only [m_bd, Option.toList, List.cons_append, List.nil_append]
      rw [eX11_act_114_v5, eX11_act_149_v5, if_pos (show a 76 2 = 0 from ta.2.1), eX11_act_164_v5, eX11_act_166_v5]
    · rw [eG, if_pos rfl, eg]
      simp only [m_bd, Option.toList, List.cons_append, List.nil_append]
      rw [eX12_act_75, eX12_act_109, if_pos (show g 85 35 = 0 from tg.2.1), eX12_act_123, eX12_act_125]
  · obtain ⟨a, ea, fa, ta⟩ := xH5 2041 tA (by simp) z
    simp only [A1, A2] at ea
    have fAa : fr [76, 77, 79, 80, 81, 82, 83, 84] st a := fr_mono (fr_tr fA fa) (by decide)
    obtain ⟨G, fG, sG, tG, G1, G2, G3, eG⟩ := hG a (fAa 86 rfl) (fAa 98 rfl) (fAa 99 rfl)
    obtain ⟨g, eg, fg, tg⟩ := mH5 2043 tG (by simp) G3 z
    simp only [G1, G2] at eg
    refine ⟨0 - (z + Int32.ofNat k) * 2, a, g, ?_, ?_, act_fin hR (by simp) fAa ta (fr_mono (fr_tr fG fg.1) (by decide)) (fun j hj => by rw [fg.2 j (by omega) (by omega), sG j hj]) tg⟩
    · rw [eA, if_neg (by decide), if_pos rfl, eX11_act_119_v5, ea]
      simp only [m_bd, Option.toList, List.cons_append, List.nil_append]
      rw [eX11_act_125_v5, eX11_act_149_v5, if_pos (show a 76 2 = 0 from ta.2.1), eX11_act_164_v5, eX11_act_166_v5]
    · rw [eG, if_neg (by decide), eX12_act_78, if_pos rfl, eg]
      simp only [m_bd, Option.toList, List.cons_append, List.nil_append]
      rw [eX12_act_88, eX12_act_109, if_pos (show g 85 35 = 0 from tg.2.1), eX12_act_123, eX12_act_125]
  · obtain ⟨v, hv, a, ea, fa, ta⟩ := xS5 2042 tA (by simp) z
    simp only [A1, A2] at hv ta
    have fAa : fr [76, 77, 79, 80, 81, 82, 83, 84] st a := fr_mono (fr_tr fA fa) (by decide)
    obtain ⟨G, fG, sG, tG, G1, G2, G3, eG⟩ := hG a (fAa 86 rfl) (fAa 98 rfl) (fAa 99 rfl)
    obtain ⟨w, hw, g, eg, fg, tg⟩ := mS5 2043 tG (by simp) G3 z
    simp only [G1, G2] at hw tg
    by_cases p : st 4 k - Int32.ofNat k = 0
    · have pa : ¬ a 76 2 = 0 := by rw [ta.2.1, decide_eq_true p]; decide
      have pg : ¬ g 85 35 = 0 := by rw [tg.2.1, decide_eq_true p]; decide
      refine ⟨-15, a, g, ?_, ?_, act_fin hR (by split <;> simp) fAa ta (fr_mono (fr_tr fG fg.1) (by decide)) (fun j hj => by rw [fg.2 j (by omega) (by omega), sG j hj]) tg⟩
      · rw [eA, if_neg (by decide), if_neg (by decide), if_pos rfl, eX11_act_130_v5, ea]
        simp only [m_bd, Option.toList, List.cons_append, List.nil_append]
        rw [eX11_act_136_v5, eX11_act_149_v5, if_neg pa, eX11_act_166_v5]
      · rw [eG, if_neg (by decide), eX12_act_78, if_neg (by decide), eX12_act_91, if_pos rfl, eg]
        simp only [m_bd, Option.toList, List.cons_append, List.nil_append]
        rw [eX12_act_101, eX12_act_109, if_neg pg, eX12_act_125]
    · have pa : a 76 2 = 0 := by rw [ta.2.1, decide_eq_false p]; decide
      have pg : g 85 35 = 0 := by rw [tg.2.1, decide_eq_false p]; decide
      refine ⟨(z + 1) / (st 4 k - Int32.ofNat k) + (st 4 k + Int32.ofNat k), a, g, ?_, ?_, act_fin hR (by split <;> simp) fAa ta (fr_mono (fr_tr fG fg.1) (by decide)) (fun j hj => by rw [fg.2 j (by omega) (by omega), sG j hj]) tg⟩
      rotate_left
      · rw [eG, if_neg (by decide), eX12_act_78, if_neg (by decide), eX12_act_91, if_pos rfl, eg]
        simp only [m_bd, Option.toList, List.cons_append, List.nil_append]
        rw [eX12_act_101, eX12_act_109, if_pos pg, eX12_act_123, eX12_act_125, hw p]
      · rw [eA, if_neg (by decide), if_neg (by decide), if_pos rfl, eX11_act_130_v5, ea]
        simp only [m_bd, Option.toList, List.cons_append, List.nil_append]
        rw [eX11_act_136_v5, eX11_act_149_v5, if_pos pa, eX11_act_164_v5, eX11_act_166_v5, hv p]
  · obtain ⟨a, ea, fa, ta⟩ := xU5 2040 tA (by simp) z
    simp only [A1, A2] at ea
    have fAa : fr [76, 77, 79, 80, 81, 82, 83, 84] st a := fr_mono (fr_tr fA fa) (by decide)
    obtain ⟨G, fG, sG, tG, G1, G2, G3, eG⟩ := hG a (fAa 86 rfl) (fAa 98 rfl) (fAa 99 rfl)
    obtain ⟨g, eg, fg, tg⟩ := mT5 2042 tG (by simp) G3 z
    simp only [G1, G2] at eg
    refine ⟨(0 - (z + Int32.ofNat k) * 2) ^^^ st 4 k, a, g, ?_, ?_, act_fin hR (by simp) fAa ta (fr_mono (fr_tr fG fg.1) (by decide)) (fun j hj => by rw [fg.2 j (by omega) (by omega), sG j hj]) tg⟩
    · rw [eA, if_neg (by decide), if_neg (by decide), if_neg (by decide), eX11_act_141_v5, ea]
      simp only [m_bd, Option.toList, List.cons_append, List.nil_append]
      rw [eX11_act_147_v5, eX11_act_149_v5, if_pos (show a 76 2 = 0 from ta.2.1), eX11_act_164_v5, eX11_act_166_v5]
    · rw [eG, if_neg (by decide), eX12_act_78, if_neg (by decide), eX12_act_91, if_neg (by decide), eX12_act_104, eg]
      simp only [m_bd, Option.toList, List.cons_append, List.nil_append]
      rw [eX12_act_109, if_pos (show g 85 35 = 0 from tg.2.1), eX12_act_123, eX12_act_125]
theorem gR_03 {y : Int32} (h : gR 0 3 y) : y = 0 ∨ y = 1 ∨ y = 2 ∨ y = 3 := by
  obtain ⟨q, hq, rfl⟩ := gR_e3 h
  have : q = 0 ∨ q = 1 ∨ q = 2 ∨ q = 3 := by omega
  rcases this with rfl | rfl | rfl | rfl
  · exact Or.inl rfl
  · exact Or.inr (Or.inl rfl)
  · exact Or.inr (Or.inr (Or.inl rfl))
  · exact Or.inr (Or.inr (Or.inr rfl))
theorem r_act (x y z : Int32) : lw_C Rel 143 260 [.int x, .int y, .int z] := by
  intro st hR
  by_cases h : ((gR 0 3 x ∧ gR 0 3 y) ∧ ∃ q, q < 4 ∧ x = Int32.ofNat q ∧ tOn st q)
  · obtain ⟨⟨hx, hy⟩, q, hq, rfl, ht⟩ := h
    obtain ⟨k, hk, ek⟩ := gT_e ht.2
    have hb := ((Rel_x hR).2.1.2.1 k hk).1
    obtain ⟨e1, e2, e3⟩ := gR_n hb (by omega)
    have hc : (st 86 (12 + 6 * k)).toNatClampNeg = 1 ∨ (st 86 (12 + 6 * k)).toNatClampNeg = 2 ∨ (st 86 (12 + 6 * k)).toNatClampNeg = 3 ∨ (st 86 (12 + 6 * k)).toNatClampNeg = 4 ∨ (st 86 (12 + 6 * k)).toNatClampNeg = 5 := by omega
    rcases hc with c | c | c | c | c <;> rw [c] at e1
    · exact act_1 hR hq hk ek ht e1 (gR_03 hy) hx z
    · exact act_2 hR hq hk ek ht e1 (gR_03 hy) hx z
    · exact act_3 hR hq hk ek ht e1 (gR_03 hy) hx z
    · exact act_4 hR hq hk ek ht e1 (gR_03 hy) hx z
    · exact act_5 hR hq hk ek ht e1 (gR_03 hy) hx z
  · exact act_no hR h
