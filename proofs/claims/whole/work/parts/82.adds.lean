/-! CALLS of the host: adds -/
theorem gadds_81 (d : Nat) (st : Nat → Nat → Int32) (x1 x2 x3 x4 x5 t1 t2 : Int32) {i : Nat} (hi : i < 4) : m_ev none d 140 81 [some (.ref 0), some (.int x1), some (.int x2), some (.int x3), some (.int x4), some (.int x5)] [va_rf (m_ri [some 69, some 70, some 71, some 72] i), .int t1, .int t2, .ref 0] (SH, st) = m_ob (m_ix (x2 + x5) 40) fun q1 => m_bd (m_evc d 82 [.ref 0, .int t2, .int t1, .int (st (69 + i) q1)] (SH, st)) fun w h => m_ev none d 140 89 [some (.ref 0), some (.int x1), some (.int x2), some (.int x3), some (.int x4), some (.int x5)] (w.toList ++ []) h := by
  have h : i = 0 ∨ i = 1 ∨ i = 2 ∨ i = 3 := by omega
  rcases h with rfl | rfl | rfl | rfl
  · exact eX11_adds_81_v0 d st x1 x2 x3 x4 x5 t1 t2
  · exact eX11_adds_81_v1 d st x1 x2 x3 x4 x5 t1 t2
  · exact eX11_adds_81_v2 d st x1 x2 x3 x4 x5 t1 t2
  · exact eX11_adds_81_v3 d st x1 x2 x3 x4 x5 t1 t2

theorem x_chg (d : Nat) (a : zS) {s : Nat → Int32} (ea : a 1 0 = s 0) (hs : s 0 = Int32.ofNat (tn s) ∧ tn s ≤ 9) {j : Nat} (hj : j < 9) (v : Int32) : m_evc (d + 2) 82 [.ref 0, .int (Int32.ofNat j), .int 1, .int v] (SH, a) = if j < tn s ∧ gR 0 99 v then some (some (.int (a 3 j)), (SH, m_up a 3 j v)) else some (some (.int (-1)), (SH, a)) := by
  rw [cal_X11_change (d + 1), eX11_change_0, s_isTowX d a ea hs]
  simp only [m_bd, Option.toList, List.cons_append, List.nil_append]
  rw [eX11_change_8, bZ_if]
  by_cases h1 : j < tn s
  · rw [if_pos (gT_at h1 hs.2), s_measX d]
    simp only [m_bd, Option.toList, List.cons_append, List.nil_append]
    rw [eX11_change_16, bZ_if]
    by_cases h2 : gR 0 99 v
    · rw [if_pos ((gM_1 v).mpr h2), if_pos ⟨h1, h2⟩, eX11_change_21, if_pos rfl, eX11_change_58_v0, ix_9 hj, ob_s, ob_s]
    · rw [if_neg (fun q => h2 ((gM_1 v).mp q)), if_neg (fun q => h2 q.2), eX11_change_19]
  · rw [if_neg (fun q => h1 (by have := q.2; rw [n_int (by omega)] at this; omega)), if_neg (fun q => h1 q.1), eX11_change_19]
theorem m_chg (d : Nat) (a : zS) {s : Nat → Int32} (ea : a 86 0 = s 0) (hs : s 0 = Int32.ofNat (tn s) ∧ tn s ≤ 9) {j : Nat} (hj : j < 9) (v : Int32) : m_evc (d + 3) 173 [.ref 85, .int (Int32.ofNat j), .int 1, .int v] (SH, a) = if j < tn s ∧ gR 0 99 v then some (some (.int (a 86 (13 + 6 * j))), (SH, m_up a 86 (13 + 6 * j) v)) else some (some (.int (-1)), (SH, a)) := by
  rw [cal_X12_change (d + 2), eX12_change_0, s_isTowM d a (ea.trans hs.1) hs.2]
  simp only [m_bd, Option.toList, List.cons_append, List.nil_append]
  rw [eX12_change_5, bZ_if]
  by_cases h1 : j < tn s
  · rw [if_pos (gT_at h1 hs.2), s_measM d]
    simp only [m_bd, Option.toList, List.cons_append, List.nil_append]
    rw [eX12_change_13, bZ_if]
    by_cases h2 : gR 0 99 v
    · rw [if_pos ((gM_1 v).mpr h2), if_pos ⟨h1, h2⟩, eX12_change_18, s_its1 d _ hj]
      simp only [m_bd, Option.toList, List.cons_append, List.nil_append]
      rw [eX12_change_24, cal_X12_at (d + 1), eX12_at_0]
      simp only [m_bd, Option.toList, List.cons_append, List.nil_append]
      rw [eX12_change_35, ix_T1 hj, ob_s]
    · rw [if_neg (fun q => h2 ((gM_1 v).mp q)), if_neg (fun q => h2 q.2), eX12_change_16]
  · rw [if_neg (fun q => h1 (by have := q.2; rw [n_int (by omega)] at this; omega)), if_neg (fun q => h1 q.1), eX12_change_16]
theorem firstN (p : Nat → Prop) : ∀ n : Nat, ∃ J, J ≤ n ∧ (∀ j, j < J → p j) ∧ (J = n ∨ ¬ p J)
  | 0 => ⟨0, Nat.le_refl _, fun j hj => by omega, Or.inl rfl⟩
  | n + 1 => by
    obtain ⟨J, h1, h2, h3⟩ := firstN p n
    rcases h3 with h3 | h3
    · by_cases q : p n
      · refine ⟨n + 1, Nat.le_refl _, fun j hj => ?_, Or.inl rfl⟩
        by_cases z : j = n
        · rw [z]; exact q
        · exact h2 j (by omega)
      · exact ⟨J, by omega, h2, Or.inr (by rw [h3]; exact q)⟩
    · exact ⟨J, by omega, h2, Or.inr h3⟩
/-- what the sheet says that so many on add; of whom it is taken; how many are -/
def aV (st : zS) (q : Nat) (y : Int32) (k : Nat) : Int32 := st (69 + q) (y.toInt + k).toNat
abbrev aO (st : zS) (q : Nat) (y : Int32) (k : Nat) : Prop := k < tn (st 86) ∧ gR 0 99 (aV st q y k)
def aC (st : zS) (q : Nat) (y : Int32) : Nat → Int32
  | 0 => 0
  | k + 1 => if aO st q y k then aC st q y k + 1 else aC st q y k
abbrev aG (st : zS) (q : Nat) (y : Int32) (k : Nat) : Prop := 0 ≤ y.toInt + k ∧ y.toInt + k < (st 67 q).toInt
theorem aG_x {st : zS} {q : Nat} {y : Int32} (hl : (st 67 q).toInt ≤ 40) {k : Nat} (hk : k < 10) : (0 ≤ (y + Int32.ofNat k).toInt ∧ (y + Int32.ofNat k).toInt < (st 67 q).toInt) ↔ aG st q y k := by
  have h1 := Int32.le_toInt y
  have h2 := Int32.toInt_lt y
  have e : (y + Int32.ofNat k).toInt = (y.toInt + k).bmod (2 ^ 32) := by
    rw [Int32.toInt_add, n_int (by omega)]
  unfold aG
  by_cases h : y.toInt + k ≤ 2147483647
  · rw [e, Int.bmod_eq_of_le (by omega) (by omega)]
  · have : (y.toInt + k).bmod (2 ^ 32) = y.toInt + k - 4294967296 := by
      rw [Int.bmod_def]
      split <;> omega
    rw [e, this]; omega
theorem aG_i {st : zS} {q : Nat} {y : Int32} (hl : (st 67 q).toInt ≤ 40) {k : Nat} (hk : k < 10) (h : aG st q y k) : y + Int32.ofNat k = Int32.ofNat (y.toInt + k).toNat ∧ (y.toInt + k).toNat < 40 := by
  obtain ⟨g1, g2⟩ := h
  have h1 := Int32.le_toInt y
  have h2 := Int32.toInt_lt y
  have e : (y + Int32.ofNat k).toInt = (y.toInt + k).bmod (2 ^ 32) := by
    rw [Int32.toInt_add, n_int (by omega)]
  refine ⟨?_, by omega⟩
  apply Int32.toInt_inj.mp
  rw [e, n_int (by omega), Int.bmod_eq_of_le (by omega) (by omega)]
  omega
theorem aG_m (d : Nat) (a : zS) {st : zS} {q : Nat} {y v : Int32} (ev : v = st 67 q) (hl : 0 ≤ (st 67 q).toInt ∧ (st 67 q).toInt ≤ 40) {k : Nat} (hk : k < 10) : m_evc (d + 1) 155 [.long (y.toInt64 + (Int32.ofNat k).toInt64), .long 0, .long (v - 1).toInt64] (SH, a) = some (some (.int (bZ (aG st q y k))), (SH, a)) := by
  subst ev
  rw [s_in]
  have h1 := Int32.le_toInt y
  have h2 := Int32.toInt_lt y
  have e1 : (st 67 q - 1).toInt = (st 67 q).toInt - 1 := by
    rw [Int32.toInt_sub]
    have : (1 : Int32).toInt = 1 := rfl
    rw [this]
    apply Int.bmod_eq_of_le <;> omega
  have e2 : (y.toInt64 + (Int32.ofNat k).toInt64).toInt = y.toInt + k := by
    rw [Int64.toInt_add, Int32.toInt_toInt64, Int32.toInt_toInt64, n_int (by omega)]
    apply Int.bmod_eq_of_le <;> omega
  have e : ((0 : Int64) ≤ y.toInt64 + (Int32.ofNat k).toInt64 ∧ y.toInt64 + (Int32.ofNat k).toInt64 ≤ (st 67 q - 1).toInt64) ↔ aG st q y k := by
    unfold aG
    simp only [Int64.le_iff_toInt_le, Int32.toInt_toInt64, e1, e2]
    have z : (0 : Int64).toInt = 0 := rfl
    rw [z]; omega
  by_cases h : aG st q y k
  · rw [if_pos (e.mpr h), bZ_t h]
  · rw [if_neg (fun z => h (e.mp z)), bZ_f h]

theorem r_adds (x y z : Int32) : lw_C Rel 140 250 [.int x, .int y, .int z] := by
  intro st hR
  obtain ⟨hN, hV, h7, e0⟩ := Rel_x hR
  have h9 := hV.1.2
  have hS := hR.2.2.2.1
  have X0 : m_evc 2047 140 [.ref 0, .int x, .int y, .int z] (SH, st) = if gR 0 3 x ∧ gR 0 9 z then m_ev none 2046 140 19 [some (.ref 0), some (.int x), some (.int y), some (.int z), none, none] [] (SH, st) else some (some (.int (-1)), (SH, st)) := by
    rw [cal_X11_adds 2046, eX11_adds_0, x_isSh 2045]
    simp only [m_bd, Option.toList, List.cons_append, List.nil_append]
    rw [eX11_adds_4, bZ_if, gR_if]
    by_cases h1 : gR 0 3 x
    · rw [if_pos h1]
      by_cases h2 : gR 0 9 z
      · rw [if_pos (show gR (0 : Int32).toInt (9 : Int32).toInt z from h2), if_pos (show gR 0 3 x ∧ gR 0 9 z from ⟨h1, h2⟩)]
      · rw [if_neg (show ¬ gR (0 : Int32).toInt (9 : Int32).toInt z from h2), if_neg (show ¬ (gR 0 3 x ∧ gR 0 9 z) from fun w => h2 w.2), eX11_adds_17]
    · rw [if_neg h1, if_neg (fun w => h1 w.1), eX11_adds_17]
  have M0 : ∀ a : zS, m_evc 2047 250 [.ref 85, .int x, .int y, .int z] (SH, a) = if gR 0 3 x ∧ gR 0 9 z then m_ev none 2046 250 21 [some (.ref 85), some (.int x), some (.int y), some (.int z), none, none, none] [] (SH, a) else some (some (.int (-1)), (SH, a)) := by
    intro a
    rw [cal_X12_adds 2046, eX12_adds_0, m_isOne 2044]
    simp only [m_bd, Option.toList, List.cons_append, List.nil_append]
    rw [eX12_adds_4, bZ_if]
    by_cases h1 : gR 0 3 x
    · rw [if_pos h1, s_inb 2045]
      simp only [m_bd, Option.toList, List.cons_append, List.nil_append]
      rw [eX12_adds_16, bZ_if]
      by_cases h2 : gR 0 9 z
      · rw [if_pos (show (0 : Int64).toInt ≤ z.toInt ∧ z.toInt ≤ (9 : Int64).toInt from h2), if_pos (show gR 0 3 x ∧ gR 0 9 z from ⟨h1, h2⟩)]
      · rw [if_neg (show ¬ ((0 : Int64).toInt ≤ z.toInt ∧ z.toInt ≤ (9 : Int64).toInt) from h2), if_neg (show ¬ (gR 0 3 x ∧ gR 0 9 z) from fun w => h2 w.2), eX12_adds_19]
    · rw [if_neg h1, if_neg (fun w => h1 w.1), eX12_adds_19]
  by_cases h : gR 0 3 x ∧ gR 0 9 z
  · obtain ⟨q, hq, rfl⟩ := gR_e3 h.1
    obtain ⟨s1, s2, s3⟩ := hS q hq
    rw [if_pos h, eX11_adds_19, ix_4 hq, ob_s] at X0
    have M1 := M0 st
    rw [if_pos h, eX12_adds_21, m_wrong 2045 st hS hq] at M1
    simp only [m_bd, Option.toList, List.cons_append, List.nil_append] at M1
    rw [eX12_adds_27] at M1
    by_cases h1 : st 66 q = -1
    · rw [if_pos h1] at X0
      simp only [if_pos h1] at M1
      rw [if_neg (by decide)] at M1
      exact lw_bad hR X0 M1
    · rw [if_neg h1, eX11_adds_32, ix_4 hq, ob_s] at X0
      simp only [if_neg h1] at M1
      by_cases h2 : st 66 q = 0
      · obtain ⟨l1, l2, l3⟩ := s3 h1
        obtain ⟨ez, hz9, _⟩ := gR_n h.2 (by omega)
        have hn9 : z.toNatClampNeg ≤ 9 := by omega
        revert X0 M0 M1
        generalize hzn : z.toNatClampNeg = n at ez hn9
        subst ez
        intro X0 M0 M1
        obtain ⟨J, hJ, hJ1, hJ2⟩ := firstN (aG st q y) n
        rw [if_pos h2, eX11_adds_44] at X0
        -- the class
        have La := lp_inv (fun j (a : zS) => m_ev none 2046 140 50 [some (.ref 0), some (.int (Int32.ofNat q)), some (.int y), some (.int (Int32.ofNat n)), some (.int (aC st q y j)), some (.int (Int32.ofNat j))] [] (SH, a)) (fun j a => fr [3] st a ∧ ∀ k, a 3 k = if k < j ∧ aO st q y k then aV st q y k else st 3 k) J ?_ J 0 st (by omega) ⟨fr_refl _ _, fun k => by rw [if_neg (fun w => by omega)]⟩
        · obtain ⟨b, eb, fb1, gb⟩ := La
          have b86 : b 86 = st 86 := fb1 86 rfl
          have Lm := lp_inv (fun j (g : zS) => m_ev none 2046 250 43 [some (.ref 85), some (.int (Int32.ofNat q)), some (.int y), some (.int (Int32.ofNat n)), some (.int 0), some (.int (aC st q y j)), some (.int (Int32.ofNat j))] [] (SH, g)) (fun j g => fr [86] b g ∧ (∀ i, (∀ k, k < 9 → i ≠ 13 + 6 * k) → g 86 i = st 86 i) ∧ ∀ k, k < 9 → g 86 (13 + 6 * k) = if k < j ∧ aO st q y k then aV st q y k else st 86 (13 + 6 * k)) J ?_ J 0 b (by omega) ⟨fr_refl _ _, fun i _ => by rw [b86], fun k hk => by rw [if_neg (fun w => by omega), b86]⟩
          · obtain ⟨g, eg, fg, sg, hg⟩ := Lm
            have X1 : m_evc 2047 140 [.ref 0, .int (Int32.ofNat q), .int y, .int (Int32.ofNat n)] (SH, st) = some (some (.int (if J = n then aC st q y J else -12)), (SH, b)) := by
              rw [X0]
              refine Eq.trans eb ?_
              rw [eX11_adds_50]
              by_cases w : J = n
              · rw [if_neg (by rw [n_lt (by omega) (by omega)]; omega), eX11_adds_102, if_pos w]
              · rw [if_pos (by rw [n_lt (by omega) (by omega)]; omega), x_isI 2045 b hq, fb1 67 rfl, bZ_f (fun v => (hJ2.resolve_left w) ((aG_x l2.2 (by omega)).mp v))]
                simp only [m_bd, Option.toList, List.cons_append, List.nil_append]
                rw [eX11_adds_65, if_pos rfl, if_neg w]
            have M2 : m_evc 2047 250 [.ref 85, .int (Int32.ofNat q), .int y, .int (Int32.ofNat n)] (SH, b) = some (some (.int (if J = n then aC st q y J else -12)), (SH, g)) := by
              have b66 : b 66 = st 66 := fb1 66 rfl
              have hSb : Rsheet b := Rsheet_fr fb1 rfl hS
              rw [M0, if_pos h, eX12_adds_21, m_wrong 2045 b hSb hq, b66, if_neg h1, if_pos h2]
              simp only [m_bd, Option.toList, List.cons_append, List.nil_append]
              rw [eX12_adds_27, if_pos rfl, eX12_adds_37]
              refine Eq.trans eg ?_
              rw [eX12_adds_43]
              by_cases w : J = n
              · rw [if_neg (by rw [n_lt (by omega) (by omega)]; omega), eX12_adds_114, if_pos w]
              · rw [if_pos (by rw [n_lt (by omega) (by omega)]; omega), ix_4 hq, ob_s, aG_m 2045 g (st := st) (by rw [fg 96 rfl, fb1 96 rfl, l1]) l2 (by omega), bZ_f (hJ2.resolve_left w)]
                simp only [m_bd, Option.toList, List.cons_append, List.nil_append]
                rw [eX12_adds_68, if_pos rfl, if_neg w]
            refine ⟨_, b, g, X1, M2, ?_⟩
            have F := fr_tr fb1 fg
            refine Rel_now hR ⟨fr_mono F (by decide), by rw [F 85 rfl], by rw [F 85 rfl], by rw [F 85 rfl], by rw [F 85 rfl]⟩ ?_
            have V : VR _ _ _ _ _ _ _ _ _ _ _ _ _ _ _ _ _ := hR.1
            have cl : ∀ i, i ≠ 3 → i ≠ 86 → g i = st i := fun i i3 i8 => by
              rw [fg i (by simp; exact i8), fb1 i (by simp; exact i3)]
            have same : ∀ i, (i < 12 ∨ 66 ≤ i ∨ ∃ k u, u < 6 ∧ u ≠ 1 ∧ i = 12 + 6 * k + u) → g 86 i = st 86 i := fun i hi => sg i (fun k hk => by
              rcases hi with h | h | ⟨k', u, hu, hu1, h⟩ <;> omega)
            unfold Rnow
            rw [cl 1 (by omega) (by omega), cl 2 (by omega) (by omega), cl 4 (by omega) (by omega), cl 5 (by omega) (by omega), cl 6 (by omega) (by omega), cl 7 (by omega) (by omega), cl 8 (by omega) (by omega), cl 9 (by omega) (by omega), cl 10 (by omega) (by omega), cl 11 (by omega) (by omega), cl 12 (by omega) (by omega), cl 13 (by omega) (by omega), cl 14 (by omega) (by omega), cl 15 (by omega) (by omega), cl 16 (by omega) (by omega)]
            refine VR_gen V (same 0 (by omega)) (same 4 (by omega)) (fun j hj => (same j (by omega)).symm) ?_ ⟨by rw [same 0 (by omega)]; exact V.2.2.1.1, by rw [same 2 (by omega)]; exact V.2.2.1.2.1, by rw [same 3 (by omega)]; exact V.2.2.1.2.2⟩ (fun i hi => ?_) (fun j hj => ?_) (heR_cg V.2.2.2.2.2.1 (same 0 (by omega)) (fun i hi => ⟨same _ (Or.inr (Or.inr ⟨i, 4, by omega, by omega, by omega⟩)), same _ (Or.inr (Or.inr ⟨i, 5, by omega, by omega, by omega⟩))⟩)) (rpR_cg V.2.2.2.2.2.2.1 (same 0 (by omega)) (same 1 (by omega)) rfl (fun j j1 j2 => same j (by omega)))
            · unfold DG; rw [same 2 (by omega)]; exact V.1.2.2.2.1
            · obtain ⟨⟨a0, a1, a2, a3⟩, b0, b1, b2, b3⟩ := VR_T V i hi
              rw [same (12 + 6 * i) (Or.inr (Or.inr ⟨i, 0, by omega, by omega, by omega⟩)), same (14 + 6 * i) (Or.inr (Or.inr ⟨i, 2, by omega, by omega, by omega⟩)), same (15 + 6 * i) (Or.inr (Or.inr ⟨i, 3, by omega, by omega, by omega⟩)), fg 3 rfl, gb i, hg i (by omega)]
              by_cases w : i < J ∧ aO st q y i
              · rw [if_pos w, if_pos w]
                exact ⟨⟨a0, rfl, a2, a3⟩, b0, w.2.2, b2, b3⟩
              · rw [if_neg w, if_neg w]
                exact ⟨⟨a0, a1, a2, a3⟩, b0, b1, b2, b3⟩
            · rw [same _ (by omega)]; exact VR_W V j hj
          · rintro j g hj ⟨fg, sg, hg⟩
            have hG := hJ1 j hj
            obtain ⟨i1, i2⟩ := aG_i l2.2 (by omega) hG
            have g0 : g 86 0 = st 86 0 := sg 0 (fun k hk => by omega)
            have gv : g 97 (40 * q + (y.toInt + j).toNat) = aV st q y j := by
              rw [fg 97 rfl, fb1 97 rfl]
              exact (l3 _ i2).symm
            have ix : m_ix (((40 * Int32.ofNat q) + y) + Int32.ofNat j) 160 = some (40 * q + (y.toInt + j).toNat) := by
              rw [Int32.add_assoc, i1]
              exact ix_S hq i2
            have head : m_ev none 2046 250 43 [some (.ref 85), some (.int (Int32.ofNat q)), some (.int y), some (.int (Int32.ofNat n)), some (.int 0), some (.int (aC st q y j)), some (.int (Int32.ofNat j))] [] (SH, g) = m_bd (m_evc 2046 173 [.ref 85, .int (Int32.ofNat j), .int 1, .int (aV st q y j)] (SH, g)) fun w h => m_ev none 2046 250 97 [some (.ref 85), some (.int (Int32.ofNat q)), some (.int y), some (.int (Int32.ofNat n)), some (.int 0), some (.int (aC st q y j)), some (.int (Int32.ofNat j))] (w.toList ++ [.int (aC st q y j)]) h := by
              rw [eX12_adds_43, if_pos (by rw [n_lt (by omega) (by omega)]; omega), ix_4 hq, ob_s, aG_m 2045 g (st := st) (by rw [fg 96 rfl, fb1 96 rfl, l1]) l2 (by omega), bZ_t hG]
              simp only [m_bd, Option.toList, List.cons_append, List.nil_append]
              rw [eX12_adds_68, if_neg i_10, eX12_adds_74, ix, ob_s, gv]
              simp only [m_bd, Option.toList, List.cons_append, List.nil_append]
            by_cases w : aO st q y j
            · refine ⟨m_up g 86 (13 + 6 * j) (aV st q y j), ?_, fr_up fg rfl, fun i hi => ?_, fun k hk => ?_⟩
              · show m_ev none 2046 250 43 _ [] (SH, g) = m_ev none 2046 250 43 [_, _, _, _, _, some (.int (if aO st q y j then aC st q y j + 1 else aC st q y j)), _] [] _
                have w9 : j < 9 := by have := w.1; omega
                have hold : ¬ g 86 (13 + 6 * j) < 0 := by
                  rw [hg j w9, if_neg (fun v => by omega)]
                  have := (hV.2.1 j w.1).2.1.1
                  exact c_n0 this
                rw [head, m_chg 2043 g g0 hV.1 w9, if_pos w, if_pos w]
                simp only [m_bd, Option.toList, List.cons_append, List.nil_append]
                rw [eX12_adds_97, if_neg hold, eX12_adds_105, n_succ]
              · rw [up_nj (hi j (by have := w.1; omega))]; exact sg i hi
              · by_cases e : k = j
                · subst e; rw [up_in, if_pos ⟨by omega, w⟩]
                · rw [up_nj (by omega), hg k hk]
                  by_cases v : k < j ∧ aO st q y k
                  · rw [if_pos v, if_pos ⟨by omega, v.2⟩]
                  · rw [if_neg v, if_neg (fun u => v ⟨by omega, u.2⟩)]
            · refine ⟨g, ?_, fg, sg, fun k hk => ?_⟩
              · show m_ev none 2046 250 43 _ [] (SH, g) = m_ev none 2046 250 43 [_, _, _, _, _, some (.int (if aO st q y j then aC st q y j + 1 else aC st q y j)), _] [] _
                rw [head, m_chg 2043 g g0 hV.1 (by omega), if_neg w, if_neg w]
                simp only [m_bd, Option.toList, List.cons_append, List.nil_append]
                rw [eX12_adds_97, if_pos (by decide), eX12_adds_104, eX12_adds_105, Int32.add_zero, n_succ]
              · rw [hg k hk]
                by_cases v : k < j ∧ aO st q y k
                · rw [if_pos v, if_pos ⟨by omega, v.2⟩]
                · rw [if_neg v, if_neg (fun u => by
                    by_cases e : k = j
                    · subst e; exact w u.2
                    · exact v ⟨by omega, u.2⟩)]
        · rintro j a hj ⟨fa, ga⟩
          have hG := hJ1 j hj
          obtain ⟨i1, i2⟩ := aG_i l2.2 (by omega) hG
          have a0 : a 1 0 = st 86 0 := by rw [fa 1 rfl]; exact e0
          have av : a (69 + q) (y.toInt + j).toNat = aV st q y j := by
            rw [fa (69 + q) (by simp; omega)]; rfl
          have head : m_ev none 2046 140 50 [some (.ref 0), some (.int (Int32.ofNat q)), some (.int y), some (.int (Int32.ofNat n)), some (.int (aC st q y j)), some (.int (Int32.ofNat j))] [] (SH, a) = m_bd (m_evc 2046 82 [.ref 0, .int (Int32.ofNat j), .int 1, .int (aV st q y j)] (SH, a)) fun w h => m_ev none 2046 140 89 [some (.ref 0), some (.int (Int32.ofNat q)), some (.int y), some (.int (Int32.ofNat n)), some (.int (aC st q y j)), some (.int (Int32.ofNat j))] (w.toList ++ []) h := by
            rw [eX11_adds_50, if_pos (by rw [n_lt (by omega) (by omega)]; omega), x_isI 2045 a hq, fa 67 rfl, bZ_t ((aG_x l2.2 (by omega)).mpr hG)]
            simp only [m_bd, Option.toList, List.cons_append, List.nil_append]
            rw [eX11_adds_65, if_neg i_10, eX11_adds_71, ix_4 hq, ob_s, gadds_81 _ _ _ _ _ _ _ _ _ hq, i1, ix_40 i2, ob_s, av]
            simp only [m_bd, Option.toList, List.cons_append, List.nil_append]
          by_cases w : aO st q y j
          · refine ⟨m_up a 3 j (aV st q y j), ?_, fr_up fa rfl, fun k => ?_⟩
            · show m_ev none 2046 140 50 _ [] (SH, a) = m_ev none 2046 140 50 [_, _, _, _, some (.int (if aO st q y j then aC st q y j + 1 else aC st q y j)), _] [] _
              have w9 : j < 9 := by have := w.1; omega
              have hold : ¬ a 3 j = -1 := by
                rw [ga j, if_neg (fun v => by omega), (hN.2.2.2.1 j w.1).2.1]
                intro v
                have := (hV.2.1 j w.1).2.1.1
                rw [v] at this
                exact absurd this (by decide)
              rw [head, x_chg 2044 a a0 hV.1 w9, if_pos w, if_pos w]
              simp only [m_bd, Option.toList, List.cons_append, List.nil_append]
              rw [eX11_adds_89, if_neg hold, eX11_adds_96, n_succ]
            · by_cases e : k = j
              · subst e; rw [up_in, if_pos ⟨by omega, w⟩]
              · rw [up_nj e, ga k]
                by_cases v : k < j ∧ aO st q y k
                · rw [if_pos v, if_pos ⟨by omega, v.2⟩]
                · rw [if_neg v, if_neg (fun u => v ⟨by omega, u.2⟩)]
          · refine ⟨a, ?_, fa, fun k => ?_⟩
            · show m_ev none 2046 140 50 _ [] (SH, a) = m_ev none 2046 140 50 [_, _, _, _, some (.int (if aO st q y j then aC st q y j + 1 else aC st q y j)), _] [] _
              rw [head, x_chg 2044 a a0 hV.1 (by omega), if_neg w, if_neg w]
              simp only [m_bd, Option.toList, List.cons_append, List.nil_append]
              rw [eX11_adds_89, if_pos rfl, eX11_adds_96, n_succ]
            · rw [ga k]
              by_cases v : k < j ∧ aO st q y k
              · rw [if_pos v, if_pos ⟨by omega, v.2⟩]
              · rw [if_neg v, if_neg (fun u => by
                  by_cases e : k = j
                  · subst e; exact w u.2
                  · exact v ⟨by omega, u.2⟩)]
      · rw [if_neg h2] at X0
        simp only [if_neg h2] at M1
        rw [if_neg (by decide)] at M1
        exact lw_bad hR X0 M1
  · exact lw_bad hR (by rw [X0, if_neg h]) (by rw [M0, if_neg h])
