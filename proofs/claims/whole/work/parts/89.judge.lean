/-! CALLS: judge, the model -/
/-- three numbers are the row that a one-way cry gives after so many -/
def okv (s : Nat → Int32) (t w : Int32) (fm i : Nat) (r0 r1 r2 : Int32) : Prop := i < tcap s w fm ∧ ∃ ch : Int32 × Int32, onw s fm t w (tw w fm i) = some ch ∧ r0 = Int32.ofNat (tw w fm i) ∧ r1 = ch.1 ∧ r2 = ch.2
theorem ix_Q0 {i : Nat} (hi : i < 9) : m_ix (3 * Int32.ofNat i) 27 = some (3 * i) := by
  rw [show (3 : Int32) = Int32.ofNat 3 from rfl, n_mul]
  exact ix_n (by omega) (by omega)
theorem ix_Qm {i w : Nat} (h1 : 1 ≤ i) (hi : i < 9) (hw : w ≤ 3) : m_ix (3 * Int32.ofNat i - Int32.ofNat w) 27 = some (3 * i - w) := by
  rw [show (3 : Int32) = Int32.ofNat 3 from rfl, n_mul, n_sub (by omega)]
  exact ix_n (by omega) (by omega)
theorem twI_step {s : Nat → Int32} {fm : Nat} {w : Int32} (hw : w = 0 ∨ w = 1) {i : Nat} (h1 : 1 ≤ i) (hc : i - 1 < tcap s w fm) : (if w = 0 then Int32.ofNat (tw w fm (i - 1)) - 1 else Int32.ofNat (tw w fm (i - 1)) + 1) = twI w fm i := by
  rcases hw with rfl | rfl
  · have hc : i - 1 < fm + 1 := hc
    rw [if_pos rfl]
    show Int32.ofNat (fm - (i - 1)) - 1 = _
    rw [twI_s0 (by omega), show i - 1 + 1 = i by omega]
  · rw [if_neg i_10]
    show Int32.ofNat (fm + (i - 1)) + 1 = Int32.ofNat (fm + i)
    rw [n_succ, show fm + (i - 1) + 1 = fm + i by omega]
theorem s_paceB (d : Nat) (st : zS) (hd : DG (st 86)) {w : Int32} (hw : w = 0 ∨ w = 1) : m_evc (d + 1) 177 [.ref 85, .int w] (SH, st) = some (some (.int (if w = 0 then pe (st 86) else pw (st 86))), (SH, st)) := by
  rcases hw with rfl | rfl
  · rw [if_pos rfl]; exact s_paceE d st hd
  · rw [if_neg i_10]; exact s_paceW d st hd
theorem m_isBr (d : Nat) {st : zS} (hV : VN (st 86)) {t w : Int32} (hw : w = 0 ∨ w = 1) {fm : Nat} (hf : fm < tn (st 86)) {i : Nat} (h1 : 1 ≤ i) (hi9 : i < 9) {c h : Int32} (e : onw (st 86) fm t w (tw w fm (i - 1)) = some (c, h)) (hc : i - 1 < tcap (st 86) w fm) (e0 : st 93 (3 * i - 3) = Int32.ofNat (tw w fm (i - 1))) (e1 : st 93 (3 * i - 2) = c) (e2 : st 93 (3 * i - 1) = h) : ∃ (r : Int32) (b : zS), m_evc (d + 6) 224 [.ref 85, .int (Int32.ofNat i), .int w] (SH, st) = some (some (.int r), (SH, b)) ∧ fM st b ∧ (okv (st 86) t w fm i (st 93 (3 * i)) (st 93 (3 * i + 1)) (st 93 (3 * i + 2)) → r = 1) ∧ (¬ okv (st 86) t w fm i (st 93 (3 * i)) (st 93 (3 * i + 1)) (st 93 (3 * i + 2)) → r = 0) := by
  have h9 := hV.1.2
  have hd := hV.2.2.2.1
  have hR := hV.2.2.2.2
  have q3 : m_ix (3 * Int32.ofNat i - 3) 27 = some (3 * i - 3) := ix_Qm (w := 3) h1 hi9 (by omega)
  have q2 : m_ix (3 * Int32.ofNat i - 2) 27 = some (3 * i - 2) := ix_Qm (w := 2) h1 hi9 (by omega)
  have q1 : m_ix (3 * Int32.ofNat i - 1) 27 = some (3 * i - 1) := ix_Qm (w := 1) h1 hi9 (by omega)
  have p0 := ix_Q0 hi9
  have p1 : m_ix (3 * Int32.ofNat i + 1) 27 = some (3 * i + 1) := ix_Q (w := 1) hi9 (by omega)
  have p2 : m_ix (3 * Int32.ofNat i + 2) 27 = some (3 * i + 2) := ix_Q (w := 2) hi9 (by omega)
  have hp := tw_lt hf hc
  have A : m_evc (d + 6) 224 [.ref 85, .int (Int32.ofNat i), .int w] (SH, st) = m_ev none (d + 5) 224 32 [some (.ref 85), some (.int (Int32.ofNat i)), some (.int w), some (.int (Int32.ofNat (tw w fm (i - 1)))), some (.int (twI w fm i)), none, none, none, none] [.int (bZ (gT (st 86) (twI w fm i)))] (SH, st) := by
    rw [← twI_step hw h1 hc, cal_X12_isBrought (d + 5), eX12_isBrought_0, q3, ob_s, e0]
    rcases hw with rfl | rfl
    · rw [if_pos rfl, if_pos rfl, eX12_isBrought_21, eX12_isBrought_24, s_isTM0 (d + 3) st hV]; rfl
    · rw [if_neg i_10, if_neg i_10, eX12_isBrought_24, s_isTM0 (d + 3) st hV]; rfl
  rw [A, eX12_isBrought_32, bZ_if]
  by_cases hi : i < tcap (st 86) w fm
  · have hq := tw_lt hf hi
    have etw := twI_in hi
    rw [etw, if_pos (gT_at hq h9), p0, ob_s]
    by_cases c0 : st 93 (3 * i) = Int32.ofNat (tw w fm i)
    · rw [if_pos c0, eX12_isBrought_50]
      obtain ⟨a, ea, fa, a5, a6, a85⟩ := s_asks d st (show tw w fm (i - 1) < 9 by omega) hR hd
      rw [ea]
      simp only [m_bd, Option.toList, List.cons_append, List.nil_append]
      have a86 : a 86 = st 86 := fa 86 rfl
      have a93 : a 93 = st 93 := fa 93 rfl
      have B : m_ev none (d + 5) 224 55 [some (.ref 85), some (.int (Int32.ofNat i)), some (.int w), some (.int (Int32.ofNat (tw w fm (i - 1)))), some (.int (Int32.ofNat (tw w fm i))), none, none, none, none] [] (SH, a) = m_ev none (d + 5) 224 80 [some (.ref 85), some (.int (Int32.ofNat i)), some (.int w), some (.int (Int32.ofNat (tw w fm (i - 1)))), some (.int (Int32.ofNat (tw w fm i))), none, none, none, none] [.int (if 1 < i then st 86 (14 + 6 * tw w fm (i - 1)) else 0), .int c] (SH, a) := by
        rw [eX12_isBrought_55, q2, ob_s, a93, e1]
        by_cases z : 1 < i
        · rw [if_pos (by rw [show (1 : Int32) = Int32.ofNat 1 from rfl, n_lt (by omega) (by omega)]; exact z), if_pos z, s_its2 (d + 3) a (show tw w fm (i - 1) < 9 by omega), a86]
          simp only [m_bd, Option.toList, List.cons_append, List.nil_append]
          rw [eX12_isBrought_76]
        · rw [if_neg (by rw [show (1 : Int32) = Int32.ofNat 1 from rfl, n_lt (by omega) (by omega)]; exact z), if_neg z, eX12_isBrought_79]
      rw [B]
      generalize hdl : (if 1 < i then st 86 (14 + 6 * tw w fm (i - 1)) else 0) = dl
      have C : m_ev none (d + 5) 224 80 [some (.ref 85), some (.int (Int32.ofNat i)), some (.int w), some (.int (Int32.ofNat (tw w fm (i - 1)))), some (.int (Int32.ofNat (tw w fm i))), none, none, none, none] [.int dl, .int c] (SH, a) = m_ev none (d + 5) 224 100 [some (.ref 85), some (.int (Int32.ofNat i)), some (.int w), some (.int (Int32.ofNat (tw w fm (i - 1)))), some (.int (Int32.ofNat (tw w fm i))), some (.int (c + dl)), none, none, none] [.int (if sil (st 86) (tw w fm (i - 1)) = true ∧ 1 < i then 0 else 1)] (SH, a) := by
        rw [eX12_isBrought_80]
        by_cases z : 1 < i
        · rw [if_neg (by rw [show (1 : Int32) = Int32.ofNat 1 from rfl, n_eq (by omega) (by omega)]; omega), a6, bZ_if]
          by_cases y : sil (st 86) (tw w fm (i - 1)) = true
          · rw [if_pos y, if_pos ⟨y, z⟩, eX12_isBrought_99]
          · rw [if_neg y, if_neg (fun v => y v.1), eX12_isBrought_95]
        · rw [if_pos (by rw [show (1 : Int32) = Int32.ofNat 1 from rfl, n_eq (by omega) (by omega)]; omega), if_neg (fun v => z v.2), eX12_isBrought_95]
      rw [C, eX12_isBrought_100, s_paceB (d + 4) a (by rw [a86]; exact hd) hw, a86]
      simp only [m_bd, Option.toList, List.cons_append, List.nil_append]
      generalize hpp : (if w = 0 then pe (st 86) else pw (st 86)) = pp
      have D : ∀ x6 : Int32, m_ev none (d + 5) 224 109 [some (.ref 85), some (.int (Int32.ofNat i)), some (.int w), some (.int (Int32.ofNat (tw w fm (i - 1)))), some (.int (Int32.ofNat (tw w fm i))), some (.int (c + dl)), some (.int x6), none, none] [.int pp, .int (c + dl)] (SH, a) = m_ev none (d + 5) 224 124 [some (.ref 85), some (.int (Int32.ofNat i)), some (.int w), some (.int (Int32.ofNat (tw w fm (i - 1)))), some (.int (Int32.ofNat (tw w fm i))), some (.int (c + dl)), some (.int x6), none, none] [.int (st 86 (15 + 6 * (if w = 0 then tw w fm (i - 1) else tw w fm i))), .int pp, .int (c + dl)] (SH, a) := by
        intro x6
        rw [eX12_isBrought_109]
        rcases hw with rfl | rfl
        · rw [if_pos rfl, if_pos rfl, eX12_isBrought_119, eX12_isBrought_120, s_its3 (d + 3) a (show tw 0 fm (i - 1) < 9 by omega), a86]; rfl
        · rw [if_neg i_10, if_neg i_10, eX12_isBrought_120, s_its3 (d + 3) a (show tw 1 fm i < 9 by omega), a86]; rfl
      rw [D]
      obtain ⟨b, eb, fb, b5, b6, b85⟩ := s_asks d a (show tw w fm i < 9 by omega) (by rw [a86]; exact hR) (by rw [a86]; exact hd)
      have b86 : b 86 = st 86 := by rw [fb 86 rfl, a86]
      have b93 : b 93 = st 93 := by rw [fb 93 rfl, a93]
      rw [a86] at b5
      rw [eX12_isBrought_124, eb]
      simp only [m_bd, Option.toList, List.cons_append, List.nil_append]
      rw [eX12_isBrought_134, s_its0 (d + 3) b (show tw w fm i < 9 by omega), b86]
      simp only [m_bd, Option.toList, List.cons_append, List.nil_append]
      have ons := onw_step hw h1 hi e
      rw [hdl, hpp] at ons
      generalize hml : st 86 (15 + 6 * (if w = 0 then tw w fm (i - 1) else tw w fm i)) = ml at ons ⊢
      rw [Int32.mul_comm ml pp] at ons
      generalize hx7 : (c + dl) + pp * ml = x7 at ons ⊢
      have fM0 : fM st b := fM_tr (fM_asks fa a85) (fM_asks fb b85)
      have E : ∀ x6 : Int32, m_ev none (d + 5) 224 141 [some (.ref 85), some (.int (Int32.ofNat i)), some (.int w), some (.int (Int32.ofNat (tw w fm (i - 1)))), some (.int (Int32.ofNat (tw w fm i))), some (.int (c + dl)), some (.int x6), some (.int x7), none] [.int (st 86 (12 + 6 * tw w fm i))] (SH, b) = m_ev none (d + 5) 224 158 [some (.ref 85), some (.int (Int32.ofNat i)), some (.int w), some (.int (Int32.ofNat (tw w fm (i - 1)))), some (.int (Int32.ofNat (tw w fm i))), some (.int (c + dl)), some (.int x6), some (.int x7), none] [.int (if st 86 (12 + 6 * tw w fm i) = 5 ∧ x7 < 360 then 0 else 1)] (SH, b) := by
        intro x6
        rw [eX12_isBrought_141]
        by_cases y : st 86 (12 + 6 * tw w fm i) = 5
        · rw [if_pos y]
          by_cases z : x7 < 360
          · rw [if_pos z, if_pos ⟨y, z⟩, eX12_isBrought_157]
          · rw [if_neg z, if_neg (fun v => z v.2), eX12_isBrought_153]
        · rw [if_neg y, if_neg (fun v => y v.1), eX12_isBrought_153]
      rw [E, eX12_isBrought_158]
      have NO : ∀ x6 x8 : Int32, m_ev none (d + 5) 224 217 [some (.ref 85), some (.int (Int32.ofNat i)), some (.int w), some (.int (Int32.ofNat (tw w fm (i - 1)))), some (.int (Int32.ofNat (tw w fm i))), some (.int (c + dl)), some (.int x6), some (.int x7), some (.int x8)] [] (SH, b) = some (some (.int 0), (SH, b)) := fun x6 x8 => by rw [eX12_isBrought_217, eX12_isBrought_218, if_pos (Or.inl rfl)]
      by_cases y : sil (st 86) (tw w fm (i - 1)) = true ∧ 1 < i
      · rw [if_pos y] at ons
        simp only [if_pos y, if_true]
        refine ⟨0, b, NO _ _, fM0, fun v => ?_, fun _ => rfl⟩
        obtain ⟨_, ch, v1, _⟩ := v
        rw [ons] at v1; cases v1
      · rw [if_neg y] at ons
        unfold arr at ons
        simp only [if_neg y]
        rw [if_neg i_10]
        by_cases z : st 86 (12 + 6 * tw w fm i) = 5 ∧ x7 < 360
        · rw [if_pos z] at ons
          simp only [if_pos z, if_true]
          refine ⟨0, b, NO _ _, fM0, fun v => ?_, fun _ => rfl⟩
          obtain ⟨_, ch, v1, _⟩ := v
          rw [ons] at v1; cases v1
        · rw [if_neg z] at ons
          simp only [if_neg z]
          rw [if_neg i_10, p1, ob_s, b93]
          by_cases c1 : st 93 (3 * i + 1) = x7
          · rw [if_pos c1, p2, ob_s, q1, ob_s, e2, b5]
            by_cases c2 : st 93 (3 * i + 2) = h + ads (st 86) (tw w fm i)
            · rw [if_pos c2, eX12_isBrought_218, if_pos (Or.inr rfl)]
              exact ⟨1, b, rfl, fM0, fun _ => rfl, fun v => absurd ⟨hi, _, ons, c0, c1, c2⟩ v⟩
            · rw [if_neg c2]
              refine ⟨0, b, NO _ _, fM0, fun v => ?_, fun _ => rfl⟩
              obtain ⟨_, ch, v1, _, _, v2⟩ := v
              rw [ons] at v1; cases v1
              exact absurd v2 c2
          · rw [if_neg c1]
            refine ⟨0, b, NO _ _, fM0, fun v => ?_, fun _ => rfl⟩
            obtain ⟨_, ch, v1, _, v2, _⟩ := v
            rw [ons] at v1; cases v1
            exact absurd v2 c1
    · rw [if_neg c0, eX12_isBrought_48]
      exact ⟨0, st, rfl, fM_refl st, fun v => absurd v.2.choose_spec.2.1 c0, fun _ => rfl⟩
  · have : i = tcap (st 86) w fm := by omega
    rw [if_neg (by rw [this]; exact twI_out hf h9), eX12_isBrought_48]
    exact ⟨0, st, rfl, fM_refl st, fun v => absurd v.1 hi, fun _ => rfl⟩
theorem onw_0 {s : Nat → Int32} {fm : Nat} {t w : Int32} : onw s fm t w (tw w fm 0) = some (t, t) := by
  unfold onw tw
  by_cases hw : w = 0
  · rw [if_pos hw, if_pos hw]
    unfold eas
    rw [if_pos (by omega), show fm - (fm - 0) = 0 by omega]; rfl
  · rw [if_neg hw, if_neg hw, Nat.add_zero]
    exact wst_at (isb_at fm)
theorem tw_0 {fm : Nat} {w : Int32} : tw w fm 0 = fm := by unfold tw; split <;> omega
theorem r_judge (w : Int32) (hw : w = 0 ∨ w = 1) : lw_C Rel 134 225 [.int w] := by
  intro st hR
  obtain ⟨hN, hV, h7, e0⟩ := Rel_x hR
  have h9 := hV.1.2
  obtain ⟨n0, n1, n2, n3⟩ := hR.2.2.1
  generalize (st 0 8).toNatClampNeg = N at n1 n2 n3
  by_cases z : N = 0
  · subst z
    refine lw_bad hR (r := 0) ?_ ?_
    · rw [cal_X11_judge 2046, eX11_judge_0, n1, if_pos (show Int32.ofNat 0 = 0 from rfl)]
    · rw [cal_X12_judge 2046, eX12_judge_0, eX12_judge_2, ← n0, n1, if_neg (by decide), eX12_judge_100]
  · have L69 : ∀ b : zS, b 86 = st 86 → b 93 = st 93 → b 85 15 = Int32.ofNat N → ∀ (i : Nat) (x3 : Option Value), i < N → m_ev none 2046 225 2 [some (.ref 85), some (.int w), some (.int (Int32.ofNat i)), x3] [] (SH, b) = m_ev none 2046 225 69 [some (.ref 85), some (.int w), some (.int (Int32.ofNat i)), x3] [.int (bZ (gT (st 86) (st 93 (3 * i)) ∧ TG (st 93 (3 * i + 1)) ∧ st 93 (3 * i + 2) = st 93 (3 * i + 1)))] (SH, b) := by
      intro b b86 b93 b15 i x3 hi
      have i9 : i < 9 := by omega
      have p1 : m_ix (3 * Int32.ofNat i + 1) 27 = some (3 * i + 1) := ix_Q (w := 1) i9 (by omega)
      have p2 : m_ix (3 * Int32.ofNat i + 2) 27 = some (3 * i + 2) := ix_Q (w := 2) i9 (by omega)
      rw [eX12_judge_2, b15, if_pos (by rw [n_lt (by omega) (by omega)]; exact hi), ix_Q0 i9, ob_s, s_isTM0 2044 b (by rw [b86]; exact hV), b86, b93]
      simp only [m_bd, Option.toList, List.cons_append, List.nil_append]
      rw [eX12_judge_22, bZ_if]
      by_cases g1 : gT (st 86) (st 93 (3 * i))
      · rw [if_pos g1, p1, ob_s, b93, s_isTM 2044]
        simp only [m_bd, Option.toList, List.cons_append, List.nil_append]
        rw [eX12_judge_38, bZ_if]
        by_cases g2 : TG (st 93 (3 * i + 1))
        · rw [if_pos g2, p2, ob_s, p1, ob_s, b93]
          by_cases g3 : st 93 (3 * i + 2) = st 93 (3 * i + 1)
          · rw [if_pos g3, bZ_t ⟨g1, g2, g3⟩]
          · rw [if_neg g3, eX12_judge_68, bZ_f (fun v => g3 v.2.2)]
        · rw [if_neg g2, eX12_judge_68, bZ_f (fun v => g2 v.2.1)]
      · rw [if_neg g1, eX12_judge_68, bZ_f (fun v => g1 v.1)]
    have r0 : ∀ i, i < N → st (57 + i) 0 = st 93 (3 * i) ∧ st (57 + i) 1 = st 93 (3 * i + 1) ∧ st (57 + i) 2 = st 93 (3 * i + 2) := fun i hi => ⟨n3 i hi 0 (by omega), n3 i hi 1 (by omega), n3 i hi 2 (by omega)⟩
    obtain ⟨y0, y1, y2⟩ := r0 0 (by omega)
    have y0 : st 57 0 = st 93 (3 * 0) := y0
    have y1 : st 57 1 = st 93 (3 * 0 + 1) := y1
    have y2 : st 57 2 = st 93 (3 * 0 + 2) := y2
    by_cases g : gT (st 86) (st 93 (3 * 0)) ∧ TG (st 93 (3 * 0 + 1)) ∧ st 93 (3 * 0 + 2) = st 93 (3 * 0 + 1)
    · obtain ⟨g1, g2, g3⟩ := g
      obtain ⟨fm, hf, efm⟩ := gT_e g1
      generalize ht : st 93 (3 * 0 + 1) = t at g2 g3 y1
      have e57 : st 57 0 = Int32.ofNat fm ∧ st 57 1 = t ∧ st 57 2 = t := ⟨y0.trans efm, y1, y2.trans g3⟩
      obtain ⟨J', j1, j2, j3⟩ := firstN (fun i => okr st t w fm (i + 1)) (N - 1)
      have hJ : 1 ≤ J' + 1 ∧ J' + 1 ≤ N := by omega
      have hJ1 : ∀ i, 1 ≤ i → i < J' + 1 → okr st t w fm i := fun i a b => by
        have := j2 (i - 1) (by omega)
        rw [show i - 1 + 1 = i by omega] at this
        exact this
      have hJ2 : J' + 1 = N ∨ ¬ okr st t w fm (J' + 1) := by
        rcases j3 with j | j
        · exact Or.inl (by omega)
        · exact Or.inr j
      generalize J' + 1 = J at hJ hJ1 hJ2
      obtain ⟨a, ea, sa⟩ := x_judge 2039 hR hf g2 e57 n1 n2 hJ hJ1 hJ2
      have a86 : a 86 = st 86 := sa.1 86 rfl
      have a93 : a 93 = st 93 := sa.1 93 rfl
      have a15 : a 85 15 = st 85 15 := sa.2.2.1
      have okq : ∀ i, i < N → okr st t w fm i → okv (st 86) t w fm i (st 93 (3 * i)) (st 93 (3 * i + 1)) (st 93 (3 * i + 2)) := fun i hi v => by
        obtain ⟨c, ch, v1, v2, v3, v4⟩ := v
        obtain ⟨z0, z1, z2⟩ := r0 i hi
        exact ⟨c, ch, v1, z0.symm.trans v2, z1.symm.trans v3, z2.symm.trans v4⟩
      have okq2 : ∀ i, i < N → okv (st 86) t w fm i (st 93 (3 * i)) (st 93 (3 * i + 1)) (st 93 (3 * i + 2)) → okr st t w fm i := fun i hi v => by
        obtain ⟨c, ch, v1, v2, v3, v4⟩ := v
        obtain ⟨z0, z1, z2⟩ := r0 i hi
        exact ⟨c, ch, v1, z0.trans v2, z1.trans v3, z2.trans v4⟩
      have prev : ∀ i, 1 ≤ i → i ≤ J → i < N → ∃ c h, onw (st 86) fm t w (tw w fm (i - 1)) = some (c, h) ∧ i - 1 < tcap (st 86) w fm ∧ st 93 (3 * i - 3) = Int32.ofNat (tw w fm (i - 1)) ∧ st 93 (3 * i - 2) = c ∧ st 93 (3 * i - 1) = h := by
        intro i b1 b2 b3
        by_cases q : i = 1
        · subst q
          refine ⟨t, t, onw_0, ?_, ?_, ht, g3⟩
          · show 0 < tcap (st 86) w fm
            unfold tcap; split <;> omega
          · show st 93 (3 * 0) = Int32.ofNat (tw w fm 0)
            rw [tw_0]; exact efm
        · obtain ⟨b4, ch, b5, b6, b7, b8⟩ := okq (i - 1) (by omega) (hJ1 (i - 1) (by omega) (by omega))
          refine ⟨ch.1, ch.2, b5, b4, ?_, ?_, ?_⟩
          · rw [show 3 * i - 3 = 3 * (i - 1) by omega]; exact b6
          · rw [show 3 * i - 2 = 3 * (i - 1) + 1 by omega]; exact b7
          · rw [show 3 * i - 1 = 3 * (i - 1) + 2 by omega]; exact b8
      have a15 : a 85 15 = Int32.ofNat N := a15.trans (n0.symm.trans n1)
      have hVa : VN (a 86) := by rw [a86]; exact hV
      have test : ∀ (c : zS), fM a c → ∀ (i : Nat) (x3 : Option Value), 1 ≤ i → i ≤ J → i < N → ∃ (r : Int32) (b : zS) (x : Int32), m_ev none 2046 225 2 [some (.ref 85), some (.int w), some (.int (Int32.ofNat i)), x3] [] (SH, c) = m_ev none 2046 225 87 [some (.ref 85), some (.int w), some (.int (Int32.ofNat i)), some (.int x)] [.int r] (SH, b) ∧ fM a b ∧ (okr st t w fm i → r = 1) ∧ (¬ okr st t w fm i → r = 0) := by
        intro c fc i x3 b1 b2 b3
        have c86 : c 86 = st 86 := by rw [fc.1 86 rfl, a86]
        have c93 : c 93 = st 93 := by rw [fc.1 93 rfl, a93]
        have c15 : c 85 15 = Int32.ofNat N := by rw [fc.2 15 (by decide) (by decide), a15]
        obtain ⟨u, v, k1, k2, k3, k4, k5⟩ := prev i b1 b2 b3
        obtain ⟨r, b, eb, fb, s1, s2⟩ := m_isBr 2040 (st := c) (t := t) (by rw [c86]; exact hV) hw (fm := fm) (by rw [c86]; exact hf) b1 (show i < 9 by omega) (c := u) (h := v) (by rw [c86]; exact k1) (by rw [c86]; exact k2) (by rw [c93]; exact k3) (by rw [c93]; exact k4) (by rw [c93]; exact k5)
        rw [c86, c93] at s1 s2
        refine ⟨r, b, bZ (gT (st 86) (st 93 (3 * i)) ∧ TG (st 93 (3 * i + 1)) ∧ st 93 (3 * i + 2) = st 93 (3 * i + 1)), ?_, fM_tr fc fb, fun z => s1 (okq i b3 z), fun z => s2 (fun y => z (okq2 i b3 y))⟩
        · rw [L69 c c86 c93 c15 i x3 b3, eX12_judge_69, if_neg (by rw [show (0 : Int32) = Int32.ofNat 0 from rfl, n_eq (by omega) (by omega)]; omega), eX12_judge_81, eb]
          simp only [m_bd, Option.toList, List.cons_append, List.nil_append]
      have Lm := lp_inv (fun j (c : zS × Option Value) => m_ev none 2046 225 2 [some (.ref 85), some (.int w), some (.int (Int32.ofNat j)), c.2] [] (SH, c.1)) (fun j c => 1 ≤ j ∧ fM a c.1) J ?_ (J - 1) 1 (a, some (.int (bZ (gT (st 86) (st 93 (3 * 0)) ∧ TG t ∧ st 93 (3 * 0 + 2) = t)))) (by omega) ⟨Nat.le_refl _, fM_refl a⟩
      · obtain ⟨⟨c, c3⟩, ec, _, fc⟩ := Lm
        have fc : fM a c := fc
        have c15 : c 85 15 = Int32.ofNat N := by rw [fc.2 15 (by decide) (by decide), a15]
        have BEG : m_evc 2047 225 [.ref 85, .int w] (SH, a) = m_ev none 2046 225 2 [some (.ref 85), some (.int w), some (.int (Int32.ofNat J)), c3] [] (SH, c) := by
          rw [cal_X12_judge 2046, eX12_judge_0]
          refine (L69 a a86 a93 a15 0 none (by omega)).trans ?_
          rw [ht, eX12_judge_69, if_pos (show Int32.ofNat 0 = 0 from rfl), if_neg (by rw [bZ_t ⟨g1, g2, g3⟩]; decide), eX12_judge_94]
          exact ec
        by_cases q : J = N
        · rw [if_pos q] at ea
          refine ⟨0, a, c, ea, ?_, Rel_scr (Rel_scr hR sa) (scr_M fc)⟩
          rw [BEG, eX12_judge_2, c15, if_neg (by rw [n_lt (by omega) (by omega)]; omega), eX12_judge_100]
        · rw [if_neg q] at ea
          obtain ⟨r, b, x, eb, fb, _, s2⟩ := test c fc J c3 (by omega) (Nat.le_refl _) (by omega)
          have er := s2 (hJ2.resolve_left q)
          subst er
          refine ⟨Int32.ofNat (J + 1), a, b, ea, ?_, Rel_scr (Rel_scr hR sa) (scr_M fb)⟩
          rw [BEG, eb, eX12_judge_87, if_pos rfl, eX12_judge_90, n_succ]
      · rintro j ⟨c, c3⟩ hj ⟨f1, f2⟩
        obtain ⟨r, b, x, eb, fb, s1, _⟩ := test c f2 j c3 f1 (by omega) (by omega)
        have er := s1 (hJ1 j f1 hj)
        subst er
        refine ⟨(b, some (.int x)), ?_, by omega, fb⟩
        show m_ev none 2046 225 2 [some (.ref 85), some (.int w), some (.int (Int32.ofNat j)), c3] [] (SH, c) = m_ev none 2046 225 2 [some (.ref 85), some (.int w), some (.int (Int32.ofNat (j + 1))), some (.int x)] [] (SH, b)
        rw [eb, eX12_judge_87, if_neg i_10, eX12_judge_94, n_succ]
    · have bad : ¬ (gT (st 86) (st 57 0) ∧ TG (st 57 1) ∧ st 57 2 = st 57 1) := by rw [y0, y1, y2]; exact g
      refine lw_bad hR (r := 1) ?_ ?_
      · rw [cal_X11_judge 2046, eX11_judge_0, n1, if_neg (by rw [show (0 : Int32) = Int32.ofNat 0 from rfl, n_eq (by omega) (by omega)]; omega), eX11_judge_9, eX11_judge_15, eX11_judge_24, s_isCry 2044 st e0 hV.1]
        simp only [m_bd, Option.toList, List.cons_append, List.nil_append]
        rw [eX11_judge_33, bZ_if]
        by_cases q : gT (st 86) (st 57 0) ∧ TG (st 57 1)
        · rw [if_pos q, eX11_judge_42, if_neg (fun v => bad ⟨q.1, q.2, v⟩), eX11_judge_48]
        · rw [if_neg q, eX11_judge_48]
      · rw [cal_X12_judge 2046, eX12_judge_0]
        refine (L69 st rfl rfl (n0.symm.trans n1) 0 none (by omega)).trans ?_
        rw [bZ_f g, eX12_judge_69, if_pos (show Int32.ofNat 0 = 0 from rfl), if_pos rfl, eX12_judge_90]; rfl
