/-! CALLS: fewest -/
def onz : Nat → Int32 → Int32 → Int32
  | 0, _, a => a
  | f + 1, x, a => if x = 0 then a else onz f (x &&& (x - 1)) (a + 1)
def onk : Nat → Int32 → Bool
  | 0, x => x == 0
  | f + 1, x => if x = 0 then true else onk f (x &&& (x - 1))
def pcI (x : Int32) : Int32 := onz 9 x 0
def bcx (x0 : Int32) : Int32 := ((((((((x0 - (((x0 : Int32).toUInt32 >>> ((1 : Int32).toUInt32 &&& Int32.toUInt32 31)).toInt32 &&& 1431655765)) &&& 858993459) + ((((x0 - (((x0 : Int32).toUInt32 >>> ((1 : Int32).toUInt32 &&& Int32.toUInt32 31)).toInt32 &&& 1431655765)) : Int32).toUInt32 >>> ((2 : Int32).toUInt32 &&& Int32.toUInt32 31)).toInt32 &&& 858993459)) + (((((x0 - (((x0 : Int32).toUInt32 >>> ((1 : Int32).toUInt32 &&& Int32.toUInt32 31)).toInt32 &&& 1431655765)) &&& 858993459) + ((((x0 - (((x0 : Int32).toUInt32 >>> ((1 : Int32).toUInt32 &&& Int32.toUInt32 31)).toInt32 &&& 1431655765)) : Int32).toUInt32 >>> ((2 : Int32).toUInt32 &&& Int32.toUInt32 31)).toInt32 &&& 858993459)) : Int32).toUInt32 >>> ((4 : Int32).toUInt32 &&& Int32.toUInt32 31)).toInt32) &&& 252645135) + (((((((x0 - (((x0 : Int32).toUInt32 >>> ((1 : Int32).toUInt32 &&& Int32.toUInt32 31)).toInt32 &&& 1431655765)) &&& 858993459) + ((((x0 - (((x0 : Int32).toUInt32 >>> ((1 : Int32).toUInt32 &&& Int32.toUInt32 31)).toInt32 &&& 1431655765)) : Int32).toUInt32 >>> ((2 : Int32).toUInt32 &&& Int32.toUInt32 31)).toInt32 &&& 858993459)) + (((((x0 - (((x0 : Int32).toUInt32 >>> ((1 : Int32).toUInt32 &&& Int32.toUInt32 31)).toInt32 &&& 1431655765)) &&& 858993459) + ((((x0 - (((x0 : Int32).toUInt32 >>> ((1 : Int32).toUInt32 &&& Int32.toUInt32 31)).toInt32 &&& 1431655765)) : Int32).toUInt32 >>> ((2 : Int32).toUInt32 &&& Int32.toUInt32 31)).toInt32 &&& 858993459)) : Int32).toUInt32 >>> ((4 : Int32).toUInt32 &&& Int32.toUInt32 31)).toInt32) &&& 252645135) : Int32).toUInt32 >>> ((8 : Int32).toUInt32 &&& Int32.toUInt32 31)).toInt32) + ((((((((x0 - (((x0 : Int32).toUInt32 >>> ((1 : Int32).toUInt32 &&& Int32.toUInt32 31)).toInt32 &&& 1431655765)) &&& 858993459) + ((((x0 - (((x0 : Int32).toUInt32 >>> ((1 : Int32).toUInt32 &&& Int32.toUInt32 31)).toInt32 &&& 1431655765)) : Int32).toUInt32 >>> ((2 : Int32).toUInt32 &&& Int32.toUInt32 31)).toInt32 &&& 858993459)) + (((((x0 - (((x0 : Int32).toUInt32 >>> ((1 : Int32).toUInt32 &&& Int32.toUInt32 31)).toInt32 &&& 1431655765)) &&& 858993459) + ((((x0 - (((x0 : Int32).toUInt32 >>> ((1 : Int32).toUInt32 &&& Int32.toUInt32 31)).toInt32 &&& 1431655765)) : Int32).toUInt32 >>> ((2 : Int32).toUInt32 &&& Int32.toUInt32 31)).toInt32 &&& 858993459)) : Int32).toUInt32 >>> ((4 : Int32).toUInt32 &&& Int32.toUInt32 31)).toInt32) &&& 252645135) + (((((((x0 - (((x0 : Int32).toUInt32 >>> ((1 : Int32).toUInt32 &&& Int32.toUInt32 31)).toInt32 &&& 1431655765)) &&& 858993459) + ((((x0 - (((x0 : Int32).toUInt32 >>> ((1 : Int32).toUInt32 &&& Int32.toUInt32 31)).toInt32 &&& 1431655765)) : Int32).toUInt32 >>> ((2 : Int32).toUInt32 &&& Int32.toUInt32 31)).toInt32 &&& 858993459)) + (((((x0 - (((x0 : Int32).toUInt32 >>> ((1 : Int32).toUInt32 &&& Int32.toUInt32 31)).toInt32 &&& 1431655765)) &&& 858993459) + ((((x0 - (((x0 : Int32).toUInt32 >>> ((1 : Int32).toUInt32 &&& Int32.toUInt32 31)).toInt32 &&& 1431655765)) : Int32).toUInt32 >>> ((2 : Int32).toUInt32 &&& Int32.toUInt32 31)).toInt32 &&& 858993459)) : Int32).toUInt32 >>> ((4 : Int32).toUInt32 &&& Int32.toUInt32 31)).toInt32) &&& 252645135) : Int32).toUInt32 >>> ((8 : Int32).toUInt32 &&& Int32.toUInt32 31)).toInt32) : Int32).toUInt32 >>> ((16 : Int32).toUInt32 &&& Int32.toUInt32 31)).toInt32) &&& 63)
set_option maxRecDepth 100000 in
theorem pc_ok : ∀ m : Fin 512, (onk 9 (Int32.ofNat m.val) && (bcx (Int32.ofNat m.val) == pcI (Int32.ofNat m.val)) && decide (pcI (Int32.ofNat m.val) < 10)) = true := by decide +kernel
theorem pc_k {m : Nat} (h : m < 512) : onk 9 (Int32.ofNat m) = true ∧ bcx (Int32.ofNat m) = pcI (Int32.ofNat m) ∧ pcI (Int32.ofNat m) < 10 := by
  have := pc_ok ⟨m, h⟩
  simp only [Bool.and_eq_true, beq_iff_eq, decide_eq_true_eq] at this
  exact ⟨this.1.1, this.1.2, this.2⟩
theorem s_bc (d : Nat) (st : zS) (x : Int32) : m_evc (d + 1) 266 [.int x] (SH, st) = some (some (.int (bcx x)), (SH, st)) := by
  rw [cal_J6_bitCount_0f7a4, eJ6_bitCount_0f7a4_0]
  rfl
theorem s_ones_r (d : Nat) (st : zS) (x0 : Int32) : ∀ (f : Nat) (x a : Int32), onk f x = true → m_ev none d 197 4 [some (.int x0), some (.int a), some (.int x)] [] (SH, st) = some (some (.int (onz f x a)), (SH, st))
  | 0, x, a, h => by
    have : x = 0 := by simpa [onk] using h
    rw [eX12_ones_4, if_pos this, eX12_ones_20]
    rfl
  | f + 1, x, a, h => by
    unfold onk at h
    unfold onz
    rw [eX12_ones_4]
    by_cases q : x = 0
    · rw [if_pos q, if_pos q, eX12_ones_20]
    · rw [if_neg q] at h
      rw [if_neg q, if_neg q]
      exact s_ones_r d st x0 f _ _ h
theorem s_ones (d : Nat) (st : zS) {m : Nat} (h : m < 512) : m_evc (d + 1) 197 [.int (Int32.ofNat m)] (SH, st) = some (some (.int (pcI (Int32.ofNat m))), (SH, st)) := by
  rw [cal_X12_ones, eX12_ones_0]
  exact s_ones_r d st _ 9 _ 0 (pc_k h).1
def fwX (V : Nat → Int32) (bd : Int32) (m : Nat) (a : Int32 × Int32) : Int32 × Int32 := if (¬ V m < 0 ∧ ¬ bd < V m) ∧ pcI (Int32.ofNat m) < a.2 then (Int32.ofNat m, pcI (Int32.ofNat m)) else a
def fwM (V : Nat → Int32) (bd : Int32) (m : Nat) (b : Int32) : Int32 := if b < 0 ∨ pcI (Int32.ofNat m) < pcI b then (if ¬ V m < 0 ∧ ¬ bd < V m then Int32.ofNat m else b) else b
theorem fw_eq (V : Nat → Int32) (bd : Int32) : ∀ (n j : Nat) (a : Int32 × Int32) (b : Int32), j + n ≤ 512 → ((a = (-3, 10) ∧ b = -1) ∨ (∃ q, q < 512 ∧ b = Int32.ofNat q ∧ a = (Int32.ofNat q, pcI (Int32.ofNat q)))) → (if lp (fwM V bd) n j b < 0 then (-3 : Int32) else lp (fwM V bd) n j b) = (lp (fwX V bd) n j a).1
  | 0, j, a, b, hj, h => by
    show (if b < 0 then (-3 : Int32) else b) = a.1
    rcases h with ⟨h1, h2⟩ | ⟨q, hq, h1, h2⟩
    · rw [h1, h2, if_pos n_neg1]
    · rw [h2, h1, if_neg (by rw [n_pos _ (by omega)]; exact id)]
  | n + 1, j, a, b, hj, h => by
    show (if lp (fwM V bd) n (j + 1) (fwM V bd j b) < 0 then (-3 : Int32) else lp (fwM V bd) n (j + 1) (fwM V bd j b)) = (lp (fwX V bd) n (j + 1) (fwX V bd j a)).1
    apply fw_eq V bd n (j + 1) _ _ (by omega)
    unfold fwX fwM
    by_cases ok : ¬ V j < 0 ∧ ¬ bd < V j
    · rcases h with ⟨h1, h2⟩ | ⟨q, hq, h1, h2⟩
      · rw [h1, h2, if_pos (show (¬ V j < 0 ∧ ¬ bd < V j) ∧ pcI (Int32.ofNat j) < (10 : Int32) from ⟨ok, (pc_k (by omega)).2.2⟩), if_pos (show (-1 : Int32) < 0 ∨ _ from Or.inl n_neg1), if_pos ok]
        exact Or.inr ⟨j, by omega, rfl, rfl⟩
      · rw [h1, h2]
        have hn : ¬ Int32.ofNat q < 0 := by rw [n_pos _ (by omega)]; exact id
        by_cases w : pcI (Int32.ofNat j) < pcI (Int32.ofNat q)
        · rw [if_pos (show (¬ V j < 0 ∧ ¬ bd < V j) ∧ pcI (Int32.ofNat j) < pcI (Int32.ofNat q) from ⟨ok, w⟩), if_pos (show Int32.ofNat q < 0 ∨ pcI (Int32.ofNat j) < pcI (Int32.ofNat q) from Or.inr w), if_pos ok]
          exact Or.inr ⟨j, by omega, rfl, rfl⟩
        · rw [if_neg (show ¬ ((¬ V j < 0 ∧ ¬ bd < V j) ∧ pcI (Int32.ofNat j) < pcI (Int32.ofNat q)) from fun z => w z.2), if_neg (show ¬ (Int32.ofNat q < 0 ∨ pcI (Int32.ofNat j) < pcI (Int32.ofNat q)) from fun z => z.elim hn w)]
          exact Or.inr ⟨q, hq, rfl, rfl⟩
    · rw [if_neg (fun z => ok z.1), if_neg ok]
      have : (if b < 0 ∨ pcI (Int32.ofNat j) < pcI b then b else b) = b := by split <;> rfl
      rw [this]
      exact h
def a_fewest (x1 x2 : Int32) (s : Nat → Int32) : Int32 := if gR 0 999 x1 ∧ TG x2 then (lp (fwX (fun m => ckv s (Int32.ofNat m) x2) x1) (2 ^ tn s - 1) 1 (-3, 10)).1 else -1
theorem gS_of {s : Nat → Int32} {m : Nat} (h9 : tn s ≤ 9) (hm : m ≤ 512) : gS s (Int32.ofNat m) ↔ m < 2 ^ tn s := by
  show 0 ≤ (Int32.ofNat m).toInt ∧ (Int32.ofNat m).toInt < ((2 ^ tn s : Nat) : Int) ↔ _
  rw [n_int (by omega)]
  constructor
  · intro z; exact Int.ofNat_lt.mp z.2
  · intro z; exact ⟨by omega, Int.ofNat_lt.mpr z⟩
theorem p2_1 (n : Nat) : 1 ≤ 2 ^ n := Nat.one_le_two_pow
theorem x_fewest (d : Nat) {st : zS} (hR : Rel st) (x1 x2 : Int32) : RT (m_evc (d + 8) 103 [.ref 0, .int x1, .int x2] (SH, st)) (some (.int (a_fewest x1 x2 (st 86)))) (scr st) := by
  obtain ⟨hN, hV, h7, e0⟩ := Rel_x hR
  have hB : NB (st 86) := hR.1.2.2.2.2.2.2.2
  have h9 := hV.1.2
  have hd := hV.2.2.2.1
  have hp := p2_b h9
  have hp1 := p2_1 (tn (st 86))
  unfold a_fewest
  rw [cal_X11_fewest, eX11_fewest_0, s_isBndX]
  simp only [m_bd, Option.toList, List.cons_append, List.nil_append]
  rw [eX11_fewest_4, bZ_if]
  by_cases h1 : gR 0 999 x1
  · rw [if_pos h1, s_isTX]
    simp only [m_bd, Option.toList, List.cons_append, List.nil_append]
    rw [eX11_fewest_11, bZ_if]
    by_cases h2 : TG x2
    · rw [if_pos h2, if_pos ⟨h1, h2⟩]
      obtain ⟨st1, e1, f1, D1⟩ := ya_takeD (d + 1) st hN hV hd.2
      rw [sd_self hd] at D1
      rw [eX11_fewest_16, h7, hd.1, e1]
      simp only [m_bd, Option.toList, List.cons_append, List.nil_append]
      rw [eX11_fewest_30]
      have L := lp_inv (fun j (a : zS × ((Int32 × Int32) × Option Value)) => m_ev none (d + 7) 103 40 [some (.ref 0), some (.int x1), some (.int x2), some (.int a.2.1.1), some (.int a.2.1.2), some (.int (Int32.ofNat j)), a.2.2] [] (SH, a.1)) (fun j a => (fr [17, 44, 45, 46, 47, 48] st a.1 ∧ ya_D a.1 (st 86) ∧ 1 ≤ j) ∧ a.2.1 = lp (fwX (fun m => ckv (st 86) (Int32.ofNat m) x2) x1) (j - 1) 1 (-3, 10)) (2 ^ tn (st 86)) ?_ (2 ^ tn (st 86) - 1) 1 (st1, ((-3, 10), none)) (by omega) ⟨⟨fr_mono f1 (by decide), D1, Nat.le_refl 1⟩, rfl⟩
      · obtain ⟨⟨st2, w, x6⟩, e, ⟨f2, D2, _⟩, hw⟩ := L
        have hw : w = _ := hw
        have f2 : fr [17, 44, 45, 46, 47, 48] st st2 := f2
        refine ⟨st2, ?_, scr_fr f2 rfl⟩
        refine Eq.trans e ?_
        simp only
        have hn : ¬ gS (st 86) (Int32.ofNat (2 ^ tn (st 86))) := by rw [gS_of h9 hp]; omega
        rw [eX11_fewest_40, s_isSet _ st2 (s := st 86) (by rw [f2 1 rfl]; exact e0) hV.1, bZ_f hn]
        simp only [m_bd, Option.toList, List.cons_append, List.nil_append]
        rw [eX11_fewest_46, if_pos rfl, eX11_fewest_106, hw]
      · rintro j ⟨a, w, x6⟩ hj ⟨⟨f, D, h1j⟩, hw⟩
        have hw : w = _ := hw
        have f : fr [17, 44, 45, 46, 47, 48] st a := f
        have D : ya_D a (st 86) := D
        obtain ⟨b, eb, fb', Db⟩ := x_clk (d + 3) a D h2 hB (Int32.ofNat j)
        have hnext : fwX (fun m => ckv (st 86) (Int32.ofNat m) x2) x1 j w = lp (fwX (fun m => ckv (st 86) (Int32.ofNat m) x2) x1) (j + 1 - 1) 1 (-3, 10) := by
          rw [hw, show j + 1 - 1 = (j - 1) + 1 by omega, lp_last, show 1 + (j - 1) = j by omega]
        refine ⟨(b, (fwX (fun m => ckv (st 86) (Int32.ofNat m) x2) x1 j w, some (.int (ckv (st 86) (Int32.ofNat j) x2)))), ?_, ⟨fr_mono (fr_tr f fb') (by decide), Db, by omega⟩, hnext⟩
        simp only
        have hg : gS (st 86) (Int32.ofNat j) := by rw [gS_of h9 (by omega)]; exact hj
        rw [eX11_fewest_40, s_isSet _ a (s := st 86) (by rw [f 1 rfl]; exact e0) hV.1, bZ_t hg]
        simp only [m_bd, Option.toList, List.cons_append, List.nil_append]
        rw [eX11_fewest_46, if_neg i_10, if_pos (by rw [show (512 : Int32) = Int32.ofNat 512 from rfl, n_lt (by omega) (by omega)]; omega), eb]
        simp only [m_bd, Option.toList, List.cons_append, List.nil_append]
        rw [eX11_fewest_67]
        unfold fwX
        simp only
        by_cases q1 : ckv (st 86) (Int32.ofNat j) x2 < 0
        · rw [if_pos q1, if_neg (show ¬ ((¬ ckv (st 86) (Int32.ofNat j) x2 < 0 ∧ ¬ x1 < ckv (st 86) (Int32.ofNat j) x2) ∧ pcI (Int32.ofNat j) < w.2) from fun z => z.1.1 q1), eX11_fewest_100, n_succ]
        · rw [if_neg q1]
          by_cases q2 : x1 < ckv (st 86) (Int32.ofNat j) x2
          · rw [if_pos q2, if_neg (show ¬ ((¬ ckv (st 86) (Int32.ofNat j) x2 < 0 ∧ ¬ x1 < ckv (st 86) (Int32.ofNat j) x2) ∧ pcI (Int32.ofNat j) < w.2) from fun z => z.1.2 q2), eX11_fewest_100, n_succ]
          · rw [if_neg q2, s_bc, (pc_k (show j < 512 by omega)).2.1]
            simp only [m_bd, Option.toList, List.cons_append, List.nil_append]
            rw [eX11_fewest_85]
            by_cases q3 : pcI (Int32.ofNat j) < w.2
            · rw [if_pos q3, if_pos (show (¬ ckv (st 86) (Int32.ofNat j) x2 < 0 ∧ ¬ x1 < ckv (st 86) (Int32.ofNat j) x2) ∧ pcI (Int32.ofNat j) < w.2 from ⟨⟨q1, q2⟩, q3⟩), s_bc, (pc_k (show j < 512 by omega)).2.1]
              simp only [m_bd, Option.toList, List.cons_append, List.nil_append]
              rw [eX11_fewest_98, eX11_fewest_100, n_succ]
            · rw [if_neg q3, if_neg (show ¬ ((¬ ckv (st 86) (Int32.ofNat j) x2 < 0 ∧ ¬ x1 < ckv (st 86) (Int32.ofNat j) x2) ∧ pcI (Int32.ofNat j) < w.2) from fun z => q3 z.2), eX11_fewest_100, n_succ]
    · rw [if_neg h2, if_neg (fun z => h2 z.2), eX11_fewest_14]
      exact ⟨st, rfl, scr_refl st⟩
  · rw [if_neg h1, if_neg (fun z => h1 z.1), eX11_fewest_14]
    exact ⟨st, rfl, scr_refl st⟩
theorem mc_fewest (d : Nat) {st : zS} (hR : Rel st) (x1 x2 : Int32) : RT (m_evc (d + 8) 198 [.ref 85, .int x1, .int x2] (SH, st)) (some (.int (a_fewest x1 x2 (st 86)))) (scr st) := by
  obtain ⟨hN, hV, h7, e0⟩ := Rel_x hR
  have h9 := hV.1.2
  have hp := p2_b h9
  have hp1 := p2_1 (tn (st 86))
  unfold a_fewest
  rw [cal_X12_fewest, eX12_fewest_0, s_inb]
  simp only [m_bd, Option.toList, List.cons_append, List.nil_append]
  rw [eX12_fewest_9, bZ_if]
  by_cases h1 : gR 0 999 x1
  · rw [if_pos (show (0 : Int64).toInt ≤ x1.toInt ∧ x1.toInt ≤ (999 : Int64).toInt from h1), s_isTM]
    simp only [m_bd, Option.toList, List.cons_append, List.nil_append]
    rw [eX12_fewest_16, bZ_if]
    by_cases h2 : TG x2
    · rw [if_pos h2, if_pos ⟨h1, h2⟩]
      rw [eX12_fewest_21]
      have L := lp_inv (fun j (a : zS × (Int32 × Option Value)) => m_ev none (d + 7) 198 26 [some (.ref 85), some (.int x1), some (.int x2), some (.int a.2.1), some (.int (Int32.ofNat j)), a.2.2] [] (SH, a.1)) (fun j a => (fM st a.1 ∧ 1 ≤ j ∧ (a.2.1 = -1 ∨ ∃ q, q < 512 ∧ a.2.1 = Int32.ofNat q)) ∧ a.2.1 = lp (fwM (fun m => ckv (st 86) (Int32.ofNat m) x2) x1) (j - 1) 1 (-1)) (2 ^ tn (st 86)) ?_ (2 ^ tn (st 86) - 1) 1 (st, (-1, none)) (by omega) ⟨⟨fM_refl _, Nat.le_refl 1, Or.inl rfl⟩, rfl⟩
      · obtain ⟨⟨st2, w, x6⟩, e, ⟨f2, _, _⟩, hw⟩ := L
        have hw : w = _ := hw
        have f2 : fM st st2 := f2
        refine ⟨st2, ?_, scr_M f2⟩
        refine Eq.trans e ?_
        simp only
        have w2 := fw_eq (fun m => ckv (st 86) (Int32.ofNat m) x2) x1 (2 ^ tn (st 86) - 1) 1 (-3, 10) (-1) (by omega) (Or.inl ⟨rfl, rfl⟩)
        rw [eX12_fewest_26, f2.1 86 rfl, hV.1.1, sh_n h9, if_neg (by rw [n_lt (by omega) (by omega)]; omega), eX12_fewest_88, ← w2, ← hw]
        by_cases q : w < 0
        · rw [if_pos q, if_pos q, eX12_fewest_98]
        · rw [if_neg q, if_neg q, eX12_fewest_97, eX12_fewest_98]
      · rintro j ⟨a, w, x6⟩ hj ⟨⟨f, h1j, hor⟩, hw⟩
        have hw : w = _ := hw
        have f : fM st a := f
        have hor : w = -1 ∨ ∃ q, q < 512 ∧ w = Int32.ofNat q := hor
        have e86 : a 86 = st 86 := f.1 86 rfl
        obtain ⟨b, eb, fb'⟩ := m_clk d (st := a) (by rw [e86]; exact hV) (show j < 512 by omega) h2
        rw [e86] at eb
        have hnext : fwM (fun m => ckv (st 86) (Int32.ofNat m) x2) x1 j w = lp (fwM (fun m => ckv (st 86) (Int32.ofNat m) x2) x1) (j + 1 - 1) 1 (-1) := by
          rw [hw, show j + 1 - 1 = (j - 1) + 1 by omega, lp_last, show 1 + (j - 1) = j by omega]
        have hor2 : fwM (fun m => ckv (st 86) (Int32.ofNat m) x2) x1 j w = -1 ∨ ∃ q, q < 512 ∧ fwM (fun m => ckv (st 86) (Int32.ofNat m) x2) x1 j w = Int32.ofNat q := by
          unfold fwM
          split
          · split
            · exact Or.inr ⟨j, by omega, rfl⟩
            · exact hor
          · exact hor
        have hltm : Int32.ofNat j < Int32.ofNat (2 ^ tn (st 86)) := by rw [n_lt (by omega) (by omega)]; exact hj
        -- a set that is asked
        have ask : ∀ y : Option Value, w < 0 ∨ pcI (Int32.ofNat j) < pcI w → m_ev none (d + 7) 198 55 [some (.ref 85), some (.int x1), some (.int x2), some (.int w), some (.int (Int32.ofNat j)), y] [] (SH, a) = m_ev none (d + 7) 198 26 [some (.ref 85), some (.int x1), some (.int x2), some (.int (fwM (fun m => ckv (st 86) (Int32.ofNat m) x2) x1 j w)), some (.int (Int32.ofNat (j + 1))), some (.int (ckv (st 86) (Int32.ofNat j) x2))] [] (SH, b) := by
          intro y hy
          rw [eX12_fewest_55, eb]
          simp only [m_bd, Option.toList, List.cons_append, List.nil_append]
          rw [eX12_fewest_62]
          unfold fwM
          simp only
          rw [if_pos hy]
          by_cases q1 : ckv (st 86) (Int32.ofNat j) x2 < 0
          · rw [if_pos q1, if_neg (show ¬ (¬ ckv (st 86) (Int32.ofNat j) x2 < 0 ∧ ¬ x1 < ckv (st 86) (Int32.ofNat j) x2) from fun z => z.1 q1), eX12_fewest_80, eX12_fewest_81, eX12_fewest_82, n_succ]
          · rw [if_neg q1]
            by_cases q2 : x1 < ckv (st 86) (Int32.ofNat j) x2
            · rw [if_pos q2, if_neg (show ¬ (¬ ckv (st 86) (Int32.ofNat j) x2 < 0 ∧ ¬ x1 < ckv (st 86) (Int32.ofNat j) x2) from fun z => z.2 q2), eX12_fewest_80, eX12_fewest_81, eX12_fewest_82, n_succ]
            · rw [if_neg q2, if_pos (show ¬ ckv (st 86) (Int32.ofNat j) x2 < 0 ∧ ¬ x1 < ckv (st 86) (Int32.ofNat j) x2 from ⟨q1, q2⟩), eX12_fewest_81, eX12_fewest_82, n_succ]
        by_cases q1 : w < 0
        · refine ⟨(b, (fwM (fun m => ckv (st 86) (Int32.ofNat m) x2) x1 j w, some (.int (ckv (st 86) (Int32.ofNat j) x2)))), ?_, ⟨fM_tr f fb', by omega, hor2⟩, hnext⟩
          simp only
          rw [eX12_fewest_26, e86, hV.1.1, sh_n h9, if_pos hltm, if_pos q1]
          exact ask x6 (Or.inl q1)
        · obtain ⟨q, hq, hwq⟩ := hor.resolve_left (fun z => by rw [z] at q1; exact q1 n_neg1)
          have go : m_ev none (d + 7) 198 26 [some (.ref 85), some (.int x1), some (.int x2), some (.int w), some (.int (Int32.ofNat j)), x6] [] (SH, a) = m_ev none (d + 7) 198 52 [some (.ref 85), some (.int x1), some (.int x2), some (.int w), some (.int (Int32.ofNat j)), x6] [.int (pcI w), .int (pcI (Int32.ofNat j))] (SH, a) := by
            rw [eX12_fewest_26, e86, hV.1.1, sh_n h9, if_pos hltm, if_neg q1, s_ones _ a (show j < 512 by omega)]
            simp only [m_bd, Option.toList, List.cons_append, List.nil_append]
            rw [eX12_fewest_48, hwq, s_ones _ a hq]
            simp only [m_bd, Option.toList, List.cons_append, List.nil_append]
          by_cases q2 : pcI (Int32.ofNat j) < pcI w
          · refine ⟨(b, (fwM (fun m => ckv (st 86) (Int32.ofNat m) x2) x1 j w, some (.int (ckv (st 86) (Int32.ofNat j) x2)))), ?_, ⟨fM_tr f fb', by omega, hor2⟩, hnext⟩
            simp only
            rw [go, eX12_fewest_52, if_pos q2]
            exact ask x6 (Or.inr q2)
          · have hsame : fwM (fun m => ckv (st 86) (Int32.ofNat m) x2) x1 j w = w := by
              unfold fwM
              rw [if_neg (fun z => z.elim q1 q2)]
            refine ⟨(a, (fwM (fun m => ckv (st 86) (Int32.ofNat m) x2) x1 j w, x6)), ?_, ⟨f, by omega, hor2⟩, hnext⟩
            simp only
            rw [go, eX12_fewest_52, if_neg q2, eX12_fewest_82, n_succ, hsame]
    · rw [if_neg h2, if_neg (fun z => h2 z.2), eX12_fewest_19]
      exact ⟨st, rfl, scr_refl st⟩
  · rw [if_neg (show ¬ ((0 : Int64).toInt ≤ x1.toInt ∧ x1.toInt ≤ (999 : Int64).toInt) from h1), if_neg (fun z => h1 z.1), eX12_fewest_19]
    exact ⟨st, rfl, scr_refl st⟩
