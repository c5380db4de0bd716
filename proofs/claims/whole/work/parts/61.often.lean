/-! CALLS: often -/
theorem x_n_eq (r : Int32) : ∃ q, q < 65536 ∧ x_n r = Int32.ofNat q := by
  refine ⟨r.toUInt32.toNat / 65536, ?_, ?_⟩
  · have : r.toUInt32.toNat < 4294967296 := UInt32.toNat_lt _
    omega
  · unfold x_n
    have e : r.toUInt32 >>> ((16 : Int32).toUInt32 &&& Int32.toUInt32 31) = UInt32.ofNat (r.toUInt32.toNat / 65536) := by
      apply UInt32.toNat_inj.mp
      have e2 : ((16 : Int32).toUInt32 &&& Int32.toUInt32 31).toNat = 16 := by decide
      have h1 : r.toUInt32.toNat < 4294967296 := UInt32.toNat_lt _
      rw [UInt32.toNat_shiftRight, e2, Nat.shiftRight_eq_div_pow, UInt32.toNat_ofNat_of_lt' (by show r.toUInt32.toNat / 65536 < 4294967296; omega)]
    rw [e]; rfl
theorem x_Wb (r : Int32) : -3 ≤ (x_W r).toInt ∧ (x_W r).toInt ≤ 3 := by
  obtain ⟨q, hq, e⟩ := x_n_eq r
  unfold x_W
  rw [e]
  have e7 : Int32.ofNat q / 7 = Int32.ofNat (q / 7) := (Int32.ofNat_div (show q < 2 ^ 31 by omega) (show 7 < 2 ^ 31 by omega)).symm
  rw [e7, show (7 : Int32) = Int32.ofNat 7 from rfl, n_mul]
  have hle : q / 7 * 7 ≤ q := Nat.div_mul_le_self q 7
  have e3 : (3 : Int32).toInt = 3 := rfl
  have e1 : (Int32.ofNat q - Int32.ofNat (q / 7 * 7)).toInt = (q : Int) - (q / 7 * 7 : Nat) := by
    rw [i_subb (by rw [n_int (by omega), n_int (by omega)]; omega), n_int (by omega), n_int (by omega)]
  rw [i_subb (by rw [e1, e3]; omega), e1, e3]
  omega
theorem s_dA (d : Nat) (st : zS) (z : Int32) : m_evc (d + 1) 122 [.int z] (SH, st) = some (some (.int (x_D z)), (SH, st)) := by
  rw [cal_X11_drawnAfter, eX11_drawnAfter_0]; rfl
theorem s_wD (d : Nat) (st : zS) (z : Int32) : m_evc (d + 1) 123 [.int z] (SH, st) = some (some (.int (x_W z)), (SH, st)) := by
  rw [cal_X11_windDrawn, eX11_windDrawn_0]; rfl
/-- the numbers of a row but for z -/
theorem fcs_3 {s t : Nat → Int32} (h : ∀ j, j ≠ 3 → s j = t j) (k : Nat) : fcs s k = fcs t k := by
  funext j
  match j with
  | 0 => exact h 2 (by omega)
  | 1 => show s (5 + (s 2).toNatClampNeg) + 3 = t (5 + (t 2).toNatClampNeg) + 3; rw [h 2 (by omega), h _ (by omega)]
  | 2 => exact h _ (by omega)
  | 3 => exact h _ (by omega)
  | 4 => exact h _ (by omega)
  | _ + 5 => rfl
theorem rof_3 {s t : Nat → Int32} (h : ∀ j, j ≠ 3 → s j = t j) (k : Nat) : rof s k = rof t k := by
  unfold rof
  rw [fcs_3 h k, h (12 + 6 * k) (by omega), h 4 (by omega), ruf_cs (fun j hj => h j (by omega))]
theorem ads_3 {s t : Nat → Int32} (h : ∀ j, j ≠ 3 → s j = t j) (k : Nat) : ads s k = ads t k := by
  unfold ads
  rw [rof_3 h k]
  have e : ab s k (rof t k) = ab t k (rof t k) := by
    unfold ab
    cases rof t k with
    | none => exact h _ (by omega)
    | some r => simp only [h (79 + 4 * r) (by omega), h (80 + 4 * r) (by omega), h (13 + 6 * k) (by omega), h (15 + 6 * k) (by omega)]
  rw [e]
  unfold aw
  rw [h (12 + 6 * k) (by omega), h 2 (by omega), h (14 + 6 * k) (by omega)]
theorem sil_3 {s t : Nat → Int32} (h : ∀ j, j ≠ 3 → s j = t j) (k : Nat) : sil s k = sil t k := by
  unfold sil
  rw [rof_3 h k]
  unfold slw
  cases rof t k with
  | none => rfl
  | some r => simp only [h (79 + 4 * r) (by omega)]
theorem wst_3 {s t : Nat → Int32} (h : ∀ j, j ≠ 3 → s j = t j) (b q : Nat → Bool) (x : Int32) : ∀ k, wst s b q x k = wst t b q x k
  | 0 => rfl
  | k + 1 => by
    have ep : pw s = pw t := by unfold pw; rw [h 2 (by omega), h _ (by omega)]
    have ea : ∀ m g, arr s (k + 1) m g = arr t (k + 1) m g := fun m g => by unfold arr; rw [h _ (by omega), ads_3 h]
    unfold wst
    rw [wst_3 h b q x k, ep, sil_3 h k, h (14 + 6 * k) (by omega), h (15 + 6 * (k + 1)) (by omega)]
    simp only [ea]
def zsq (z : Int32) : Nat → Int32
  | 0 => z
  | i + 1 => x_D (zsq z i)
def oS (s : Nat → Int32) (i : Nat) : Nat → Int32 := chg s (5 + (s 2).toNatClampNeg) (x_W (zsq (s 3) (i + 1)))
def oF (s : Nat → Int32) (bd t : Int32) (k i : Nat) (a : Int32) : Int32 := match wst (oS s i) (isb 0) nob t k with
  | none => a
  | some ch => if bd < ab1 (ch.2 - ch.1) then a else a + 1
def a_often (x1 x2 x3 x4 : Int32) (s : Nat → Int32) : Int32 := if ((gT s x1 ∧ gR 0 999 x2) ∧ TG x3) ∧ gR 1 60 x4 then lp (oF s x2 x3 x1.toNatClampNeg) x4.toNatClampNeg 0 0 else -1
theorem CN_w2 {st a : zS} {s : Nat → Int32} (h : CN st s) (hV : VN s) {d : Nat} (hd : d < 7) {v : Int32} (hv : -3 ≤ v.toInt ∧ v.toInt ≤ 3) (f : fr [8, 17, 44, 45, 46, 47, 48] st a) (g : ∀ i, i ≠ d → a 8 i = st 8 i) : CN (m_up a 8 d v) (chg s (5 + d) v) := by
  refine CN_mk h (VN_wind hV hd hv) (fun i h1 h2 => ?_) (by rw [up_ne (by decide), f 1 rfl]) (chg_ne (by omega)) (chg_ne (by omega)) (fun j hj => (chg_ne (by omega)).symm) (fun i hi => ?_) (fun j hj => ?_)
  · rw [up_ne (by omega)]
    exact fr_of f (fun c => Nat.ble 9 c && Nat.ble c 14) rfl i (by simp; omega)
  · rw [up_ne (by decide), up_ne (by decide), up_ne (by decide), up_ne (by decide), f 2 rfl, f 3 rfl, f 4 rfl, f 5 rfl, chg_ne (by omega), chg_ne (by omega), chg_ne (by omega), chg_ne (by omega)]
    exact h.2.2.2.1 i hi
  · by_cases q : j = d
    · subst q; rw [chg_at, up_in]
    · rw [chg_ne (by omega), up_nj q, g j q]; exact h.2.2.2.2.1 j hj
theorem x_often (d : Nat) {st : zS} (hR : Rel st) (x1 x2 x3 x4 : Int32) : RT (m_evc (d + 8) 113 [.ref 0, .int x1, .int x2, .int x3, .int x4] (SH, st)) (some (.int (a_often x1 x2 x3 x4 (st 86)))) (scr st) := by
  obtain ⟨hN, hV, h7, e0⟩ := Rel_x hR
  have hz : st 1 9 = st 86 3 := hR.1.2.2.1.2.2
  have h9 := hV.1.2
  have hd := hV.2.2.2.1
  unfold a_often
  rw [cal_X11_often, eX11_often_0, s_isTowX _ st e0 hV.1]
  simp only [m_bd, Option.toList, List.cons_append, List.nil_append]
  rw [eX11_often_8, bZ_if]
  by_cases h1 : gT (st 86) x1
  · rw [if_pos h1, s_isBndX]
    simp only [m_bd, Option.toList, List.cons_append, List.nil_append]
    rw [eX11_often_15, bZ_if]
    by_cases h2 : gR 0 999 x2
    · rw [if_pos h2, s_isTX]
      simp only [m_bd, Option.toList, List.cons_append, List.nil_append]
      rw [eX11_often_22, bZ_if]
      by_cases h3 : TG x3
      · rw [if_pos h3]
        have t1 : (1 : Int32).toInt = 1 := rfl
        have t60 : (60 : Int32).toInt = 60 := rfl
        by_cases h4 : gR 1 60 x4
        · rw [if_neg (by rw [i_lt, t1]; have := h4.1; omega), if_neg (by rw [i_lt, t60]; have := h4.2; omega), if_pos ⟨⟨⟨h1, h2⟩, h3⟩, h4⟩]
          obtain ⟨k, hk, rfl⟩ := gT_e h1
          obtain ⟨en4, hn1, hn2⟩ := gR_n h4 (by omega)
          generalize hn : x4.toNatClampNeg = n at en4 hn1 hn2
          subst en4
          have hix7 : m_ix (st 86 2) 7 = some (st 86 2).toNatClampNeg := by
            have := ix_7 hd.2
            rw [← hd.1] at this; exact this
          rw [eX11_often_40, h7, hix7]
          simp only [m_ob]
          rw [n_nat (show k < 2147483648 by omega)]
          have L := lp_inv (fun j (a : zS × (Int32 × Int32)) => m_ev none (d + 7) 113 72 [some (.ref 0), some (.int (Int32.ofNat k)), some (.int x2), some (.int x3), some (.int (Int32.ofNat n)), some (.int (st 8 (st 86 2).toNatClampNeg)), some (.int a.2.1), some (.int a.2.2), some (.int (Int32.ofNat j))] [] (SH, a.1)) (fun j a => (fr [8, 17, 44, 45, 46, 47, 48] st a.1 ∧ ∀ i, i ≠ (st 86 2).toNatClampNeg → a.1 8 i = st 8 i) ∧ a.2.1 = zsq (st 86 3) j ∧ a.2.2 = lp (oF (st 86) x2 x3 k) j 0 0) n ?_ n 0 (st, (st 1 9, 0)) (by omega) ⟨⟨fr_refl _ _, fun _ _ => rfl⟩, hz, rfl⟩
          · obtain ⟨⟨st1, z, w⟩, e, ⟨f1, g1⟩, hzz, hw⟩ := L
            have hw : w = _ := hw
            have f1 : fr [8, 17, 44, 45, 46, 47, 48] st st1 := f1
            have g1 : ∀ i, i ≠ (st 86 2).toNatClampNeg → st1 8 i = st 8 i := g1
            have row : m_up st1 8 (st 86 2).toNatClampNeg (st 8 (st 86 2).toNatClampNeg) 8 = st 8 := by
              funext i
              rw [up_app]
              by_cases q : i = (st 86 2).toNatClampNeg
              · rw [if_pos q, ← q]
              · rw [if_neg q]; exact g1 i q
            refine ⟨m_up st1 8 (st 86 2).toNatClampNeg (st 8 (st 86 2).toNatClampNeg), ?_, scr_fr (fr_drop (i := 8) (fr_up f1 rfl) row) rfl⟩
            refine Eq.trans e ?_
            simp only
            rw [eX11_often_72, if_neg (by rw [n_lt (by omega) (by omega)]; omega), eX11_often_144, f1 1 rfl, h7, hix7]
            simp only [m_ob]
            rw [hw]
          · rintro j ⟨a, z, w⟩ hj ⟨⟨f, g⟩, hzz, hw⟩
            have hw : w = _ := hw
            have hzz : z = _ := hzz
            have f : fr [8, 17, 44, 45, 46, 47, 48] st a := f
            have g : ∀ i, i ≠ (st 86 2).toNatClampNeg → a 8 i = st 8 i := g
            have hC := CN_w2 hN hV hd.2 (x_Wb (x_D z)) f g
            have hVw := VN_wind hV hd.2 (x_Wb (x_D z))
            have ht : tn (chg (st 86) (5 + (st 86 2).toNatClampNeg) (x_W (x_D z))) = tn (st 86) := tn_chg (by omega) _
            obtain ⟨st2, e2, f2, D2, r2⟩ := s_cry0 d (m_up a 8 (st 86 2).toNatClampNeg (x_W (x_D z))) hC hVw (by rw [up_ne (by decide), f 1 rfl, chg_ne (by omega)]; exact h7) h3 (by rw [ht]; omega)
            rw [ht] at r2
            have hb := fb_wst (b := isb 0) (q := nob) hVw h3
            rw [ht] at hb
            have hS : oS (st 86) j = chg (st 86) (5 + (st 86 2).toNatClampNeg) (x_W (x_D z)) := by unfold oS; rw [hzz]; rfl
            refine ⟨(st2, (x_D z, oF (st 86) x2 x3 k j w)), ?_, ⟨fr_mono (fr_tr (fr_up f rfl) f2) (by decide), fun i hi => ?_⟩, ?_, ?_⟩
            · simp only
              rw [eX11_often_72, if_pos (by rw [n_lt (by omega) (by omega)]; exact hj), s_dA]
              simp only [m_bd, Option.toList, List.cons_append, List.nil_append]
              rw [eX11_often_84, s_wD]
              simp only [m_bd, Option.toList, List.cons_append, List.nil_append]
              rw [eX11_often_105, f 1 rfl, h7, hix7]
              simp only [m_ob]
              rw [e2]
              simp only [m_bd, Option.toList, List.cons_append, List.nil_append]
              rw [eX11_often_112, ya_rch _ st2 r2 hb hk h9]
              simp only [m_bd, Option.toList, List.cons_append, List.nil_append]
              rw [eX11_often_120, bZ_if]
              unfold oF
              rw [hS]
              cases e : wst (chg (st 86) (5 + (st 86 2).toNatClampNeg) (x_W (x_D z))) (isb 0) nob x3 k with
              | none => rw [if_neg iN, eX11_often_138, n_succ]
              | some ch =>
                obtain ⟨c, g⟩ := ch
                rw [if_pos iS, ya_dist _ st2 r2 hk h9 e]
                simp only [m_bd, Option.toList, List.cons_append, List.nil_append]
                rw [eX11_often_131]
                by_cases q : x2 < ab1 (g - c)
                · simp only [if_pos q]
                  rw [eX11_often_138, n_succ]
                · simp only [if_neg q]
                  rw [eX11_often_138, n_succ]
            · show st2 8 i = st 8 i
              rw [f2 8 rfl, up_nj hi]; exact g i hi
            · show x_D z = zsq (st 86 3) (j + 1)
              rw [hzz]; rfl
            · show oF (st 86) x2 x3 k j w = _
              rw [lp_last, Nat.zero_add, ← hw]
        · rw [if_neg (show ¬ (((gT (st 86) x1 ∧ gR 0 999 x2) ∧ TG x3) ∧ gR 1 60 x4) from fun z => h4 z.2)]
          by_cases q : x4 < 1
          · rw [if_pos q, eX11_often_38]
            exact ⟨st, rfl, scr_refl st⟩
          · rw [if_neg q, if_pos (by
              rw [i_lt, t60]
              rw [i_lt, t1] at q
              by_cases w : 60 < x4.toInt
              · exact w
              · exact absurd ⟨by omega, by omega⟩ h4), eX11_often_38]
            exact ⟨st, rfl, scr_refl st⟩
      · rw [if_neg h3, if_neg (fun z => h3 z.1.2), eX11_often_38]
        exact ⟨st, rfl, scr_refl st⟩
    · rw [if_neg h2, if_neg (fun z => h2 z.1.1.2), eX11_often_38]
      exact ⟨st, rfl, scr_refl st⟩
  · rw [if_neg h1, if_neg (fun z => h1 z.1.1.1), eX11_often_38]
    exact ⟨st, rfl, scr_refl st⟩
theorem mc_often (d : Nat) {st : zS} (hR : Rel st) (x1 x2 x3 x4 : Int32) : RT (m_evc (d + 8) 212 [.ref 85, .int x1, .int x2, .int x3, .int x4] (SH, st)) (some (.int (a_often x1 x2 x3 x4 (st 86)))) (scr st) := by
  obtain ⟨hN, hV, h7, e0⟩ := Rel_x hR
  have h9 := hV.1.2
  have hd := hV.2.2.2.1
  unfold a_often
  rw [cal_X12_often, eX12_often_0, s_isTM0 _ st hV]
  simp only [m_bd, Option.toList, List.cons_append, List.nil_append]
  rw [eX12_often_5, bZ_if]
  by_cases h1 : gT (st 86) x1
  · rw [if_pos h1, s_inb]
    simp only [m_bd, Option.toList, List.cons_append, List.nil_append]
    rw [eX12_often_17, bZ_if]
    by_cases h2 : gR 0 999 x2
    · rw [if_pos (show (0 : Int64).toInt ≤ x2.toInt ∧ x2.toInt ≤ (999 : Int64).toInt from h2), s_isTM]
      simp only [m_bd, Option.toList, List.cons_append, List.nil_append]
      rw [eX12_often_24, bZ_if]
      by_cases h3 : TG x3
      · rw [if_pos h3, s_inb]
        simp only [m_bd, Option.toList, List.cons_append, List.nil_append]
        rw [eX12_often_37, bZ_if]
        by_cases h4 : gR 1 60 x4
        · rw [if_pos (show (1 : Int64).toInt ≤ x4.toInt ∧ x4.toInt ≤ (60 : Int64).toInt from h4), if_pos ⟨⟨⟨h1, h2⟩, h3⟩, h4⟩]
          obtain ⟨k, hk, rfl⟩ := gT_e h1
          obtain ⟨en4, hn1, hn2⟩ := gR_n h4 (by omega)
          generalize hn : x4.toNatClampNeg = n at en4 hn1 hn2
          subst en4
          have hix : m_ix (5 + st 86 2) 310 = some (5 + (st 86 2).toNatClampNeg) := by
            have := ix_W hd.2
            rw [← hd.1] at this; exact this
          rw [eX12_often_42, hix]
          simp only [m_ob]
          rw [n_nat (show k < 2147483648 by omega)]
          have L := lp_inv (fun j (a : zS × Int32) => m_ev none (d + 7) 212 71 [some (.ref 85), some (.int (Int32.ofNat k)), some (.int x2), some (.int x3), some (.int (Int32.ofNat n)), some (.int (st 86 3)), some (.int (st 86 (5 + (st 86 2).toNatClampNeg))), some (.int a.2), some (.int (Int32.ofNat j))] [] (SH, a.1)) (fun j a => (fM6 st a.1 ∧ a.1 86 3 = zsq (st 86 3) j ∧ ∀ i, i ≠ 3 → i ≠ 5 + (st 86 2).toNatClampNeg → a.1 86 i = st 86 i) ∧ a.2 = lp (oF (st 86) x2 x3 k) j 0 0) n ?_ n 0 (st, 0) (by omega) ⟨⟨fM6_refl _, rfl, fun _ _ _ => rfl⟩, rfl⟩
          · obtain ⟨⟨st1, w⟩, e, ⟨f1, z1, g1⟩, hw⟩ := L
            have hw : w = _ := hw
            have f1 : fM6 st st1 := f1
            have g1 : ∀ i, i ≠ 3 → i ≠ 5 + (st 86 2).toNatClampNeg → st1 86 i = st 86 i := g1
            have h2' : st1 86 2 = st 86 2 := g1 2 (by omega) (by omega)
            have row : m_up (m_up st1 86 3 (st 86 3)) 86 (5 + (st 86 2).toNatClampNeg) (st 86 (5 + (st 86 2).toNatClampNeg)) 86 = st 86 := by
              funext i
              rw [up_app, up_app]
              by_cases q : i = 5 + (st 86 2).toNatClampNeg
              · rw [if_pos q, ← q]
              · rw [if_neg q]
                by_cases q3 : i = 3
                · rw [if_pos q3, q3]
                · rw [if_neg q3]; exact g1 i q3 q
            refine ⟨m_up (m_up st1 86 3 (st 86 3)) 86 (5 + (st 86 2).toNatClampNeg) (st 86 (5 + (st 86 2).toNatClampNeg)), ?_, fM6_end (fM6_up (fM6_up f1 _ _) _ _) row⟩
            refine Eq.trans e ?_
            simp only
            rw [eX12_often_71, if_neg (by rw [n_lt (by omega) (by omega)]; omega), eX12_often_131, h2', hix]
            simp only [m_ob]
            rw [hw]
          · rintro j ⟨a, w⟩ hj ⟨⟨f, z1, g⟩, hw⟩
            have hw : w = _ := hw
            have z1 : a 86 3 = zsq (st 86 3) j := z1
            have f : fM6 st a := f
            have g : ∀ i, i ≠ 3 → i ≠ 5 + (st 86 2).toNatClampNeg → a 86 i = st 86 i := g
            have h2' : a 86 2 = st 86 2 := g 2 (by omega) (by omega)
            have row : ∀ z w' : Int32, m_up (m_up a 86 3 z) 86 (5 + (st 86 2).toNatClampNeg) w' 86 = chg (chg (st 86) (5 + (st 86 2).toNatClampNeg) w') 3 z := by
              intro z w'
              funext i
              rw [up_app, up_app]
              unfold chg
              by_cases q : i = 5 + (st 86 2).toNatClampNeg
              · rw [if_pos q, if_neg (show ¬ i = 3 by omega), if_pos q]
              · rw [if_neg q, if_neg q]
                by_cases q3 : i = 3
                · rw [if_pos q3, if_pos q3]
                · rw [if_neg q3, if_neg q3]; exact g i q3 q
            have h3c : ∀ (s : Nat → Int32) (z : Int32) (i : Nat), i ≠ 3 → chg s 3 z i = s i := fun s z i hi => chg_ne hi
            have hVw := VN_wind hV hd.2 (x_Wb (x_D (a 86 3)))
            have hV3 : VN (chg (chg (st 86) (5 + (st 86 2).toNatClampNeg) (x_W (x_D (a 86 3)))) 3 (x_D (a 86 3))) := VN_of hVw (chg_ne (by omega)) (chg_ne (by omega)) (chg_ne (by omega)) (fun j hj => (chg_ne (by omega)).symm) (fun i hi => by
              rw [chg_ne (show 12 + 6 * i ≠ 3 by omega), chg_ne (show 13 + 6 * i ≠ 3 by omega), chg_ne (show 14 + 6 * i ≠ 3 by omega), chg_ne (show 15 + 6 * i ≠ 3 by omega)]
              exact hVw.2.1 i hi) (fun j hj => by rw [chg_ne (show 5 + j ≠ 3 by omega)]; exact hVw.2.2.1 j hj)
            have ht : tn (chg (chg (st 86) (5 + (st 86 2).toNatClampNeg) (x_W (x_D (a 86 3)))) 3 (x_D (a 86 3))) = tn (st 86) := by rw [tn_chg (by omega), tn_chg (by omega)]
            have hix' : m_ix (5 + a 86 2) 310 = some (5 + (st 86 2).toNatClampNeg) := by rw [h2']; exact hix
            obtain ⟨st2, e2, f2, r2⟩ := s_first d (st := m_up (m_up a 86 3 (x_D (a 86 3))) 86 (5 + (st 86 2).toNatClampNeg) (x_W (x_D (a 86 3)))) (by rw [row]; exact hV3) (t := x3) (by rw [row, ht]; omega) nob_q
            rw [row, ht] at r2
            have hb := fb_wst (b := isb 0) (q := nob) hV3 h3
            rw [ht] at hb
            have q := rp_neg r2 hb hk
            have hS : wst (chg (chg (st 86) (5 + (st 86 2).toNatClampNeg) (x_W (x_D (a 86 3)))) 3 (x_D (a 86 3))) (isb 0) nob x3 k = wst (oS (st 86) j) (isb 0) nob x3 k := by
              have : oS (st 86) j = chg (st 86) (5 + (st 86 2).toNatClampNeg) (x_W (x_D (a 86 3))) := by unfold oS; rw [z1]; rfl
              rw [this]
              exact wst_3 (fun i hi => h3c _ _ i hi) _ _ _ _
            refine ⟨(st2, oF (st 86) x2 x3 k j w), ?_, ⟨fM6_tr (fM6_up (fM6_up f _ _) _ _) f2, ?_, fun i i3 i5 => ?_⟩, ?_⟩
            · simp only
              have hdr : m_evc (d + 7) 210 [.ref 85, .int (a 86 2)] (SH, a) = some (none, (SH, m_up (m_up a 86 3 (x_D (a 86 3))) 86 (5 + (st 86 2).toNatClampNeg) (x_W (x_D (a 86 3))))) := by
                rw [cal_X12_draws, eX12_draws_0, hix']
                rfl
              rw [eX12_often_71, if_pos (by rw [n_lt (by omega) (by omega)]; exact hj), hdr]
              simp only [m_bd, Option.toList, List.cons_append, List.nil_append]
              rw [eX12_often_88, e2]
              simp only [m_bd, Option.toList, List.cons_append, List.nil_append]
              rw [eX12_often_94, ix_9 (show k < 9 by omega)]
              simp only [m_ob]
              unfold oF
              rw [hS] at q
              cases e : wst (oS (st 86) j) (isb 0) nob x3 k with
              | none => rw [if_pos (q.mpr e), eX12_often_121, eX12_often_122, n_succ, Int32.add_zero]
              | some ch =>
                obtain ⟨c, g⟩ := ch
                rw [if_neg (fun z => by rw [q.mp z] at e; cases e), m_off _ st2 r2 hk h9 (by rw [hS]; exact e)]
                simp only [m_bd, Option.toList, List.cons_append, List.nil_append]
                rw [eX12_often_110, m_size]
                simp only [m_bd, Option.toList, List.cons_append, List.nil_append]
                rw [eX12_often_113]
                by_cases q : x2 < ab1 (g - c)
                · simp only [if_pos q]
                  rw [eX12_often_121, eX12_often_122, n_succ, Int32.add_zero]
                · simp only [if_neg q]
                  rw [eX12_often_122, n_succ]
            · show st2 86 3 = zsq (st 86 3) (j + 1)
              rw [f2.1 86 rfl, row, chg_at, z1]; rfl
            · show st2 86 i = st 86 i
              rw [f2.1 86 rfl, row, chg_ne i3, chg_ne i5]
            · show oF (st 86) x2 x3 k j w = _
              rw [lp_last, Nat.zero_add, ← hw]
        · rw [if_neg (show ¬ ((1 : Int64).toInt ≤ x4.toInt ∧ x4.toInt ≤ (60 : Int64).toInt) from h4), if_neg (fun z => h4 z.2), eX12_often_40]
          exact ⟨st, rfl, scr_refl st⟩
      · rw [if_neg h3, if_neg (fun z => h3 z.1.2), eX12_often_40]
        exact ⟨st, rfl, scr_refl st⟩
    · rw [if_neg (show ¬ ((0 : Int64).toInt ≤ x2.toInt ∧ x2.toInt ≤ (999 : Int64).toInt) from h2), if_neg (fun z => h2 z.1.1.2), eX12_often_40]
      exact ⟨st, rfl, scr_refl st⟩
  · rw [if_neg h1, if_neg (fun z => h1 z.1.1.1), eX12_often_40]
    exact ⟨st, rfl, scr_refl st⟩
