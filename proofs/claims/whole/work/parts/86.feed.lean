/-! CALLS: feed -/
theorem by_sh (x : BitVec 64) (k : Nat) (hk : k ≤ 56) : (x >>> k).setWidth 8 = (x.sshiftRight k).setWidth 8 := by
  ext i hi
  simp only [BitVec.getElem_setWidth, BitVec.getLsbD_ushiftRight, BitVec.getLsbD_sshiftRight]
  have h1 : ¬ 64 ≤ i := by omega
  have h2 : k + i < 64 := by omega
  simp [h1, h2]
theorem by_lo (b : BitVec 64) : (b &&& 255#64).toNat = (b.setWidth 8).toNat := by
  rw [BitVec.toNat_and, BitVec.toNat_setWidth]
  exact Nat.and_two_pow_sub_one_eq_mod b.toNat 8
theorem by_s (b : BitVec 8) : b.toInt = if (b.toNat : Int) < 128 then (b.toNat : Int) else (b.toNat : Int) - 256 := by
  rw [BitVec.toInt_eq_toNat_cond]
  have := b.isLt
  split <;> split <;> omega

def cB (x : Int64) (j : Nat) : Int32 := vp_nar .byte (((((x : Int64).toUInt64 >>> (((8 * Int32.ofNat j) : Int32).toInt64.toUInt64 &&& Int64.toUInt64 63)).toInt64 : Int64).toInt32 : Int32).toInt8.toInt32)
def mB (x : Int64) (j : Nat) : Int32 := (((x >>> (((8 * Int32.ofNat j) : Int32).toInt64 &&& 63)) &&& 255) : Int64).toInt32
theorem mB_sh (x : Int64) {j : Nat} (h : j < 8) : (x >>> (((8 * Int32.ofNat j) : Int32).toInt64 &&& 63)).toBitVec = x.toBitVec.sshiftRight (8 * j) := by
  have : j = 0 ∨ j = 1 ∨ j = 2 ∨ j = 3 ∨ j = 4 ∨ j = 5 ∨ j = 6 ∨ j = 7 := by omega
  rcases this with rfl | rfl | rfl | rfl | rfl | rfl | rfl | rfl <;> rfl
theorem cB_sh (x : Int64) {j : Nat} (h : j < 8) : ((x : Int64).toUInt64 >>> (((8 * Int32.ofNat j) : Int32).toInt64.toUInt64 &&& Int64.toUInt64 63)).toInt64.toBitVec = x.toBitVec >>> (8 * j) := by
  have : j = 0 ∨ j = 1 ∨ j = 2 ∨ j = 3 ∨ j = 4 ∨ j = 5 ∨ j = 6 ∨ j = 7 := by omega
  rcases this with rfl | rfl | rfl | rfl | rfl | rfl | rfl | rfl <;> rfl
theorem mB_n (x : Int64) {j : Nat} (h : j < 8) : (mB x j).toInt = ((x.toBitVec.sshiftRight (8 * j)).setWidth 8).toNat := by
  unfold mB
  have e : (x >>> (((8 * Int32.ofNat j) : Int32).toInt64 &&& 63) &&& 255).toBitVec = (x.toBitVec.sshiftRight (8 * j)) &&& 255#64 := by
    rw [Int64.toBitVec_and, mB_sh x h]; rfl
  have l := ((x.toBitVec.sshiftRight (8 * j)).setWidth 8).isLt
  have n := by_lo (x.toBitVec.sshiftRight (8 * j))
  have i : (x >>> (((8 * Int32.ofNat j) : Int32).toInt64 &&& 63) &&& 255).toInt = (((x.toBitVec.sshiftRight (8 * j)).setWidth 8).toNat : Int) := by
    show (x >>> (((8 * Int32.ofNat j) : Int32).toInt64 &&& 63) &&& 255).toBitVec.toInt = _
    rw [e, BitVec.toInt_eq_toNat_of_lt (by omega), n]
  rw [Int64.toInt_toInt32, i]
  apply Int.bmod_eq_of_le <;> omega
theorem cB_n (x : Int64) {j : Nat} (h : j < 8) : (cB x j).toInt = ((x.toBitVec >>> (8 * j)).setWidth 8).toInt := by
  unfold cB
  generalize eu : ((x : Int64).toUInt64 >>> (((8 * Int32.ofNat j) : Int32).toInt64.toUInt64 &&& Int64.toUInt64 63)).toInt64 = u
  have e : u.toBitVec = x.toBitVec >>> (8 * j) := by rw [← eu]; exact cB_sh x h
  show (u.toInt32.toInt8.toInt32.toInt8.toInt32).toInt = _
  rw [Int8.toInt_toInt32, Int32.toInt_toInt8, Int8.toInt_toInt32, Int32.toInt_toInt8, Int64.toInt_toInt32]
  rw [Int.bmod_bmod, Int.bmod_bmod_of_dvd (by decide)]
  show u.toBitVec.toInt.bmod (2 ^ 8) = _
  rw [e, BitVec.toInt_setWidth, BitVec.toInt_eq_toNat_bmod, Int.bmod_bmod_of_dvd (by decide)]
theorem cm_B (x : Int64) {j : Nat} (h : j < 8) : (0 ≤ (mB x j).toInt ∧ (mB x j).toInt ≤ 255) ∧ (cB x j).toInt = if (mB x j).toInt < 128 then (mB x j).toInt else (mB x j).toInt - 256 := by
  have l := ((x.toBitVec.sshiftRight (8 * j)).setWidth 8).isLt
  rw [mB_n x h, cB_n x h, by_sh _ _ (by omega), by_s]
  exact ⟨by omega, rfl⟩
theorem r_feed (y w z : Int32) : lw_C Rel 91 226 [.long (((y : Int32).toInt64 <<< ((32 : Int32).toInt64 &&& 63)) ||| ((w : Int32).toInt64 &&& 4294967295)), .int z] := by
  intro st hR
  generalize (((y : Int32).toInt64 <<< ((32 : Int32).toInt64 &&& 63)) ||| ((w : Int32).toInt64 &&& 4294967295)) = x
  obtain ⟨h1, h2, h3, h4, h5, h6, h7⟩ := hR
  have hR : Rel st := ⟨h1, h2, h3, h4, h5, h6, h7⟩
  obtain ⟨t1, t2, t3, t4⟩ := h7
  have X0 : m_evc 2047 91 [.ref 0, .long x, .int z] (SH, st) = if gR 1 8 z then m_ev none 2046 91 13 [some (.ref 0), some (.long x), none, some (.int z), none] [] (SH, st) else some (some (.int (-1)), (SH, st)) := by
    rw [cal_X11_feed 2046, eX11_feed_0, gR_if]
    by_cases h : gR 1 8 z
    · rw [if_pos (show gR (1 : Int32).toInt (8 : Int32).toInt z from h), if_pos h]
    · rw [if_neg (show ¬ gR (1 : Int32).toInt (8 : Int32).toInt z from h), if_neg h, eX11_feed_11]
  have M0 : ∀ a : zS, m_evc 2047 226 [.ref 85, .long x, .int z] (SH, a) = if gR 1 8 z then m_ev none 2046 226 14 [some (.ref 85), some (.long x), none, some (.int z), none] [] (SH, a) else some (some (.int (-1)), (SH, a)) := by
    intro a
    rw [cal_X12_feed 2046, eX12_feed_0, s_inb 2045]
    simp only [m_bd, Option.toList, List.cons_append, List.nil_append]
    rw [eX12_feed_9, bZ_if]
    by_cases h : gR 1 8 z
    · rw [if_pos (show (1 : Int64).toInt ≤ z.toInt ∧ z.toInt ≤ (8 : Int64).toInt from h), if_pos h]
    · rw [if_neg (show ¬ ((1 : Int64).toInt ≤ z.toInt ∧ z.toInt ≤ (8 : Int64).toInt) from h), if_neg h]
  by_cases h : gR 1 8 z
  · obtain ⟨ez, hz1, hz2⟩ := gR_n h (by omega)
    revert X0 M0
    generalize z.toNatClampNeg = n at ez hz1 hz2
    subst ez
    intro X0 M0
    rw [if_pos h] at X0
    generalize en : (st 35 0).toNatClampNeg = N at t2 t3 t4
    have lim : (200 < st 35 0 + Int32.ofNat n) = (200 < N + n) := by
      rw [t2, n_add, show (200 : Int32) = Int32.ofNat 200 from rfl, n_lt (by omega) (by omega)]
    by_cases hf : 200 < N + n
    · rw [eX11_feed_13, if_pos (by rw [lim]; exact hf)] at X0
      refine lw_bad hR X0 ?_
      rw [M0, if_pos h, eX12_feed_14, ← t1, if_pos (by rw [lim]; exact hf)]
    · rw [eX11_feed_13, if_neg (by rw [lim]; exact hf), eX11_feed_31] at X0
      have La := lp_inv (fun j (a : zS) => m_ev none 2046 91 34 [some (.ref 0), some (.long x), none, some (.int (Int32.ofNat n)), some (.int (Int32.ofNat j))] [] (SH, a)) (fun j a => fr [36] st a ∧ (∀ i, i < N → a 36 i = st 36 i) ∧ ∀ i, i < j → a 36 (N + i) = cB x i) n ?_ n 0 st (by omega) ⟨fr_refl _ _, fun i _ => rfl, fun i hi => by omega⟩
      · obtain ⟨b, eb, fb1, ob, gb⟩ := La
        have b35 : b 35 = st 35 := fb1 35 rfl
        have X1 : m_evc 2047 91 [.ref 0, .long x, .int (Int32.ofNat n)] (SH, st) = some (some (.int (Int32.ofNat (N + n))), (SH, m_up b 35 0 (Int32.ofNat (N + n)))) := by
          rw [X0]
          refine Eq.trans eb ?_
          rw [eX11_feed_34, if_neg (by rw [n_lt (by omega) (by omega)]; omega), eX11_feed_73, b35, t2, n_add]
        have Lm := lp_inv (fun j (g : zS) => m_ev none 2046 226 32 [some (.ref 85), some (.long x), none, some (.int (Int32.ofNat n)), some (.int (Int32.ofNat j))] [] (SH, g)) (fun j g => fr [85, 94] (m_up b 35 0 (Int32.ofNat (N + n))) g ∧ (∀ i, i ≠ 17 → g 85 i = st 85 i) ∧ g 85 17 = Int32.ofNat (N + j) ∧ (∀ i, i < N → g 94 i = st 94 i) ∧ ∀ i, i < j → g 94 (N + i) = mB x i) n ?_ n 0 (m_up b 35 0 (Int32.ofNat (N + n))) (by omega) ⟨fr_refl _ _, fun i hi => by rw [up_ne (by decide), fb1 85 rfl], by rw [up_ne (by decide), fb1 85 rfl, ← t1, t2]; rfl, fun i hi => by rw [up_ne (by decide), fb1 94 rfl], fun i hi => by omega⟩
        · obtain ⟨g, eg, fg, sg, ng, og, hg⟩ := Lm
          refine ⟨_, _, g, X1, ?_, ?_⟩
          · rw [M0, if_pos h, eX12_feed_14, up_ne (show 85 ≠ 35 by decide), fb1 85 rfl, ← t1, if_neg (by rw [lim]; exact hf), eX12_feed_29]
            refine Eq.trans eg ?_
            rw [eX12_feed_32, if_neg (by rw [n_lt (by omega) (by omega)]; omega), eX12_feed_75, ng]
          · have F : fr [35, 36, 85, 94] st g := fr_mono (fr_tr (fr_up (cs := [35, 36]) (fr_mono fb1 (by decide)) rfl) fg) (by decide)
            have e0 : g 0 = st 0 := F 0 rfl
            refine ⟨Rnow_fr F rfl h1, Rkept_fr F rfl (by rw [e0]) (sg 3 (by decide)) h2, Rrows_fr F rfl (by rw [e0]) (sg 15 (by decide)) h3, Rsheet_fr F rfl h4, Rshelf_fr F rfl h5, Rtrace_fr F rfl (sg 31 (by decide)) h6, ?_⟩
            have g35 : g 35 0 = Int32.ofNat (N + n) := by rw [fg 35 rfl, up_in]
            have g36 : g 36 = b 36 := by rw [fg 36 rfl, up_ne (by decide)]
            unfold Rtape
            rw [g35, ng, n_nat (by omega), g36]
            refine ⟨rfl, rfl, by omega, fun i hi => ?_⟩
            by_cases q : i < N
            · rw [ob i q, og i q]; exact t4 i q
            · have := gb (i - N) (by omega)
              have w2 := hg (i - N) (by omega)
              rw [show N + (i - N) = i by omega] at this w2
              rw [this, w2]
              exact cm_B x (by omega)
        · rintro j g hj ⟨fg, sg, ng, og, hg⟩
          refine ⟨m_up (m_up g 94 (N + j) (mB x j)) 85 17 (Int32.ofNat (N + (j + 1))), ?_, fr_up (fr_up fg rfl) rfl, fun i hi => by rw [up_nj hi, up_ne (by decide)]; exact sg i hi, up_in _ _ _ _, fun i hi => by rw [up_ne (by decide), up_nj (by omega)]; exact og i hi, fun i hi => ?_⟩
          · rw [eX12_feed_32, if_pos (by rw [n_lt (by omega) (by omega)]; exact hj), ng, ix_200 (show N + j < 200 by omega), ob_s, n_succ, n_succ]
            rfl
          · rw [up_ne (by decide)]
            by_cases q : i = j
            · subst q; rw [up_in]
            · rw [up_nj (by omega)]; exact hg i (by omega)
      · rintro j a hj ⟨fa, oa, ga⟩
        have a35 : a 35 = st 35 := fa 35 rfl
        refine ⟨m_up a 36 (N + j) (cB x j), ?_, fr_up fa rfl, fun i hi => by rw [up_nj (by omega)]; exact oa i hi, fun i hi => ?_⟩
        · rw [eX11_feed_34, if_pos (by rw [n_lt (by omega) (by omega)]; exact hj), a35, t2, n_add, ix_200 (show N + j < 200 by omega), ob_s, n_succ]
          rfl
        · by_cases q : i = j
          · subst q; rw [up_in]
          · rw [up_nj (by omega)]; exact ga i (by omega)
  · exact lw_bad hR (by rw [X0, if_neg h]) (by rw [M0, if_neg h])
