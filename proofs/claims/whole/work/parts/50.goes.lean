/-! A CRY IN THE CLASS: goWest, goEast, goBothWays, goOneWay -/
theorem VN_sd {s : Nat → Int32} (h : VN s) {dd : Nat} (hd : dd < 7) : VN (sd s dd) := by
  obtain ⟨a, b, c, _, e⟩ := h
  refine ⟨a, ?_, ?_, ?_, RG_cs (fun j hj => (sd_ne (by omega)).symm) (sd_ne (by omega)).symm e⟩
  · intro k hk
    rw [sd_ne (show 12 + 6 * k ≠ 2 by omega), sd_ne (show 13 + 6 * k ≠ 2 by omega), sd_ne (show 14 + 6 * k ≠ 2 by omega), sd_ne (show 15 + 6 * k ≠ 2 by omega)]
    exact b k hk
  · intro j hj
    rw [sd_ne (show 5 + j ≠ 2 by omega)]
    exact c j hj
  · unfold DG
    rw [sd_2, n_nat (by omega)]
    exact ⟨rfl, hd⟩
theorem CN_sd {st : zS} {s : Nat → Int32} (h : CN st s) (dd : Nat) : CN st (sd s dd) := by
  obtain ⟨a, b, c, e, w, r, v⟩ := h
  refine ⟨CBr_cs (fun j hj => (sd_ne (by omega)).symm) (sd_ne (by omega)).symm a, b, c, ?_, ?_, ?_, ?_⟩
  · intro k hk
    rw [sd_ne (show 12 + 6 * k ≠ 2 by omega), sd_ne (show 13 + 6 * k ≠ 2 by omega), sd_ne (show 14 + 6 * k ≠ 2 by omega), sd_ne (show 15 + 6 * k ≠ 2 by omega)]
    exact e k hk
  · intro j hj
    rw [sd_ne (show 5 + j ≠ 2 by omega)]
    exact w j hj
  · intro k hk
    rw [sd_ne (show 12 + 6 * k ≠ 2 by omega), sd_ne (show 13 + 6 * k ≠ 2 by omega), sd_ne (show 14 + 6 * k ≠ 2 by omega), sd_ne (show 15 + 6 * k ≠ 2 by omega)]
    exact r k hk
  · intro j hj
    rw [sd_ne (show 5 + j ≠ 2 by omega)]
    exact v j hj
theorem pw_sd {s : Nat → Int32} {dd : Nat} (hd : dd < 7) : pw (sd s dd) = 4 + s (5 + dd) := by
  unfold pw
  rw [sd_2, n_nat (by omega), sd_ne (by omega)]
theorem pe_sd {s : Nat → Int32} {dd : Nat} (hd : dd < 7) : pe (sd s dd) = 4 - s (5 + dd) := by
  unfold pe
  rw [sd_2, n_nat (by omega), sd_ne (by omega)]
theorem bZ_0 (b : Bool) : (bZ (b = true) = 0) = (b = false) := by cases b <;> simp [bZ]
def nxt (o : cH) (F : Int32 → Int32 → cH) : cH := match o with
  | none => none
  | some ch => F ch.1 ch.2
theorem wst_nob {s : Nat → Int32} {b : Nat → Bool} {t : Int32} {k : Nat} (hb : b (k + 1) = false) : wst s b nob t (k + 1) = nxt (wst s b nob t k) (fun c h => if sil s k = true ∧ b k = false then none else arr s (k + 1) ((c + (if b k = true then 0 else s (14 + 6 * k))) + s (15 + 6 * (k + 1)) * pw s) h) := by
  have e : ∀ (c h : Int32), (if (sil s k = true ∧ b k = false) ∨ nob k = true then (none : cH) else arr s (k + 1) ((c + (if b k = true then 0 else s (14 + 6 * k))) + s (15 + 6 * (k + 1)) * pw s) h) = (if sil s k = true ∧ b k = false then none else arr s (k + 1) ((c + (if b k = true then 0 else s (14 + 6 * k))) + s (15 + 6 * (k + 1)) * pw s) h) := by
    intro c h
    have hq : nob k = true ↔ False := by unfold nob; simp
    by_cases q : sil s k = true ∧ b k = false
    · rw [if_pos q, if_pos (Or.inl q)]
    · rw [if_neg q, if_neg (fun z => z.elim q (fun y => hq.mp y))]
  conv => lhs; unfold wst
  rw [if_neg (by rw [hb]; decide)]
  cases wst s b nob t k with
  | none => rfl
  | some ch => exact e ch.1 ch.2
/-- what stands ready for a cry of the day that s tells -/
def ya_D (st : zS) (s : Nat → Int32) : Prop := CN st s ∧ VN s ∧ st 44 3 = pw s ∧ st 44 4 = pe s ∧ ∀ k, k < tn s → st 45 k = ads s k ∧ st 46 k = bZ (sil s k = true)
theorem ya_D_of {st st' : zS} {s : Nat → Int32} (h : ya_D st s) (f : fr [44, 47, 48] st st') (hC : ∀ j, j ≠ 5 → st' 44 j = st 44 j) : ya_D st' s := by
  obtain ⟨a, b, c, e, g⟩ := h
  refine ⟨CN_fr a f rfl, b, by rw [hC 3 (by decide)]; exact c, by rw [hC 4 (by decide)]; exact e, ?_⟩
  rw [f 45 rfl, f 46 rfl]; exact g
theorem ya_takeD (d : Nat) (st : zS) {s : Nat → Int32} (hN : CN st s) (hV : VN s) {dd : Nat} (hd : dd < 7) : RT (m_evc (d + 6) 1 [.ref 44, .int (Int32.ofNat dd)] (SH, st)) none (fun st' => fr [17, 44, 45, 46] st st' ∧ ya_D st' (sd s dd)) := by
  obtain ⟨st', e, f, h3, h4, hj, hk⟩ := ya_takeDay d st hN hd
  exact ⟨st', e, f, CN_sd (CN_fr hN f rfl) dd, VN_sd hV hd, by rw [h3, pw_sd hd], by rw [h4, pe_sd hd], hk⟩
theorem ya_brgR {a : zS} {s : Nat → Int32} {k to : Nat} {o : cH} {bk : Bool} {x : Int32} (hr : rep1 (-9) (a 47) (a 48) o k) (hc : ∀ c h, o = some (c, h) → 0 ≤ c.toInt) (hto : a 47 to = -9) (hb : bt (a 44 5) k = bk) (hS : a 46 k = bZ (sil s k = true)) (h2 : a 2 to = s (12 + 6 * to)) (h4 : a 4 k = s (14 + 6 * k)) (hA : a 45 to = ads s to) :
    fr [47, 48] a (ya_brg a k to x) ∧ (∀ i, i ≠ to → ya_brg a k to x 47 i = a 47 i ∧ ya_brg a k to x 48 i = a 48 i) ∧ rep1 (-9) (ya_brg a k to x 47) (ya_brg a k to x 48) (nxt o (fun c h => if sil s k = true ∧ bk = false then none else arr s to ((c + (if bk = true then 0 else s (14 + 6 * k))) + x) h)) to := by
  unfold ya_brg
  cases o with
  | none =>
    have : a 47 k = -9 := hr
    rw [if_pos this]
    exact ⟨fr_refl _ _, fun i _ => ⟨rfl, rfl⟩, hto⟩
  | some ch =>
    obtain ⟨c, h⟩ := ch
    obtain ⟨r1, r2⟩ := hr
    have hn : ¬ a 47 k = -9 := by rw [r1]; exact c_m9 (hc c h rfl)
    have q1 : (¬ a 46 k = 0 ∧ ¬ bt (a 44 5) k = true) ↔ (sil s k = true ∧ bk = false) := by
      rw [hS, hb, bZ_0]
      cases sil s k <;> cases bk <;> simp
    have e4 : (if bt (a 44 5) k = true then 0 else a 4 k) = (if bk = true then 0 else s (14 + 6 * k)) := by rw [hb, h4]
    rw [if_neg hn, e4, r1, r2, h2, hA]
    show _ ∧ _ ∧ rep1 _ _ _ (if sil s k = true ∧ bk = false then none else arr s to ((c + (if bk = true then 0 else s (14 + 6 * k))) + x) h) to
    by_cases q : sil s k = true ∧ bk = false
    · rw [if_pos (q1.mpr q), if_pos q]
      exact ⟨fr_refl _ _, fun i _ => ⟨rfl, rfl⟩, hto⟩
    · rw [if_neg (fun z => q (q1.mp z)), if_neg q]
      unfold arr
      by_cases w : s (12 + 6 * to) = 5 ∧ (c + (if bk = true then 0 else s (14 + 6 * k))) + x < 360
      · rw [if_pos w, if_pos w]
        exact ⟨fr_refl _ _, fun i _ => ⟨rfl, rfl⟩, hto⟩
      · rw [if_neg w, if_neg w]
        refine ⟨fr_up (fr_up (fr_refl _ _) rfl) rfl, ?_, ?_⟩
        · intro i hi
          rw [up_ne (by decide), up_nj hi, up_nj hi, up_ne (by decide)]
          exact ⟨rfl, rfl⟩
        · show _ ∧ _
          rw [up_ne (by decide), up_in, up_in]
          exact ⟨rfl, rfl⟩
theorem ya_goWest (d : Nat) (st : zS) {s : Nat → Int32} (hD : ya_D st s) {b : Nat → Bool} {t : Int32} (ht : TG t) (hb : ∀ k, k < 9 → bt (st 44 5) k = b k) {fm : Nat} (hf : fm < tn s) (h0 : ∀ k, k ≤ fm → rep1 (-9) (st 47) (st 48) (wst s b nob t k) k) (h1 : ∀ k, fm < k → k < 9 → st 47 k = (if b k = true then t else -9) ∧ st 48 k = (if b k = true then t else -9)) :
    RT (m_evc (d + 3) 6 [.ref 44, .int (Int32.ofNat fm)] (SH, st)) none (fun st' => fr [47, 48] st st' ∧ ∀ k, k < tn s → rep1 (-9) (st' 47) (st' 48) (wst s b nob t k) k) := by
  obtain ⟨hN, hV, hW, hE, hA⟩ := hD
  have h9 := hV.1.2
  have L := lp_inv (fun j (a : zS) => m_ev none (d + 2) 6 2 [some (.ref 44), some (.int (Int32.ofNat fm)), some (.int (Int32.ofNat j))] [] (SH, a))
    (fun j a => fr [47, 48] st a ∧ (∀ k, k ≤ j → rep1 (-9) (a 47) (a 48) (wst s b nob t k) k) ∧ ∀ k, j < k → k < 9 → a 47 k = (if b k = true then t else -9) ∧ a 48 k = (if b k = true then t else -9)) (tn s - 1) ?_ (tn s - 1 - fm) fm st (by omega) ⟨fr_refl _ _, h0, h1⟩
  · obtain ⟨st2, e, f2, g2, _⟩ := L
    refine ⟨st2, ?_, f2, fun k hk => g2 k (by omega)⟩
    rw [cal_aX0_goWest, eaX0_goWest_0]
    refine Eq.trans e ?_
    rw [eaX0_goWest_2, n_succ, if_neg, eaX0_goWest_55]
    rw [(CN_fr hN f2 rfl).2.1, hN.2.2.1.1, n_lt (by omega) (by omega)]; omega
  · rintro k a hk ⟨f, g, g1⟩
    have hNa := CN_fr hN f rfl
    have hC : a 44 = st 44 := f 44 rfl
    have hSa : a 46 = st 46 := f 46 rfl
    have hAa : a 45 = st 45 := f 45 rfl
    have hlt : Int32.ofNat (k + 1) < a 1 0 := by rw [hNa.2.1, hN.2.2.1.1, n_lt (by omega) (by omega)]; omega
    obtain ⟨q2, q3, q4, q5⟩ := hNa.2.2.2.1 k (by omega)
    obtain ⟨p2, p3, p4, p5⟩ := hNa.2.2.2.1 (k + 1) (by omega)
    by_cases hbk : b (k + 1) = true
    · refine ⟨a, ?_, f, ?_, fun i hi => g1 i (by omega)⟩
      · rw [eaX0_goWest_2, n_succ, if_pos hlt, ya_isB, hC, hb (k + 1) (by omega)]
        simp only [m_bd, Option.toList, List.cons_append, List.nil_append]
        rw [bZ_t hbk, eaX0_goWest_22, if_neg i_10, eaX0_goWest_49, n_succ]
      · intro i hi
        by_cases q : i = k + 1
        · subst q
          rw [wst_at hbk]
          have := g1 (k + 1) (by omega) (by omega)
          rw [if_pos hbk] at this
          exact this
        · exact g i (by omega)
    · have hbf : b (k + 1) = false := by cases q : b (k + 1) with
        | true => exact absurd q hbk
        | false => rfl
      have hto : a 47 (k + 1) = -9 := by have := (g1 (k + 1) (by omega) (by omega)).1; rw [if_neg hbk] at this; exact this
      obtain ⟨r1, r2, r3⟩ := ya_brgR (a := a) (s := s) (k := k) (to := k + 1) (bk := b k) (x := s (15 + 6 * (k + 1)) * pw s) (g k (Nat.le_refl k)) (fun c h e => by have := wst_b hV ht k (by omega) c h e; have := ht.1; omega) hto (by rw [hC]; exact hb k (by omega)) (by rw [hSa]; exact (hA k (by omega)).2) p2 q4 (by rw [hAa]; exact (hA (k + 1) (by omega)).1)
      refine ⟨ya_brg a k (k + 1) (s (15 + 6 * (k + 1)) * pw s), ?_, fr_mono (fr_tr f r1) (by decide), ?_, ?_⟩
      · rw [eaX0_goWest_2, n_succ, if_pos hlt, ya_isB, hC, hb (k + 1) (by omega)]
        simp only [m_bd, Option.toList, List.cons_append, List.nil_append]
        rw [bZ_f hbk, eaX0_goWest_22, if_pos rfl, n_succ, ix_9 (show k + 1 < 9 by omega)]
        simp only [m_ob]
        rw [p5, hC, hW, ya_bring d a (show k < 9 by omega) (show k + 1 < 9 by omega)]
        simp only [m_bd, Option.toList, List.cons_append, List.nil_append]
        rw [eaX0_goWest_49, n_succ]
      · intro i hi
        by_cases q : i = k + 1
        · subst q
          rw [wst_nob hbf]; exact r3
        · have hg := g i (by omega)
          obtain ⟨w1, w2⟩ := r2 i q
          unfold rep1 at hg ⊢
          rw [w1, w2]; exact hg
      · intro i hi hi9
        obtain ⟨w1, w2⟩ := r2 i (by omega)
        rw [w1, w2]; exact g1 i (by omega) hi9
theorem ya_goEast (d : Nat) {s : Nat → Int32} {fm : Nat} {t : Int32} (ht : TG t) (hf : fm < tn s) : ∀ (k : Nat) (st : zS), k ≤ fm → ya_D st s → (∀ k, k < 9 → bt (st 44 5) k = isb fm k) → rep1 (-9) (st 47) (st 48) (est s fm t (fm - k)) k → (∀ i, i < k → st 47 i = -9) →
    RT (m_ev none (d + 2) 7 2 [some (.ref 44), some (.int (Int32.ofNat fm)), some (.int (Int32.ofNat k))] [] (SH, st)) none (fun st' => fr [47, 48] st st' ∧ (∀ i, k ≤ i → st' 47 i = st 47 i ∧ st' 48 i = st 48 i) ∧ ∀ i, i < k → rep1 (-9) (st' 47) (st' 48) (est s fm t (fm - i)) i)
  | 0, st, hk, hD, hb, h0, h1 => by
    refine ⟨st, ?_, fr_refl _ _, fun i _ => ⟨rfl, rfl⟩, fun i hi => by omega⟩
    rw [eaX0_goEast_2, if_neg (by decide), eaX0_goEast_34]
  | k + 1, st, hk, hD, hb, h0, h1 => by
    obtain ⟨hN, hV, hW, hE, hA⟩ := hD
    have h9 := hV.1.2
    obtain ⟨q2, q3, q4, q5⟩ := hN.2.2.2.1 (k + 1) (by omega)
    obtain ⟨p2, p3, p4, p5⟩ := hN.2.2.2.1 k (by omega)
    obtain ⟨r1, r2, r3⟩ := ya_brgR (a := st) (s := s) (k := k + 1) (to := k) (bk := isb fm (k + 1)) (x := s (15 + 6 * (k + 1)) * pe s) h0 (fun c h e => by have := est_b hV hf ht (fm - (k + 1)) (by omega) c h e; have := ht.1; omega) (h1 k (by omega)) (hb (k + 1) (by omega)) (hA (k + 1) (by omega)).2 p2 q4 (hA k (by omega)).1
    have hlt : (0 : Int32) < Int32.ofNat (k + 1) := by
      rw [show (0 : Int32) = Int32.ofNat 0 from rfl, n_lt (by omega) (by omega)]; omega
    have hest : est s fm t (fm - k) = nxt (est s fm t (fm - (k + 1))) (fun c h => if sil s (k + 1) = true ∧ isb fm (k + 1) = false then none else arr s k ((c + (if isb fm (k + 1) = true then 0 else s (14 + 6 * (k + 1)))) + s (15 + 6 * (k + 1)) * pe s) h) := by
      rw [show fm - k = (fm - (k + 1)) + 1 by omega]
      conv => lhs; unfold est
      rw [show fm - (fm - (k + 1)) = k + 1 by omega, show k + 1 - 1 = k by omega]
      have i1 : (isb fm (k + 1) = true) = (fm - (k + 1) = 0) := by unfold isb; simp; omega
      have i2 : (isb fm (k + 1) = false) = (fm - (k + 1) ≠ 0) := by unfold isb; simp; omega
      simp only [i1, i2]
      cases est s fm t (fm - (k + 1)) <;> rfl
    have r3' : rep1 (-9) (ya_brg st (k + 1) k (s (15 + 6 * (k + 1)) * pe s) 47) (ya_brg st (k + 1) k (s (15 + 6 * (k + 1)) * pe s) 48) (est s fm t (fm - k)) k := by rw [hest]; exact r3
    have hC : ya_brg st (k + 1) k (s (15 + 6 * (k + 1)) * pe s) 44 = st 44 := r1 44 rfl
    obtain ⟨st2, e2, f2, g2, g3⟩ := ya_goEast d ht hf k (ya_brg st (k + 1) k (s (15 + 6 * (k + 1)) * pe s)) (by omega) (ya_D_of ⟨hN, hV, hW, hE, hA⟩ (fr_mono r1 (by decide)) (fun j _ => by rw [hC])) (by rw [hC]; exact hb) r3' (fun i hi => by rw [(r2 i (by omega)).1]; exact h1 i (by omega))
    refine ⟨st2, ?_, fr_mono (fr_tr r1 f2) (by decide), ?_, ?_⟩
    · rw [eaX0_goEast_2, if_pos hlt, ix_9 (show k + 1 < 9 by omega)]
      simp only [m_ob]
      rw [q5, hE, n_pred, ya_bring d st (show k + 1 < 9 by omega) (show k < 9 by omega)]
      simp only [m_bd, Option.toList, List.cons_append, List.nil_append]
      rw [eaX0_goEast_28, n_predm]
      exact e2
    · intro i hi
      obtain ⟨w1, w2⟩ := g2 i (by omega)
      obtain ⟨w3, w4⟩ := r2 i (by omega)
      rw [w1, w2, w3, w4]; exact ⟨rfl, rfl⟩
    · intro i hi
      by_cases q : i = k
      · subst q
        obtain ⟨w1, w2⟩ := g2 i (Nat.le_refl i)
        unfold rep1 at r3' ⊢
        rw [w1, w2]; exact r3'
      · exact g3 i (by omega)
theorem ya_begin1 (d : Nat) (st : zS) {s : Nat → Int32} (hD : ya_D st s) {fm : Nat} (hf : fm < tn s) (t : Int32) : RT (m_evc (d + 2) 5 [.ref 44, .int (1 <<< (Int32.ofNat fm &&& 31)), .int t] (SH, st)) none (fun st' => fr [44, 47, 48] st st' ∧ (∀ j, j ≠ 5 → st' 44 j = st 44 j) ∧ ya_D st' s ∧ (∀ k, k < 9 → bt (st' 44 5) k = isb fm k) ∧ (∀ k, k ≤ fm → rep1 (-9) (st' 47) (st' 48) (wst s (isb fm) nob t k) k) ∧ (∀ k, fm < k → k < 9 → st' 47 k = (if isb fm k = true then t else -9) ∧ st' 48 k = (if isb fm k = true then t else -9)) ∧ (∀ k, k < fm → st' 47 k = -9) ∧ st' 47 fm = t ∧ st' 48 fm = t) := by
  have h9 := hD.2.1.1.2
  obtain ⟨st1, e1, f1, g1, g2, g3⟩ := ya_beginAt d st (1 <<< (Int32.ofNat fm &&& 31)) t
  have hb : ∀ k, k < 9 → bt (st1 44 5) k = isb fm k := fun k hk => by rw [g1]; exact bt_1 (by omega) hk
  have hM : ∀ k, k < 9 → st1 47 k = (if isb fm k = true then t else -9) ∧ st1 48 k = (if isb fm k = true then t else -9) := fun k hk => by
    have := g3 k hk
    rw [bt_1 (by omega) hk] at this; exact this
  have hlo : ∀ k, k < fm → st1 47 k = -9 := fun k hk => by
    have := (hM k (by omega)).1
    rw [if_neg (by unfold isb; simp; omega)] at this; exact this
  have hat := hM fm (by omega)
  rw [if_pos (by unfold isb; simp)] at hat
  refine ⟨st1, e1, f1, g2, ya_D_of hD f1 g2, hb, ?_, fun k _ h => hM k h, hlo, hat.1, hat.2⟩
  intro k hk
  by_cases q : k = fm
  · subst q
    rw [wst_at (by unfold isb; simp)]
    exact hat
  · rw [wes_lo k (by omega)]
    exact hlo k (by omega)
theorem ya_goBoth (d : Nat) (st : zS) {s : Nat → Int32} (hD : ya_D st s) {t : Int32} (ht : TG t) {fm : Nat} (hf : fm < tn s) : RT (m_evc (d + 4) 2 [.ref 44, .int (Int32.ofNat fm), .int t] (SH, st)) none (fun st' => fr [44, 47, 48] st st' ∧ ya_D st' s ∧ ∀ k, k < tn s → rep1 (-9) (st' 47) (st' 48) (bth s fm t k) k) := by
  obtain ⟨st1, e1, f1, c1, D1, b1, r1, r2, r3, r4, r5⟩ := ya_begin1 (d + 1) st hD hf t
  obtain ⟨st2, e2, f2, g2⟩ := ya_goWest d st1 D1 ht b1 hf r1 r2
  have hC : st2 44 = st1 44 := f2 44 rfl
  have D2 : ya_D st2 s := ya_D_of D1 (fr_mono f2 (by decide)) (fun j _ => by rw [hC])
  have hat : st2 47 fm = t ∧ st2 48 fm = t := by
    have := g2 fm hf
    rw [wst_at (by unfold isb; simp)] at this; exact this
  have h0 : rep1 (-9) (st2 47) (st2 48) (est s fm t (fm - fm)) fm := by
    rw [Nat.sub_self]; exact hat
  have hlo : ∀ i, i < fm → st2 47 i = -9 := fun i hi => by
    have := g2 i (by omega)
    rw [wes_lo i hi] at this; exact this
  obtain ⟨st3, e3, f3, g3, g4⟩ := ya_goEast d ht hf fm st2 (Nat.le_refl _) D2 (by rw [hC]; exact b1) h0 hlo
  have hC3 : st3 44 = st2 44 := f3 44 rfl
  refine ⟨st3, ?_, fr_mono (fr_tr (fr_tr f1 f2) f3) (by decide), ya_D_of D2 (fr_mono f3 (by decide)) (fun j _ => by rw [hC3]), ?_⟩
  · rw [cal_aX0_goBothWays, eaX0_goBothWays_0, e1]
    simp only [m_bd, Option.toList, List.cons_append, List.nil_append]
    rw [eaX0_goBothWays_8, e2]
    simp only [m_bd, Option.toList, List.cons_append, List.nil_append]
    rw [eaX0_goBothWays_13, cal_aX0_goEast, eaX0_goEast_0, e3]
    simp only [m_bd, Option.toList, List.cons_append, List.nil_append]
    rw [eaX0_goBothWays_18]
  · intro k hk
    unfold bth
    by_cases q : fm ≤ k
    · rw [if_pos q]
      have := g2 k hk
      obtain ⟨w1, w2⟩ := g3 k q
      unfold rep1 at this ⊢
      rw [w1, w2]; exact this
    · rw [if_neg q]
      unfold eas
      rw [if_pos (by omega)]
      exact g4 k (by omega)
/-- what stands ready for a cry of the day that s tells -/
def yb_D (st : zS) (s : Nat → Int32) : Prop := CN st s ∧ VN s ∧ st 49 3 = pw s ∧ st 49 4 = pe s ∧ ∀ k, k < tn s → st 50 k = ads s k ∧ st 51 k = bZ (sil s k = true)
theorem yb_D_of {st st' : zS} {s : Nat → Int32} (h : yb_D st s) (f : fr [49, 52, 53] st st') (hC : ∀ j, j ≠ 5 → st' 49 j = st 49 j) : yb_D st' s := by
  obtain ⟨a, b, c, e, g⟩ := h
  refine ⟨CN_fr a f rfl, b, by rw [hC 3 (by decide)]; exact c, by rw [hC 4 (by decide)]; exact e, ?_⟩
  rw [f 50 rfl, f 51 rfl]; exact g
theorem yb_takeD (d : Nat) (st : zS) {s : Nat → Int32} (hN : CN st s) (hV : VN s) {dd : Nat} (hd : dd < 7) : RT (m_evc (d + 6) 1 [.ref 49, .int (Int32.ofNat dd)] (SH, st)) none (fun st' => fr [17, 49, 50, 51] st st' ∧ yb_D st' (sd s dd)) := by
  obtain ⟨st', e, f, h3, h4, hj, hk⟩ := yb_takeDay d st hN hd
  exact ⟨st', e, f, CN_sd (CN_fr hN f rfl) dd, VN_sd hV hd, by rw [h3, pw_sd hd], by rw [h4, pe_sd hd], hk⟩
theorem yb_brgR {a : zS} {s : Nat → Int32} {k to : Nat} {o : cH} {bk : Bool} {x : Int32} (hr : rep1 (-9) (a 52) (a 53) o k) (hc : ∀ c h, o = some (c, h) → 0 ≤ c.toInt) (hto : a 52 to = -9) (hb : bt (a 49 5) k = bk) (hS : a 51 k = bZ (sil s k = true)) (h2 : a 2 to = s (12 + 6 * to)) (h4 : a 4 k = s (14 + 6 * k)) (hA : a 50 to = ads s to) :
    fr [52, 53] a (yb_brg a k to x) ∧ (∀ i, i ≠ to → yb_brg a k to x 52 i = a 52 i ∧ yb_brg a k to x 53 i = a 53 i) ∧ rep1 (-9) (yb_brg a k to x 52) (yb_brg a k to x 53) (nxt o (fun c h => if sil s k = true ∧ bk = false then none else arr s to ((c + (if bk = true then 0 else s (14 + 6 * k))) + x) h)) to := by
  unfold yb_brg
  cases o with
  | none =>
    have : a 52 k = -9 := hr
    rw [if_pos this]
    exact ⟨fr_refl _ _, fun i _ => ⟨rfl, rfl⟩, hto⟩
  | some ch =>
    obtain ⟨c, h⟩ := ch
    obtain ⟨r1, r2⟩ := hr
    have hn : ¬ a 52 k = -9 := by rw [r1]; exact c_m9 (hc c h rfl)
    have q1 : (¬ a 51 k = 0 ∧ ¬ bt (a 49 5) k = true) ↔ (sil s k = true ∧ bk = false) := by
      rw [hS, hb, bZ_0]
      cases sil s k <;> cases bk <;> simp
    have e4 : (if bt (a 49 5) k = true then 0 else a 4 k) = (if bk = true then 0 else s (14 + 6 * k)) := by rw [hb, h4]
    rw [if_neg hn, e4, r1, r2, h2, hA]
    show _ ∧ _ ∧ rep1 _ _ _ (if sil s k = true ∧ bk = false then none else arr s to ((c + (if bk = true then 0 else s (14 + 6 * k))) + x) h) to
    by_cases q : sil s k = true ∧ bk = false
    · rw [if_pos (q1.mpr q), if_pos q]
      exact ⟨fr_refl _ _, fun i _ => ⟨rfl, rfl⟩, hto⟩
    · rw [if_neg (fun z => q (q1.mp z)), if_neg q]
      unfold arr
      by_cases w : s (12 + 6 * to) = 5 ∧ (c + (if bk = true then 0 else s (14 + 6 * k))) + x < 360
      · rw [if_pos w, if_pos w]
        exact ⟨fr_refl _ _, fun i _ => ⟨rfl, rfl⟩, hto⟩
      · rw [if_neg w, if_neg w]
        refine ⟨fr_up (fr_up (fr_refl _ _) rfl) rfl, ?_, ?_⟩
        · intro i hi
          rw [up_ne (by decide), up_nj hi, up_nj hi, up_ne (by decide)]
          exact ⟨rfl, rfl⟩
        · show _ ∧ _
          rw [up_ne (by decide), up_in, up_in]
          exact ⟨rfl, rfl⟩
theorem yb_goWest (d : Nat) (st : zS) {s : Nat → Int32} (hD : yb_D st s) {b : Nat → Bool} {t : Int32} (ht : TG t) (hb : ∀ k, k < 9 → bt (st 49 5) k = b k) {fm : Nat} (hf : fm < tn s) (h0 : ∀ k, k ≤ fm → rep1 (-9) (st 52) (st 53) (wst s b nob t k) k) (h1 : ∀ k, fm < k → k < 9 → st 52 k = (if b k = true then t else -9) ∧ st 53 k = (if b k = true then t else -9)) :
    RT (m_evc (d + 3) 6 [.ref 49, .int (Int32.ofNat fm)] (SH, st)) none (fun st' => fr [52, 53] st st' ∧ ∀ k, k < tn s → rep1 (-9) (st' 52) (st' 53) (wst s b nob t k) k) := by
  obtain ⟨hN, hV, hW, hE, hA⟩ := hD
  have h9 := hV.1.2
  have L := lp_inv (fun j (a : zS) => m_ev none (d + 2) 6 2 [some (.ref 49), some (.int (Int32.ofNat fm)), some (.int (Int32.ofNat j))] [] (SH, a))
    (fun j a => fr [52, 53] st a ∧ (∀ k, k ≤ j → rep1 (-9) (a 52) (a 53) (wst s b nob t k) k) ∧ ∀ k, j < k → k < 9 → a 52 k = (if b k = true then t else -9) ∧ a 53 k = (if b k = true then t else -9)) (tn s - 1) ?_ (tn s - 1 - fm) fm st (by omega) ⟨fr_refl _ _, h0, h1⟩
  · obtain ⟨st2, e, f2, g2, _⟩ := L
    refine ⟨st2, ?_, f2, fun k hk => g2 k (by omega)⟩
    rw [cal_bX0_goWest, ebX0_goWest_0]
    refine Eq.trans e ?_
    rw [ebX0_goWest_2, n_succ, if_neg, ebX0_goWest_55]
    rw [(CN_fr hN f2 rfl).2.1, hN.2.2.1.1, n_lt (by omega) (by omega)]; omega
  · rintro k a hk ⟨f, g, g1⟩
    have hNa := CN_fr hN f rfl
    have hC : a 49 = st 49 := f 49 rfl
    have hSa : a 51 = st 51 := f 51 rfl
    have hAa : a 50 = st 50 := f 50 rfl
    have hlt : Int32.ofNat (k + 1) < a 1 0 := by rw [hNa.2.1, hN.2.2.1.1, n_lt (by omega) (by omega)]; omega
    obtain ⟨q2, q3, q4, q5⟩ := hNa.2.2.2.1 k (by omega)
    obtain ⟨p2, p3, p4, p5⟩ := hNa.2.2.2.1 (k + 1) (by omega)
    by_cases hbk : b (k + 1) = true
    · refine ⟨a, ?_, f, ?_, fun i hi => g1 i (by omega)⟩
      · rw [ebX0_goWest_2, n_succ, if_pos hlt, yb_isB, hC, hb (k + 1) (by omega)]
        simp only [m_bd, Option.toList, List.cons_append, List.nil_append]
        rw [bZ_t hbk, ebX0_goWest_22, if_neg i_10, ebX0_goWest_49, n_succ]
      · intro i hi
        by_cases q : i = k + 1
        · subst q
          rw [wst_at hbk]
          have := g1 (k + 1) (by omega) (by omega)
          rw [if_pos hbk] at this
          exact this
        · exact g i (by omega)
    · have hbf : b (k + 1) = false := by cases q : b (k + 1) with
        | true => exact absurd q hbk
        | false => rfl
      have hto : a 52 (k + 1) = -9 := by have := (g1 (k + 1) (by omega) (by omega)).1; rw [if_neg hbk] at this; exact this
      obtain ⟨r1, r2, r3⟩ := yb_brgR (a := a) (s := s) (k := k) (to := k + 1) (bk := b k) (x := s (15 + 6 * (k + 1)) * pw s) (g k (Nat.le_refl k)) (fun c h e => by have := wst_b hV ht k (by omega) c h e; have := ht.1; omega) hto (by rw [hC]; exact hb k (by omega)) (by rw [hSa]; exact (hA k (by omega)).2) p2 q4 (by rw [hAa]; exact (hA (k + 1) (by omega)).1)
      refine ⟨yb_brg a k (k + 1) (s (15 + 6 * (k + 1)) * pw s), ?_, fr_mono (fr_tr f r1) (by decide), ?_, ?_⟩
      · rw [ebX0_goWest_2, n_succ, if_pos hlt, yb_isB, hC, hb (k + 1) (by omega)]
        simp only [m_bd, Option.toList, List.cons_append, List.nil_append]
        rw [bZ_f hbk, ebX0_goWest_22, if_pos rfl, n_succ, ix_9 (show k + 1 < 9 by omega)]
        simp only [m_ob]
        rw [p5, hC, hW, yb_bring d a (show k < 9 by omega) (show k + 1 < 9 by omega)]
        simp only [m_bd, Option.toList, List.cons_append, List.nil_append]
        rw [ebX0_goWest_49, n_succ]
      · intro i hi
        by_cases q : i = k + 1
        · subst q
          rw [wst_nob hbf]; exact r3
        · have hg := g i (by omega)
          obtain ⟨w1, w2⟩ := r2 i q
          unfold rep1 at hg ⊢
          rw [w1, w2]; exact hg
      · intro i hi hi9
        obtain ⟨w1, w2⟩ := r2 i (by omega)
        rw [w1, w2]; exact g1 i (by omega) hi9
theorem yb_goEast (d : Nat) {s : Nat → Int32} {fm : Nat} {t : Int32} (ht : TG t) (hf : fm < tn s) : ∀ (k : Nat) (st : zS), k ≤ fm → yb_D st s → (∀ k, k < 9 → bt (st 49 5) k = isb fm k) → rep1 (-9) (st 52) (st 53) (est s fm t (fm - k)) k → (∀ i, i < k → st 52 i = -9) →
    RT (m_ev none (d + 2) 7 2 [some (.ref 49), some (.int (Int32.ofNat fm)), some (.int (Int32.ofNat k))] [] (SH, st)) none (fun st' => fr [52, 53] st st' ∧ (∀ i, k ≤ i → st' 52 i = st 52 i ∧ st' 53 i = st 53 i) ∧ ∀ i, i < k → rep1 (-9) (st' 52) (st' 53) (est s fm t (fm - i)) i)
  | 0, st, hk, hD, hb, h0, h1 => by
    refine ⟨st, ?_, fr_refl _ _, fun i _ => ⟨rfl, rfl⟩, fun i hi => by omega⟩
    rw [ebX0_goEast_2, if_neg (by decide), ebX0_goEast_34]
  | k + 1, st, hk, hD, hb, h0, h1 => by
    obtain ⟨hN, hV, hW, hE, hA⟩ := hD
    have h9 := hV.1.2
    obtain ⟨q2, q3, q4, q5⟩ := hN.2.2.2.1 (k + 1) (by omega)
    obtain ⟨p2, p3, p4, p5⟩ := hN.2.2.2.1 k (by omega)
    obtain ⟨r1, r2, r3⟩ := yb_brgR (a := st) (s := s) (k := k + 1) (to := k) (bk := isb fm (k + 1)) (x := s (15 + 6 * (k + 1)) * pe s) h0 (fun c h e => by have := est_b hV hf ht (fm - (k + 1)) (by omega) c h e; have := ht.1; omega) (h1 k (by omega)) (hb (k + 1) (by omega)) (hA (k + 1) (by omega)).2 p2 q4 (hA k (by omega)).1
    have hlt : (0 : Int32) < Int32.ofNat (k + 1) := by
      rw [show (0 : Int32) = Int32.ofNat 0 from rfl, n_lt (by omega) (by omega)]; omega
    have hest : est s fm t (fm - k) = nxt (est s fm t (fm - (k + 1))) (fun c h => if sil s (k + 1) = true ∧ isb fm (k + 1) = false then none else arr s k ((c + (if isb fm (k + 1) = true then 0 else s (14 + 6 * (k + 1)))) + s (15 + 6 * (k + 1)) * pe s) h) := by
      rw [show fm - k = (fm - (k + 1)) + 1 by omega]
      conv => lhs; unfold est
      rw [show fm - (fm - (k + 1)) = k + 1 by omega, show k + 1 - 1 = k by omega]
      have i1 : (isb fm (k + 1) = true) = (fm - (k + 1) = 0) := by unfold isb; simp; omega
      have i2 : (isb fm (k + 1) = false) = (fm - (k + 1) ≠ 0) := by unfold isb; simp; omega
      simp only [i1, i2]
      cases est s fm t (fm - (k + 1)) <;> rfl
    have r3' : rep1 (-9) (yb_brg st (k + 1) k (s (15 + 6 * (k + 1)) * pe s) 52) (yb_brg st (k + 1) k (s (15 + 6 * (k + 1)) * pe s) 53) (est s fm t (fm - k)) k := by rw [hest]; exact r3
    have hC : yb_brg st (k + 1) k (s (15 + 6 * (k + 1)) * pe s) 49 = st 49 := r1 49 rfl
    obtain ⟨st2, e2, f2, g2, g3⟩ := yb_goEast d ht hf k (yb_brg st (k + 1) k (s (15 + 6 * (k + 1)) * pe s)) (by omega) (yb_D_of ⟨hN, hV, hW, hE, hA⟩ (fr_mono r1 (by decide)) (fun j _ => by rw [hC])) (by rw [hC]; exact hb) r3' (fun i hi => by rw [(r2 i (by omega)).1]; exact h1 i (by omega))
    refine ⟨st2, ?_, fr_mono (fr_tr r1 f2) (by decide), ?_, ?_⟩
    · rw [ebX0_goEast_2, if_pos hlt, ix_9 (show k + 1 < 9 by omega)]
      simp only [m_ob]
      rw [q5, hE, n_pred, yb_bring d st (show k + 1 < 9 by omega) (show k < 9 by omega)]
      simp only [m_bd, Option.toList, List.cons_append, List.nil_append]
      rw [ebX0_goEast_28, n_predm]
      exact e2
    · intro i hi
      obtain ⟨w1, w2⟩ := g2 i (by omega)
      obtain ⟨w3, w4⟩ := r2 i (by omega)
      rw [w1, w2, w3, w4]; exact ⟨rfl, rfl⟩
    · intro i hi
      by_cases q : i = k
      · subst q
        obtain ⟨w1, w2⟩ := g2 i (Nat.le_refl i)
        unfold rep1 at r3' ⊢
        rw [w1, w2]; exact r3'
      · exact g3 i (by omega)
theorem yb_begin1 (d : Nat) (st : zS) {s : Nat → Int32} (hD : yb_D st s) {fm : Nat} (hf : fm < tn s) (t : Int32) : RT (m_evc (d + 2) 5 [.ref 49, .int (1 <<< (Int32.ofNat fm &&& 31)), .int t] (SH, st)) none (fun st' => fr [49, 52, 53] st st' ∧ (∀ j, j ≠ 5 → st' 49 j = st 49 j) ∧ yb_D st' s ∧ (∀ k, k < 9 → bt (st' 49 5) k = isb fm k) ∧ (∀ k, k ≤ fm → rep1 (-9) (st' 52) (st' 53) (wst s (isb fm) nob t k) k) ∧ (∀ k, fm < k → k < 9 → st' 52 k = (if isb fm k = true then t else -9) ∧ st' 53 k = (if isb fm k = true then t else -9)) ∧ (∀ k, k < fm → st' 52 k = -9) ∧ st' 52 fm = t ∧ st' 53 fm = t) := by
  have h9 := hD.2.1.1.2
  obtain ⟨st1, e1, f1, g1, g2, g3⟩ := yb_beginAt d st (1 <<< (Int32.ofNat fm &&& 31)) t
  have hb : ∀ k, k < 9 → bt (st1 49 5) k = isb fm k := fun k hk => by rw [g1]; exact bt_1 (by omega) hk
  have hM : ∀ k, k < 9 → st1 52 k = (if isb fm k = true then t else -9) ∧ st1 53 k = (if isb fm k = true then t else -9) := fun k hk => by
    have := g3 k hk
    rw [bt_1 (by omega) hk] at this; exact this
  have hlo : ∀ k, k < fm → st1 52 k = -9 := fun k hk => by
    have := (hM k (by omega)).1
    rw [if_neg (by unfold isb; simp; omega)] at this; exact this
  have hat := hM fm (by omega)
  rw [if_pos (by unfold isb; simp)] at hat
  refine ⟨st1, e1, f1, g2, yb_D_of hD f1 g2, hb, ?_, fun k _ h => hM k h, hlo, hat.1, hat.2⟩
  intro k hk
  by_cases q : k = fm
  · subst q
    rw [wst_at (by unfold isb; simp)]
    exact hat
  · rw [wes_lo k (by omega)]
    exact hlo k (by omega)
theorem yb_goBoth (d : Nat) (st : zS) {s : Nat → Int32} (hD : yb_D st s) {t : Int32} (ht : TG t) {fm : Nat} (hf : fm < tn s) : RT (m_evc (d + 4) 2 [.ref 49, .int (Int32.ofNat fm), .int t] (SH, st)) none (fun st' => fr [49, 52, 53] st st' ∧ yb_D st' s ∧ ∀ k, k < tn s → rep1 (-9) (st' 52) (st' 53) (bth s fm t k) k) := by
  obtain ⟨st1, e1, f1, c1, D1, b1, r1, r2, r3, r4, r5⟩ := yb_begin1 (d + 1) st hD hf t
  obtain ⟨st2, e2, f2, g2⟩ := yb_goWest d st1 D1 ht b1 hf r1 r2
  have hC : st2 49 = st1 49 := f2 49 rfl
  have D2 : yb_D st2 s := yb_D_of D1 (fr_mono f2 (by decide)) (fun j _ => by rw [hC])
  have hat : st2 52 fm = t ∧ st2 53 fm = t := by
    have := g2 fm hf
    rw [wst_at (by unfold isb; simp)] at this; exact this
  have h0 : rep1 (-9) (st2 52) (st2 53) (est s fm t (fm - fm)) fm := by
    rw [Nat.sub_self]; exact hat
  have hlo : ∀ i, i < fm → st2 52 i = -9 := fun i hi => by
    have := g2 i (by omega)
    rw [wes_lo i hi] at this; exact this
  obtain ⟨st3, e3, f3, g3, g4⟩ := yb_goEast d ht hf fm st2 (Nat.le_refl _) D2 (by rw [hC]; exact b1) h0 hlo
  have hC3 : st3 49 = st2 49 := f3 49 rfl
  refine ⟨st3, ?_, fr_mono (fr_tr (fr_tr f1 f2) f3) (by decide), yb_D_of D2 (fr_mono f3 (by decide)) (fun j _ => by rw [hC3]), ?_⟩
  · rw [cal_bX0_goBothWays, ebX0_goBothWays_0, e1]
    simp only [m_bd, Option.toList, List.cons_append, List.nil_append]
    rw [ebX0_goBothWays_8, e2]
    simp only [m_bd, Option.toList, List.cons_append, List.nil_append]
    rw [ebX0_goBothWays_13, cal_bX0_goEast, ebX0_goEast_0, e3]
    simp only [m_bd, Option.toList, List.cons_append, List.nil_append]
    rw [ebX0_goBothWays_18]
  · intro k hk
    unfold bth
    by_cases q : fm ≤ k
    · rw [if_pos q]
      have := g2 k hk
      obtain ⟨w1, w2⟩ := g3 k q
      unfold rep1 at this ⊢
      rw [w1, w2]; exact this
    · rw [if_neg q]
      unfold eas
      rw [if_pos (by omega)]
      exact g4 k (by omega)
theorem ya_goOne (d : Nat) (st : zS) {s : Nat → Int32} (hD : ya_D st s) {t : Int32} (ht : TG t) {fm : Nat} (hf : fm < tn s) (w : Int32) : RT (m_evc (d + 4) 3 [.ref 44, .int (Int32.ofNat fm), .int t, .int w] (SH, st)) none (fun st' => fr [44, 47, 48] st st' ∧ ya_D st' s ∧ ∀ k, k < tn s → rep1 (-9) (st' 47) (st' 48) (if w = 0 then eas s fm t k else wes s fm t k) k) := by
  obtain ⟨st1, e1, f1, c1, D1, b1, r1, r2, r3, r4, r5⟩ := ya_begin1 (d + 1) st hD hf t
  rw [show RT (m_evc (d + 4) 3 [.ref 44, .int (Int32.ofNat fm), .int t, .int w] (SH, st)) = RT (m_evc (d + 4) 3 [.ref 44, .int (Int32.ofNat fm), .int t, .int w] (SH, st)) from rfl]
  by_cases q : w = 0
  · have h0 : rep1 (-9) (st1 47) (st1 48) (est s fm t (fm - fm)) fm := by
      rw [Nat.sub_self]; exact ⟨r4, r5⟩
    obtain ⟨st3, e3, f3, g3, g4⟩ := ya_goEast d ht hf fm st1 (Nat.le_refl _) D1 b1 h0 r3
    have hC3 : st3 44 = st1 44 := f3 44 rfl
    refine ⟨st3, ?_, fr_mono (fr_tr f1 f3) (by decide), ya_D_of D1 (fr_mono f3 (by decide)) (fun j _ => by rw [hC3]), ?_⟩
    · rw [cal_X0_goOneWay, eX0_goOneWay_0, e1]
      simp only [m_bd, Option.toList, List.cons_append, List.nil_append]
      rw [eX0_goOneWay_8, if_pos q, eX0_goOneWay_20, cal_aX0_goEast, eaX0_goEast_0, e3]
      simp only [m_bd, Option.toList, List.cons_append, List.nil_append]
      rw [eX0_goOneWay_25]
    · intro k hk
      rw [if_pos q]
      unfold eas
      by_cases z : k ≤ fm
      · rw [if_pos z]
        by_cases z1 : k = fm
        · subst z1
          obtain ⟨w1, w2⟩ := g3 k (Nat.le_refl _)
          unfold rep1 at h0 ⊢
          rw [w1, w2]; exact h0
        · exact g4 k (by omega)
      · rw [if_neg z]
        have h9 := hD.2.1.1.2
        have := (r2 k (by omega) (by omega)).1
        rw [if_neg (by unfold isb; simp; omega)] at this
        show st3 47 k = -9
        rw [(g3 k (by omega)).1, this]
  · obtain ⟨st2, e2, f2, g2⟩ := ya_goWest d st1 D1 ht b1 hf r1 r2
    have hC : st2 44 = st1 44 := f2 44 rfl
    refine ⟨st2, ?_, fr_mono (fr_tr f1 f2) (by decide), ya_D_of D1 (fr_mono f2 (by decide)) (fun j _ => by rw [hC]), ?_⟩
    · rw [cal_X0_goOneWay, eX0_goOneWay_0, e1]
      simp only [m_bd, Option.toList, List.cons_append, List.nil_append]
      rw [eX0_goOneWay_8, if_neg q, e2]
      simp only [m_bd, Option.toList, List.cons_append, List.nil_append]
      rw [eX0_goOneWay_17, eX0_goOneWay_25]
    · intro k hk
      rw [if_neg q]
      exact g2 k hk
