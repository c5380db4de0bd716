/-! CALLS: fits, liar -/
def rf (f : Nat → cH) (s : Nat → Int32) (r : Nat) : Bool := match f (s (66 + 2 * r)).toNatClampNeg with
  | none => false
  | some ch => ch.2 == s (67 + 2 * r)
def bit1 (r : Nat) : Int32 := 1 <<< (Int32.ofNat r &&& 31)
def wrF (g : Nat → Bool) (r : Nat) (a : Int32) : Int32 := if g r = true then a else a ||| bit1 r
def wrI (g : Nat → Bool) (n : Nat) : Int32 := lp (wrF g) n 0 0
def fbF (g : Nat → Bool) (but : Int32) (r : Nat) (b : Bool) : Bool := b && ((Int32.ofNat r == but) || g r)
def fitB (g : Nat → Bool) (but : Int32) (n : Nat) : Bool := lp (fbF g but) n 0 true
def ctF (g : Nat → Bool) (n r : Nat) (a : Int32) : Int32 := a ||| (if fitB g (Int32.ofNat r) n = true then bit1 r else 0)
def ctX (g : Nat → Bool) (n : Nat) (a : Int32) : Int32 := if bcx (wrI g n) = 1 then a ||| wrI g n else a
def pat (p r : Nat) : Bool := p.testBit r
set_option maxRecDepth 100000 in
theorem pat_1 : ∀ n : Fin 7, ∀ p : Fin 64, ((wrI (pat p.val) n.val == 0) == fitB (pat p.val) (-1) n.val) = true := by decide +kernel
set_option maxRecDepth 100000 in
theorem pat_2 : ∀ n : Fin 7, ∀ p : Fin 64, (wrI (pat p.val) n.val == 0 || (lp (ctF (pat p.val) n.val) n.val 0 0 == (if bcx (wrI (pat p.val) n.val) = 1 then wrI (pat p.val) n.val else 0))) = true := by decide +kernel
set_option maxRecDepth 100000 in
theorem pat_3 : ∀ n : Fin 7, ∀ p : Fin 64, decide (wrI (pat p.val) n.val < 64 ∧ 0 ≤ wrI (pat p.val) n.val) = true := by decide +kernel
theorem pat_ex (g : Nat → Bool) : ∃ p, p < 64 ∧ ∀ r, r < 6 → g r = pat p r := by
  have key : ∀ b0 b1 b2 b3 b4 b5 : Bool, (fun p => p < 64 ∧ b0 = pat p 0 ∧ b1 = pat p 1 ∧ b2 = pat p 2 ∧ b3 = pat p 3 ∧ b4 = pat p 4 ∧ b5 = pat p 5) (b0.toNat + 2 * b1.toNat + 4 * b2.toNat + 8 * b3.toNat + 16 * b4.toNat + 32 * b5.toNat) := by
    intro b0 b1 b2 b3 b4 b5
    cases b0 <;> cases b1 <;> cases b2 <;> cases b3 <;> cases b4 <;> cases b5 <;> decide
  obtain ⟨hp, h0, h1, h2, h3, h4, h5⟩ := key (g 0) (g 1) (g 2) (g 3) (g 4) (g 5)
  refine ⟨_, hp, fun r hr => ?_⟩
  match r, hr with
  | 0, _ => exact h0
  | 1, _ => exact h1
  | 2, _ => exact h2
  | 3, _ => exact h3
  | 4, _ => exact h4
  | 5, _ => exact h5
theorem wr_cg {g h : Nat → Bool} {n : Nat} (hn : n ≤ 6) (e : ∀ r, r < 6 → g r = h r) : wrI g n = wrI h n := lp_cg n 0 0 (fun r a _ hr => by unfold wrF; rw [e r (by omega)])
theorem fit_cg {g h : Nat → Bool} {n : Nat} (hn : n ≤ 6) (e : ∀ r, r < 6 → g r = h r) (but : Int32) : fitB g but n = fitB h but n := lp_cg n 0 true (fun r a _ hr => by unfold fbF; rw [e r (by omega)])
theorem fit_wr (g : Nat → Bool) {n : Nat} (hn : n ≤ 6) : (wrI g n = 0) ↔ fitB g (-1) n = true := by
  obtain ⟨p, hp, e⟩ := pat_ex g
  have h := pat_1 ⟨n, by omega⟩ ⟨p, hp⟩
  rw [wr_cg hn e, fit_cg hn e]
  simp only at h
  have h2 : (wrI (pat p) n == 0) = fitB (pat p) (-1) n := by simpa using h
  rw [← h2, beq_iff_eq]
theorem or_0 (a : Int32) : a ||| 0 = a := Int32.or_zero
theorem ct_add (g : Nat → Bool) (N : Nat) : ∀ (m j : Nat) (a : Int32), lp (ctF g N) m j a = a ||| lp (ctF g N) m j 0
  | 0, j, a => (or_0 a).symm
  | m + 1, j, a => by
    show lp (ctF g N) m (j + 1) (ctF g N j a) = a ||| lp (ctF g N) m (j + 1) (ctF g N j 0)
    rw [ct_add g N m (j + 1) (ctF g N j a), ct_add g N m (j + 1) (ctF g N j 0)]
    unfold ctF
    rw [Int32.zero_or, Int32.or_assoc]
theorem ct_wr (g : Nat → Bool) {n : Nat} (hn : n ≤ 6) (h0 : ¬ wrI g n = 0) (a : Int32) : lp (ctF g n) n 0 a = ctX g n a := by
  obtain ⟨p, hp, e⟩ := pat_ex g
  have h := pat_2 ⟨n, by omega⟩ ⟨p, hp⟩
  simp only [Bool.or_eq_true, beq_iff_eq] at h
  rw [ct_add]
  have e1 : lp (ctF g n) n 0 0 = lp (ctF (pat p) n) n 0 0 := lp_cg n 0 0 (fun r a _ hr => by unfold ctF; rw [fit_cg hn e])
  rw [e1, h.resolve_left (fun z => h0 (by rw [wr_cg hn e]; exact z))]
  unfold ctX
  rw [wr_cg hn e]
  by_cases q : bcx (wrI (pat p) n) = 1
  · rw [if_pos q, if_pos q]
  · rw [if_neg q, if_neg q, or_0]
theorem wr_64 (g : Nat → Bool) {n : Nat} (hn : n ≤ 6) : ∃ m, m < 64 ∧ wrI g n = Int32.ofNat m := by
  obtain ⟨p, hp, e⟩ := pat_ex g
  have h := pat_3 ⟨n, by omega⟩ ⟨p, hp⟩
  simp only [decide_eq_true_eq] at h
  rw [wr_cg hn e]
  obtain ⟨a, b, c⟩ := n_of h.2
  refine ⟨_, ?_, a⟩
  have h1 := h.1
  rw [i_lt, c, show (64 : Int32).toInt = 64 from rfl] at h1
  omega
/-- the reports of the model's row -/
def PG (s : Nat → Int32) : Prop := s 1 = Int32.ofNat (s 1).toNatClampNeg ∧ (s 1).toNatClampNeg ≤ 6 ∧ ∀ r, r < (s 1).toNatClampNeg → ∃ k, k < tn s ∧ s (66 + 2 * r) = Int32.ofNat k
theorem ix_6r {r : Nat} (h : r < 6) : m_ix (66 + 2 * Int32.ofNat r) 310 = some (66 + 2 * r) := by
  rw [show (66 : Int32) = Int32.ofNat 66 from rfl, show (2 : Int32) = Int32.ofNat 2 from rfl, n_mul, n_add]
  exact ix_310 (by omega)
theorem ix_6s {r : Nat} (h : r < 6) : m_ix ((66 + 2 * Int32.ofNat r) + 1) 310 = some (67 + 2 * r) := by
  rw [show (66 : Int32) = Int32.ofNat 66 from rfl, show (2 : Int32) = Int32.ofNat 2 from rfl, n_mul, n_add, n_succ, ix_310 (by omega)]
  congr 1; omega
theorem ob_s {α β : Type} (x : α) (f : α → Option β) : m_ob (some x) f = f x := rfl
theorem x_wrong (d : Nat) (st : zS) {s : Nat → Int32} {f : Nat → cH} (h9 : tn s ≤ 9) (hp : rpR (st 1) (st 15) (st 16) s) (r1 : rp (-9) (st 47) (st 48) f (tn s)) (hb : fb f (tn s)) : m_evc (d + 2) 130 [.ref 0] (SH, st) = some (some (.int (wrI (rf f s) (s 1).toNatClampNeg)), (SH, st)) := by
  obtain ⟨p1, p2, p3, p4⟩ := hp
  have L := lp_inv (fun j (a : Int32 × Option Value) => m_ev none (d + 1) 130 4 [some (.ref 0), some (.int a.1), some (.int (Int32.ofNat j)), a.2] [] (SH, st)) (fun j a => a.1 = lp (wrF (rf f s)) j 0 0) (s 1).toNatClampNeg ?_ (s 1).toNatClampNeg 0 (0, none) (by omega) rfl
  · obtain ⟨⟨w, x3⟩, e, hw⟩ := L
    have hw : w = _ := hw
    rw [cal_X11_wrongReports, eX11_wrongReports_0]
    refine Eq.trans e ?_
    simp only
    rw [eX11_wrongReports_4, p3, if_neg (by rw [← p1]; exact Int32.lt_irrefl), eX11_wrongReports_69, hw]
    rfl
  · rintro j ⟨w, x3⟩ hj hw
    have hw : w = _ := hw
    obtain ⟨q1, q2, k, hk, q3⟩ := p4 j hj
    have hnext : wrF (rf f s) j w = lp (wrF (rf f s)) (j + 1) 0 0 := by rw [lp_last, Nat.zero_add, ← hw]
    refine ⟨(wrF (rf f s) j w, some (.int (Int32.ofNat k))), ?_, hnext⟩
    simp only
    have hlt : Int32.ofNat j < st 1 11 := by rw [p3, p1, n_lt (by omega) (by omega)]; exact hj
    have hrf : rf f s j = (match f k with | none => false | some ch => ch.2 == s (67 + 2 * j)) := by
      unfold rf
      rw [q3, n_nat (by omega)]
    rw [eX11_wrongReports_4, if_pos hlt, ix_6 (show j < 6 by omega)]
    simp only [m_ob]
    rw [q1, q3, ya_rch _ st r1 hb hk h9]
    simp only [m_bd, Option.toList, List.cons_append, List.nil_append]
    rw [eX11_wrongReports_33, bZ_if]
    unfold wrF
    cases e : f k with
    | none =>
      rw [e] at hrf
      have hrf : rf f s j = false := hrf
      rw [if_neg iN, hrf, if_neg (by decide), eX11_wrongReports_57, eX11_wrongReports_63, n_succ]
      rfl
    | some ch =>
      obtain ⟨c, g⟩ := ch
      rw [e] at hrf
      have hrf : rf f s j = (g == s (67 + 2 * j)) := hrf
      rw [if_pos iS, ix_9 (show k < 9 by omega), ix_6 (show j < 6 by omega)]
      simp only [m_ob]
      rw [(rp_at r1 hk e).2, q2, hrf]
      by_cases z : g = s (67 + 2 * j)
      · rw [if_pos z, if_pos (beq_iff_eq.mpr z), eX11_wrongReports_63, n_succ]
      · rw [if_neg z, if_neg (fun w => z (beq_iff_eq.mp w)), eX11_wrongReports_57, eX11_wrongReports_63, n_succ]
        rfl
theorem m_isFit (d : Nat) (st : zS) {f : Nat → cH} (h9 : tn (st 86) ≤ 9) (hp : PG (st 86)) (r1 : rp (-1) (st 90) (st 91) f (tn (st 86))) (hb : fb f (tn (st 86))) (but : Int32) : m_evc (d + 1) 216 [.ref 85, .int but] (SH, st) = some (some (.int (bZ (fitB (rf f (st 86)) but (st 86 1).toNatClampNeg = true))), (SH, st)) := by
  obtain ⟨p1, p2, p4⟩ := hp
  have L := lp_inv (fun j (a : Bool × Option Value) => m_ev none d 216 4 [some (.ref 85), some (.int but), some (.int (bZ (a.1 = true))), some (.int (Int32.ofNat j)), a.2] [] (SH, st)) (fun j a => a.1 = lp (fbF (rf f (st 86)) but) j 0 true) (st 86 1).toNatClampNeg ?_ (st 86 1).toNatClampNeg 0 (true, none) (by omega) rfl
  · obtain ⟨⟨w, x4⟩, e, hw⟩ := L
    have hw : w = _ := hw
    rw [cal_X12_isFit, eX12_isFit_0]
    refine Eq.trans e ?_
    simp only
    rw [eX12_isFit_4, if_neg (by rw [← p1]; exact Int32.lt_irrefl), eX12_isFit_81, if_pos (bE w), hw]
    rfl
  · rintro j ⟨w, x4⟩ hj hw
    have hw : w = _ := hw
    obtain ⟨k, hk, q3⟩ := p4 j hj
    have hnext : fbF (rf f (st 86)) but j w = lp (fbF (rf f (st 86)) but) (j + 1) 0 true := by rw [lp_last, Nat.zero_add, ← hw]
    refine ⟨(fbF (rf f (st 86)) but j w, some (.int (Int32.ofNat k))), ?_, hnext⟩
    simp only
    have hlt : Int32.ofNat j < st 86 1 := by rw [p1, n_lt (by omega) (by omega)]; exact hj
    have q := rp_neg r1 hb hk
    rw [eX12_isFit_4, if_pos hlt, ix_6r (show j < 6 by omega), ob_s, q3, bZ_if]
    have no : m_ev none d 216 73 [some (.ref 85), some (.int but), some (.int (bZ (w = true))), some (.int (Int32.ofNat j)), some (.int (Int32.ofNat k))] [] (SH, st) = m_ev none d 216 4 [some (.ref 85), some (.int but), some (.int (bZ (false = true))), some (.int (Int32.ofNat (j + 1))), some (.int (Int32.ofNat k))] [] (SH, st) := by
      rw [eX12_isFit_73, eX12_isFit_74, n_succ, bZ_f (by decide)]
    have yes : m_ev none d 216 69 [some (.ref 85), some (.int but), some (.int (bZ (w = true))), some (.int (Int32.ofNat j)), some (.int (Int32.ofNat k))] [] (SH, st) = m_ev none d 216 4 [some (.ref 85), some (.int but), some (.int (bZ (true = true))), some (.int (Int32.ofNat (j + 1))), some (.int (Int32.ofNat k))] [] (SH, st) := by
      rw [eX12_isFit_69, eX12_isFit_74, n_succ, bZ_t rfl]
    unfold fbF
    cases w with
    | false =>
      rw [if_neg (by decide), no]
      rfl
    | true =>
      rw [if_pos rfl, Bool.true_and]
      by_cases hbut : Int32.ofNat j = but
      · rw [if_pos hbut, yes, show (Int32.ofNat j == but) = true from beq_iff_eq.mpr hbut, Bool.true_or]
      · have hbf : (Int32.ofNat j == but) = false := by
          cases z : (Int32.ofNat j == but) with
          | false => rfl
          | true => exact absurd (beq_iff_eq.mp z) hbut
        have hrf : rf f (st 86) j = (match f k with | none => false | some ch => ch.2 == st 86 (67 + 2 * j)) := by
          unfold rf
          rw [q3, n_nat (by omega)]
        rw [if_neg hbut, hbf, Bool.false_or, ix_9 (show k < 9 by omega), ob_s]
        cases e : f k with
        | none =>
          rw [e] at hrf
          have hrf : rf f (st 86) j = false := hrf
          rw [if_pos (q.mpr e), no, hrf]
        | some ch =>
          obtain ⟨c, g⟩ := ch
          rw [e] at hrf
          have hrf : rf f (st 86) j = (g == st 86 (67 + 2 * j)) := hrf
          rw [if_neg (fun z => by rw [q.mp z] at e; cases e), ob_s, ix_6s (show j < 6 by omega), ob_s]
          rw [(rp_at r1 hk e).2, hrf]
          by_cases z : g = st 86 (67 + 2 * j)
          · rw [if_pos z, yes, beq_iff_eq.mpr z]
          · rw [if_neg z, no, show (g == st 86 (67 + 2 * j)) = false by
              cases y : (g == st 86 (67 + 2 * j)) with
              | false => rfl
              | true => exact absurd (beq_iff_eq.mp y) z]
