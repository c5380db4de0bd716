/-! THE CONSTRUCTORS, run by program -/
def lw_h0 : mH := m_new ([], fun _ _ => 0) (11, 18, List.replicate 18 none)
def lw_b1 : Option mF := m_run mP mX 100000 none 2046 79 0 (m_lo (mX 79) [.ref 0]) [] lw_h0
def lw_b2 : Option mF := match lw_b1 with
  | some (none, h) => m_run mP mX 100000 none 2046 154 0 (m_lo (mX 154) [.ref h.1.length]) [] (m_new h (12, 36, List.replicate 36 none))
  | _ => none
/-- the numbers behind the constructors -/
def lw_n0 (i j : Nat) : Int32 :=
  bif Nat.beq i 1 && Nat.beq j 9 then 1 else bif Nat.beq i 18 && Nat.beq j 9 then 1 else bif Nat.beq i 35 && Nat.beq j 3 then 4
  else bif (Nat.beq i 44 || Nat.beq i 49) && (Nat.beq j 3 || Nat.beq j 4) then 4 else bif Nat.beq i 66 && Nat.blt j 4 then -1
  else bif Nat.beq i 73 && Nat.blt j 4 then 2 else bif Nat.beq i 86 && Nat.beq j 3 then 1 else bif Nat.beq i 95 && Nat.blt j 4 then -1 else 0
/-- a row's numbers, as far as it is long -/
def lw_eqR (f g : Nat → Int32) : Nat → Bool
  | 0 => true
  | n + 1 => (f n).toBitVec.toNat == (g n).toBitVec.toNat && lw_eqR f g n
def lw_eqH (s g : Nat → Nat → Int32) : Nat → List mR → Bool
  | _, [] => true
  | i, r :: l => lw_eqR (s i) (g i) r.2.1 && lw_eqH s g (i + 1) l
def lw_ckb : Bool := match lw_b2 with
  | some (none, h) => decide (h.1 = SH) && lw_eqH h.2 lw_n0 0 h.1
  | _ => false
set_option maxRecDepth 100000 in
theorem lw_ckb_ok : lw_ckb = true := by decide +kernel
def lw_l1b : Bool := match lw_b1 with
  | some (none, h) => decide (h.1 = SH.take 85)
  | _ => true
set_option maxRecDepth 100000 in
theorem lw_l1 : lw_l1b = true := by decide +kernel
theorem lw_eqR_spec {f g : Nat → Int32} : ∀ n, lw_eqR f g n = true → ∀ j, j < n → f j = g j
  | 0, _, j, h => absurd h (Nat.not_lt_zero _)
  | n + 1, h, j, hj => by
    simp only [lw_eqR, Bool.and_eq_true, beq_iff_eq] at h
    rcases Nat.lt_or_eq_of_le (Nat.lt_succ_iff.mp hj) with q | q
    · exact lw_eqR_spec n h.2 j q
    · subst q
      exact Int32.toBitVec_inj.mp (BitVec.eq_of_toNat_eq h.1)
theorem lw_eqH_spec {s g : Nat → Nat → Int32} : ∀ (l : List mR) (i : Nat), lw_eqH s g i l = true → ∀ (k : Nat) (r : mR), l[k]? = some r → ∀ j, j < r.2.1 → s (i + k) j = g (i + k) j
  | [], i, _, k, r, hr, _, _ => by simp at hr
  | r0 :: l, i, h, k, r, hr, j, hj => by
    simp only [lw_eqH, Bool.and_eq_true] at h
    cases k with
    | zero =>
      simp only [List.getElem?_cons_zero, Option.some.injEq] at hr
      subst hr
      exact lw_eqR_spec _ h.1 j hj
    | succ k =>
      rw [List.getElem?_cons_succ] at hr
      have := lw_eqH_spec l (i + 1) h.2 k r hr j hj
      rw [show i + (k + 1) = i + 1 + k by omega]
      exact this
/-- so the numbers stand after the constructors, as far as the rows are long -/
def lw_St0 (st : Nat → Nat → Int32) : Prop := ∀ (k : Nat) (r : mR), SH[k]? = some r → ∀ j, j < r.2.1 → st k j = lw_n0 k j
theorem lw_b_ok : ∃ (h1 : mH) (st : Nat → Nat → Int32), m_run mP mX 100000 none 2046 79 0 (m_lo (mX 79) [.ref 0]) [] lw_h0 = some (none, h1) ∧ m_run mP mX 100000 none 2046 154 0 (m_lo (mX 154) [.ref h1.1.length]) [] (m_new h1 (12, 36, List.replicate 36 none)) = some (none, (SH, st)) ∧ h1.1 = SH.take 85 ∧ lw_St0 st := by
  have h := lw_ckb_ok
  unfold lw_ckb at h
  split at h
  · rename_i h2 e2
    simp only [Bool.and_eq_true, decide_eq_true_eq] at h
    obtain ⟨g1, g2⟩ := h
    unfold lw_b2 at e2
    split at e2
    · rename_i h1 e1
      obtain ⟨l2, st⟩ := h2
      simp only at g1 g2
      subst g1
      have hl := lw_l1
      unfold lw_l1b at hl
      rw [e1] at hl
      simp only [decide_eq_true_eq] at hl
      exact ⟨h1, st, e1, e2, hl, fun k r hr j hj => by have := lw_eqH_spec _ 0 g2 k r hr j hj; rw [Nat.zero_add] at this; exact this⟩
    · cases e2
  · cases h
theorem lw_e0 (L : Nat) (xs : Nat → Int32) : m_ev (some (L, xs)) 2047 268 0 [some (.ref 2000000), none, none, none] [] ([], fun _ _ => 0) = m_bd (m_evc 2047 79 [.ref 0] lw_h0) fun w h => m_ev (some (L, xs)) 2047 268 7 [some (.ref 2000000), none, none, none] (w.toList ++ [.ref 0]) h := m_ev_K _ _ _ _ _ _ _
set_option maxRecDepth 20000 in
theorem lw_e7 (L : Nat) (xs : Nat → Int32) (st : Nat → Nat → Int32) : m_ev (some (L, xs)) 2047 268 7 [some (.ref 2000000), none, none, none] [.ref 0] (SH.take 85, st) = m_bd (m_evc 2047 154 [.ref 85] (m_new (SH.take 85, st) (12, 36, List.replicate 36 none))) fun w g => m_ev (some (L, xs)) 2047 268 15 [some (.ref 2000000), some (.ref 0), none, none] (w.toList ++ [.ref 85]) g := m_ev_K _ _ _ _ _ _ _
theorem lw_e15 (L : Nat) (xs : Nat → Int32) (h : mH) (a : Nat) : m_ev (some (L, xs)) 2047 268 15 [some (.ref 2000000), some (.ref 0), none, none] [.ref a] h = m_ev (some (L, xs)) 2047 268 18 [some (.ref 2000000), some (.ref 0), some (.ref a), some (.int 0)] [] h := m_ev_K _ _ _ _ _ _ _
theorem lw_begin (L : Nat) (xs : Nat → Int32) : ∃ st, lw_St0 st ∧ m_ev (some (L, xs)) 2047 268 0 (m_lo 4 [.ref m_scr0]) [] ([], fun _ _ => 0) = m_ev (some (L, xs)) 2047 268 18 [some (.ref 2000000), some (.ref 0), some (.ref 85), some (.int 0)] [] (SH, st) := by
  obtain ⟨h1, st, e1, e2, el, hS⟩ := lw_b_ok
  refine ⟨st, hS, ?_⟩
  obtain ⟨l1, s1⟩ := h1
  simp only at el
  subst el
  have c1 : m_evc 2047 79 [.ref 0] lw_h0 = some (none, (SH.take 85, s1)) := m_evc_s (by decide +kernel) (by decide +kernel) (m_ev_of e1)
  have c2 : m_evc 2047 154 [.ref 85] (m_new (SH.take 85, s1) (12, 36, List.replicate 36 none)) = some (none, (SH, st)) := m_evc_s (by decide +kernel) (by decide +kernel) (m_ev_of e2)
  have e0 : m_lo 4 [.ref m_scr0] = [some (.ref 2000000), none, none, none] := by decide +kernel
  rw [e0, lw_e0, c1]
  simp only [m_bd, Option.toList, List.nil_append]
  rw [lw_e7, c2]
  simp only [m_bd, Option.toList, List.nil_append]
  rw [lw_e15]
