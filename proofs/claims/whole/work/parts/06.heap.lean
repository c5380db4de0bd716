/-! THE INSTRUCTIONS THAT READ AND WRITE CELLS -/
theorem m_cl_ok : ∀ (c : Nat) (C : String) (T : u_T) (N : Nat), m_cl[c]? = some (C, T, N) → (∀ w ∈ u_ws C T N, w ∈ mTT) ∧ (∀ k, k < N → parseFieldDescriptor (T k).2.2.1 = some (m_ty c k)) ∧ (∀ a, a < N → ∀ b, b < N → a ≠ b → (T a).2.1 ≠ (T b).2.1)
  | 0, _, _, _, h => by cases h; exact ⟨by decide +kernel, tyX0_ok, nmX0⟩
  | 1, _, _, _, h => by cases h; exact ⟨by decide +kernel, tyX1_ok, nmX1⟩
  | 2, _, _, _, h => by cases h; exact ⟨by decide +kernel, tyX2_ok, nmX2⟩
  | 3, _, _, _, h => by cases h; exact ⟨by decide +kernel, tyX3_ok, nmX3⟩
  | 4, _, _, _, h => by cases h; exact ⟨by decide +kernel, tyX4_ok, nmX4⟩
  | 5, _, _, _, h => by cases h; exact ⟨by decide +kernel, tyX5_ok, nmX5⟩
  | 6, _, _, _, h => by cases h; exact ⟨by decide +kernel, tyX6_ok, nmX6⟩
  | 7, _, _, _, h => by cases h; exact ⟨by decide +kernel, tyX7_ok, nmX7⟩
  | 8, _, _, _, h => by cases h; exact ⟨by decide +kernel, tyX8_ok, nmX8⟩
  | 9, _, _, _, h => by cases h; exact ⟨by decide +kernel, tyX9_ok, nmX9⟩
  | 10, _, _, _, h => by cases h; exact ⟨by decide +kernel, tyX10_ok, nmX10⟩
  | 11, _, _, _, h => by cases h; exact ⟨by decide +kernel, tyX11_ok, nmX11⟩
  | 12, _, _, _, h => by cases h; exact ⟨by decide +kernel, tyX12_ok, nmX12⟩
  | n + 13, _, _, _, h => by simp [m_cl] at h
theorem m_cl_lt {c : Nat} {q : vw_C} (h : m_cl[c]? = some q) : c < 100 := by
  have := (List.getElem?_eq_some_iff.mp h).1
  have h2 : m_cl.length = 13 := rfl
  omega
theorem m_cel_o (dA : Nat → ClassId) (ad : Nat → Nat) (st : Nat → Int32) {c n : Nat} {rs : List (Option Nat)} (h : c < 100) : m_cel dA ad st (c, n, rs) = .inr (c, (List.range n).map (m_fld ad st c rs)) := by simp [m_cel, h]
theorem m_cel_a (dA : Nat → ClassId) (ad : Nat → Nat) (st : Nat → Int32) {c n : Nat} {rs : List (Option Nat)} (h1 : ¬ c < 100) (h2 : c < 104) : m_cel dA ad st (c, n, rs) = .inl (dA c, n, .inl st) := by simp [m_cel, h1, h2]
theorem m_cel_q (dA : Nat → ClassId) (ad : Nat → Nat) (st : Nat → Int32) {c n : Nat} {rs : List (Option Nat)} (h2 : ¬ c < 104) : m_cel dA ad st (c, n, rs) = .inl (dA c, n, .inr (.inr (.inr (.inr (fun i => (m_ri rs i).map ad))))) := by
  have h1 : ¬ c < 100 := by omega
  simp [m_cel, h1, h2]
theorem m_fs_get (f : Nat → Value) {n k : Nat} (hk : k < n) : ((List.range n).map f)[k]? = some (f k) := by simp [List.getElem?_map, List.getElem?_range hk]
theorem m_fs_set {f g : Nat → Value} {n k : Nat} {v : Value} (hk : g k = v) (hj : ∀ j, j ≠ k → g j = f j) : ((List.range n).map f).set k v = (List.range n).map g := by
  apply List.ext_getElem?
  intro j
  by_cases hjk : j = k
  · subst hjk
    by_cases hl : j < n
    · rw [List.getElem?_set_self (by simpa using hl), m_fs_get g hl, hk]
    · rw [List.getElem?_eq_none (by simp; omega), List.getElem?_eq_none (by simp; omega)]
  · rw [List.getElem?_set_ne (Ne.symm hjk)]
    by_cases hl : j < n
    · rw [m_fs_get f hl, m_fs_get g hl, hj j hjk]
    · rw [List.getElem?_eq_none (by simp; omega), List.getElem?_eq_none (by simp; omega)]
theorem m_get_spec {h : mH} {i k : Nat} {cs : List Nat} {w : Value} (hg : m_get h i k cs = some w) : ∃ (c n : Nat) (rs : List (Option Nat)), h.1[i]? = some (c, n, rs) ∧ c ∈ cs ∧ k < n ∧ ∀ ad : Nat → Nat, m_v ad w = m_fld ad (h.2 i) c rs k := by
  unfold m_get at hg
  split at hg
  · cases hg
  · rename_i c n rs hi
    cases h1 : (cs.elem c && Nat.blt k n) with
    | false => rw [h1] at hg; cases hg
    | true =>
      rw [h1, cond_true] at hg
      simp only [Bool.and_eq_true] at h1
      refine ⟨c, n, rs, hi, List.elem_iff.mp h1.1, Nat.blt_eq.mp h1.2, fun ad => ?_⟩
      unfold m_fld
      cases h2 : m_num (m_ty c k) with
      | false => rw [h2] at hg; cases hg; exact m_v_rf ad _
      | true => rw [h2] at hg; cases hg; rfl
theorem m_put_spec {h h' : mH} {i k : Nat} {cs : List Nat} {w : Value} (hg : m_put h i k cs w = some h') : ∃ (c n : Nat) (rs : List (Option Nat)), h.1[i]? = some (c, n, rs) ∧ c ∈ cs ∧ k < n ∧
    ((∃ x, w = .int x ∧ m_num (m_ty c k) = true ∧ (m_isZ (m_ty c k) = true → x = 0 ∨ x = 1) ∧ h' = (h.1, m_up h.2 i k x)) ∨ ∃ b, w = .ref b ∧ m_isR (m_ty c k) = true ∧ k < rs.length ∧ h' = (h.1.set i (c, n, rs.set k (some b)), h.2)) := by
  unfold m_put at hg
  split at hg
  · cases hg
  · rename_i c n rs hi
    cases h1 : (cs.elem c && Nat.blt k n) with
    | false => rw [h1] at hg; cases hg
    | true =>
      rw [h1, cond_true] at hg
      simp only [Bool.and_eq_true] at h1
      refine ⟨c, n, rs, hi, List.elem_iff.mp h1.1, Nat.blt_eq.mp h1.2, ?_⟩
      split at hg
      · rename_i x
        cases h2 : m_num (m_ty c k) with
        | false => rw [h2] at hg; cases hg
        | true =>
          rw [h2, cond_true] at hg
          cases h3 : m_isZ (m_ty c k) with
          | false => rw [h3, cond_false] at hg; cases hg; exact Or.inl ⟨x, rfl, rfl, (fun q => by cases q), rfl⟩
          | true =>
            rw [h3, cond_true] at hg
            split at hg
            · rename_i h4; cases hg; exact Or.inl ⟨x, rfl, rfl, (fun _ => h4), rfl⟩
            · cases hg
      · rename_i b
        cases h2 : (m_isR (m_ty c k) && Nat.blt k rs.length) with
        | false => rw [h2] at hg; cases hg
        | true =>
          rw [h2, cond_true] at hg
          cases hg
          simp only [Bool.and_eq_true] at h2
          exact Or.inr ⟨b, rfl, h2.1, Nat.blt_eq.mp h2.2, rfl⟩
      · cases hg
theorem m_isR_num {t : FieldType} (h : m_isR t = true) : m_num t = false := by cases t <;> simp [m_isR] at h <;> rfl
theorem m_fitR {t : FieldType} (h : m_isR t = true) (a : Nat) : narrow t (.ref a) = .ref a ∧ fits t (.ref a) = true := by
  cases t <;> simp [m_isR] at h <;> exact ⟨rfl, rfl⟩
theorem m_fitN {t : FieldType} {x : Int32} (h : m_num t = true) (hz : m_isZ t = true → x = 0 ∨ x = 1) : narrow t (.int x) = .int x ∧ fits t (.int x) = true := by
  cases t <;> simp [m_num] at h
  · exact ⟨rfl, rfl⟩
  · rcases hz rfl with rfl | rfl <;> exact ⟨by decide +kernel, by decide +kernel⟩
section MH
variable {p : Program} {l : Launch} {e : Env} {R : Room} {s : State} {m : MethodId} {args : Array Value} {below : List Frame} {meth : Method} {c : Code} {Q : State → Prop} {cc : ByteArray} {own nm : String} {nL : Nat} {D : va_G} {dA : Nat → ClassId} {ad : Nat → Nat} {A : Nat → Prop} {B N0 S0 : Nat} {sc : mS} {pc n : Nat} {v : Int32 × Int64} {ds : List (List Nat)} {lo lo' : mL} {os os' : List Value} {h h' : mH}
theorem m_fl_spec {idx k q sm ci : Nat} (hf : m_fl own idx k q sm ci = true) (hts : ∀ w ∈ mTT, w.before args s = true) : ∃ (C : String) (T : u_T) (N : Nat) (r : String), m_cl[ci]? = some (C, T, N) ∧ k < N ∧ (Cond.fieldLink own idx r (T k).2.1 (T k).2.2.1).before args s = true ∧ ∀ x, s.fieldFound? (T k).1 (T k).2.1 (T k).2.2.1 = some x → s.fieldFound? r (T k).2.1 (T k).2.2.1 = some x := by
  unfold m_fl at hf
  split at hf
  · cases hf
  · rename_i C T N hc
    simp only [Bool.and_eq_true] at hf
    obtain ⟨h1, h2⟩ := hf
    split at h2
    · rename_i o i r nm d hq
      simp only [Bool.and_eq_true, decide_eq_true_eq] at h2
      obtain ⟨⟨⟨⟨rfl, rfl⟩, rfl⟩, rfl⟩, h3⟩ := h2
      refine ⟨C, T, N, r, hc, Nat.blt_eq.mp h1, hts _ (m_tw_in hq rfl), fun x hx => ?_⟩
      split at h3
      · simp only [decide_eq_true_eq] at h3
        rw [h3]; exact hx
      · exact u_same (hts _ (m_w_in h3)) x hx
    · cases h2
theorem m_ok_getfield {z : Nat} (hF : m_Fx p s m args meth c cc own nm nL D dA ad A B) (hdg : decode cc pc = .ok (.getfield z, n)) (hk : m_ck own nm nL (.getfield z) n v ds = true) (hr : m_1 sc (.getfield z) v ds lo os h = some (lo', os', h')) (kk : m_W p l e R s m args below meth c Q nL D dA ad A B N0 S0 (pc + n) lo' os' h') : m_W p l e R s m args below meth c Q nL D dA ad A B N0 S0 pc lo os h := by
  obtain ⟨hx, hb, hml, hown, hts, hK, hA, hnm, hB⟩ := hF
  simp only [m_ck, Bool.and_eq_true, decide_eq_true_eq] at hk
  obtain ⟨rfl, h1⟩ := hk
  simp only [m_1] at hr
  split at hr
  · rename_i a os0
    split at hr
    · rename_i w hg
      cases hr
      obtain ⟨ci, nn, rs, hi, hcs, hkn, hv⟩ := m_get_spec hg
      obtain ⟨C, T, N, r, hc, hkN, hlink, hsame⟩ := m_fl_spec (List.all_eq_true.mp h1 ci hcs) hts
      obtain ⟨hin, hty, hap⟩ := m_cl_ok _ _ _ _ hc
      intro H locs cells slots ls hN
      refine va_get hx hb hts hin hown hK hN.1 a (fs := (List.range nn).map (m_fld ad (h.2 a) ci rs)) (by rw [← m_cel_o dA ad (h.2 a) (m_cl_lt hc)]; exact m_ws_get hi) hc _ hkN hlink hsame (m_fs_get _ hkn) hdg ?_
      have k2 := kk H locs cells slots ls hN
      rw [List.map_cons, hv] at k2
      exact k2
    · cases hr
  · cases hr
/-- a write, at the JVM's level: the field k of the object a -/
theorem m_putJ (hF : m_Fx p s m args meth c cc own nm nL D dA ad A B) {z k q sm fin ci : Nat} (hdg : decode cc pc = .ok (.putfield z, 3)) (hfl : m_fl own z k q sm ci = true) (hfn : m_fin own nm k fin ci = true) {ws : va_W} {H : Heap} {locs : List Loc} {cells slots : Nat} {ls : Array Slot} {rest : List Value} (hP : va_P D m_cl ws H) (hD : va_D A ws) (hS : va_S A s.heap H locs) {a p0 : Nat} {fs : List Value} (he : ws[p0]? = some (a, .inr (ci, fs))) {v : Value} (hn : narrow (m_ty ci k) v = v) (hft : fits (m_ty ci k) v = true) (hl : k < fs.length)
    (kk : ∀ (H1 : Heap) (locs1 : List Loc), va_P D m_cl (ws.set p0 (a, .inr (ci, fs.set k v))) H1 → va_D A (ws.set p0 (a, .inr (ci, fs.set k v))) → va_S A s.heap H1 locs1 → H1.size = H.size → W p l e R s m args below meth c H1 locs1 cells slots Q (F0 m (pc + 3) ls rest)) : W p l e R s m args below meth c H locs cells slots Q (F0 m pc ls (v :: .ref a :: rest)) := by
  obtain ⟨hx, hb, hml, hown, hts, hK, hA, hnm, hB⟩ := hF
  obtain ⟨C, T, N, ref, hc, hk, hlink, hsame⟩ := m_fl_spec hfl hts
  obtain ⟨hin, hty, hap0⟩ := m_cl_ok _ _ _ _ hc
  have hap := va_apart (own := own) hts hin (m_ty ci) hty hap0 hK hc
  obtain ⟨r, h1, cell, q1, q2, q3, q4⟩ := hP p0 _ he
  have hr : r = (C, T, N) := Option.some.inj (h1.symm.trans hc)
  subst hr
  obtain ⟨hSl, hfc, kC, hkC, hkind⟩ := hK.1 ci _ hc
  obtain ⟨cf, kf, fi, f, hi, hsl⟩ := hSl k hk
  have hst := (u_facts hfc hkC (u_lays hts hin hk) hi).1
  have hlay := hts _ (hin _ (u_in_lay hk))
  have fin2 : ∀ H' : Heap, H'[a]? = some (cell.setSlot f.slot v) → H'.size = H.size → (∀ q, q ≠ a → H'[q]? = H[q]?) → W p l e R s m args below meth c H' (locs ++ [⟨a, f.slot⟩]) cells slots Q (F0 m (pc + 3) ls rest) := fun H' e1 e2 e3 => by
    rw [hsl] at e1 ⊢
    exact kk H' _ (hP.set hD he ⟨_, hc, t_OB.to (V := updV (vp_V fs) k v) ⟨_, e1, q2, q3, t_set q4 hap hk v⟩ (fun j _ => vp_updV_set hl v j)⟩ e3) (hD.set he) (hS.put e2 e3 (hD.2 p0 _ he)) e2
  unfold m_fin at hfn
  simp only [hc] at hfn
  split at hfn
  · simp only [decide_eq_true_eq] at hfn
    unfold u_lay at hlay
    rw [if_neg (by rw [hfn]; decide)] at hlay
    have h6 := u_store hfc hkC hkind hlay hi (hty k hk) hn hft
    exact W.putK hx hb (f := f) ⟨hown, hlink, ⟨_, _, _, hsame _ hi⟩, hst⟩ (by rw [q2]; exact h6) q1 q3 (by rw [hsl]; exact k2_hasslot (q4 k hk)) rfl rfl hdg fin2
  · simp only [Bool.and_eq_true, decide_eq_true_eq] at hfn
    obtain ⟨⟨hfin, hnm2⟩, hdecl⟩ := hfn
    unfold u_lay at hlay
    rw [if_pos hfin] at hlay
    have hcf : m.cls = cf := by
      obtain ⟨_, _, c', _, _, _, -, -, hf', -, -, -, hown2, -⟩ := Cond.laysFinal_spec hlay
      have e1 : c' = cf := by have := hi.symm.trans hf'; simp at this; exact this.1.symm
      rw [hdecl] at hown2
      rw [← e1]; exact Option.some.inj (hown.symm.trans hown2)
    have h6 := u_fits hfc hkC hkind (Or.inr hlay) hi (hty k hk) hn hft
    exact W.putFinK hx hb hown hlink (hsame _ hi) hst hcf (hnm.trans hnm2) (by rw [q2]; exact h6) q1 q3 (by rw [hsl]; exact k2_hasslot (q4 k hk)) rfl rfl hdg fin2
theorem m_ok_putfield {z : Nat} (hF : m_Fx p s m args meth c cc own nm nL D dA ad A B) (hdg : decode cc pc = .ok (.putfield z, n)) (hk : m_ck own nm nL (.putfield z) n v ds = true) (hr : m_1 sc (.putfield z) v ds lo os h = some (lo', os', h')) (kk : m_W p l e R s m args below meth c Q nL D dA ad A B N0 S0 (pc + n) lo' os' h') : m_W p l e R s m args below meth c Q nL D dA ad A B N0 S0 pc lo os h := by
  simp only [m_ck, Bool.and_eq_true, decide_eq_true_eq] at hk
  obtain ⟨rfl, h1⟩ := hk
  simp only [m_1] at hr
  split at hr
  · rename_i w a os0
    split at hr
    · rename_i h2 hg
      cases hr
      obtain ⟨ci, nn, rs, hi, hcs, hkn, hv⟩ := m_put_spec hg
      have h3 := List.all_eq_true.mp h1 ci hcs
      simp only [Bool.and_eq_true] at h3
      obtain ⟨C, T, N, r, hc, -⟩ := m_fl_spec h3.1 hF.2.2.2.2.1
      have hlt := m_cl_lt hc
      intro H locs cells slots ls hN
      have he := m_ws_get (dA := dA) (ad := ad) hi
      rw [m_cel_o dA ad (h.2 a) hlt] at he
      rcases hv with ⟨x, rfl, hnu, hz, rfl⟩ | ⟨b, rfl, hre, hkr, rfl⟩
      · obtain ⟨hn, hft⟩ := m_fitN hnu hz
        have eS : ((List.range nn).map (m_fld ad (h.2 a) ci rs)).set (m_d (m_hd ds) 0) (.int x) = (List.range nn).map (m_fld ad (upd (h.2 a) (m_d (m_hd ds) 0) x) ci rs) := m_fs_set (by simp [m_fld, hnu, upd]) (fun j hj => by simp [m_fld, upd, hj])
        refine m_putJ (v := .int x) hF hdg h3.1 h3.2 hN.1 hN.2.1 hN.2.2.1 he hn hft (by simpa using hkn) fun H1 locs1 hP1 hD1 hS1 hz1 => ?_
        rw [eS, ← m_cel_o dA ad _ hlt, m_ws_set _ hi, m_set_self hi, m_row_up] at hP1 hD1
        exact kk H1 locs1 cells slots ls ⟨hP1, hD1, hS1, by rw [hz1]; exact hN.2.2.2.1, hN.2.2.2.2.1, hN.2.2.2.2.2.1, hN.2.2.2.2.2.2⟩
      · obtain ⟨hn, hft⟩ := m_fitR hre (ad b)
        have eS : ((List.range nn).map (m_fld ad (h.2 a) ci rs)).set (m_d (m_hd ds) 0) (.ref (ad b)) = (List.range nn).map (m_fld ad (h.2 a) ci (rs.set (m_d (m_hd ds) 0) (some b))) := m_fs_set (by simp [m_fld, m_isR_num hre, m_ri, hkr, va_rf]) (fun j hj => by simp [m_fld, m_ri, List.getElem?_set_ne (Ne.symm hj)])
        refine m_putJ (v := .ref (ad b)) hF hdg h3.1 h3.2 hN.1 hN.2.1 hN.2.2.1 he hn hft (by simpa using hkn) fun H1 locs1 hP1 hD1 hS1 hz1 => ?_
        rw [eS, ← m_cel_o dA ad _ hlt, m_ws_set _ hi, m_row_self] at hP1 hD1
        exact kk H1 locs1 cells slots ls ⟨hP1, hD1, hS1, by rw [hz1, hN.2.2.2.1]; simp, by rw [hN.2.2.2.2.1]; simp, by rw [hN.2.2.2.2.2.1]; exact (m_sz_set _ _ hi).symm, hN.2.2.2.2.2.2⟩
    · cases hr
  · cases hr
/-- an array's place, and its class -/
theorem m_tys_at (dA : Nat → ClassId) {c : Nat} (h : c = 100 ∨ c = 101 ∨ c = 102) : ∃ t0 : Nat, (m_tys dA)[t0]? = some (dA c, if c = 100 then .int else if c = 101 then .byte else .boolean) := by
  rcases h with rfl | rfl | rfl
  · exact ⟨0, rfl⟩
  · exact ⟨1, rfl⟩
  · exact ⟨2, rfl⟩
theorem m_ix_some {j : Int32} {n q : Nat} (hq : m_ix j n = some q) : vp_in j n ∧ q = j.toNatClampNeg := by
  unfold m_ix at hq
  split at hq
  · cases hq
  · rename_i h1; cases hq; exact ⟨h1, rfl⟩
theorem m_ald_spec {ks : List Nat} {i : Nat} {j w : Int32} (hg : m_ald sc h ks i j = some w) : (∃ (c n : Nat) (rs : List (Option Nat)), h.1[i]? = some (c, n, rs) ∧ c ∈ ks ∧ vp_in j n ∧ w = h.2 i j.toNatClampNeg) ∨ ∃ (L : Nat) (xs : Nat → Int32), sc = some (L, xs) ∧ i = m_scr0 ∧ 100 ∈ ks ∧ vp_in j L ∧ w = xs j.toNatClampNeg := by
  unfold m_ald at hg
  split at hg
  · rename_i c n rs hi
    cases h1 : ks.elem c with
    | false => rw [h1] at hg; cases hg
    | true =>
      rw [h1, cond_true] at hg
      split at hg
      · rename_i q hq
        obtain ⟨h2, rfl⟩ := m_ix_some hq
        cases hg
        exact Or.inl ⟨c, n, rs, hi, List.elem_iff.mp h1, h2, rfl⟩
      · cases hg
  · split at hg
    · cases hg
    · rename_i L xs
      cases h1 : (Nat.beq i m_scr0 && ks.elem 100) with
      | false => rw [h1] at hg; cases hg
      | true =>
        rw [h1, cond_true] at hg
        simp only [Bool.and_eq_true] at h1
        split at hg
        rotate_left
        · cases hg
        · rename_i q hq
          obtain ⟨h2, rfl⟩ := m_ix_some hq
          cases hg
          exact Or.inr ⟨L, xs, rfl, Nat.eq_of_beq_eq_true h1.1, List.elem_iff.mp h1.2, h2, rfl⟩
theorem m_ok_iaload (hF : m_Fx p s m args meth c cc own nm nL D dA ad A B) (hSc : m_Sc s ad A sc) (hdg : decode cc pc = .ok (.iaload, n)) (hk : m_ck own nm nL .iaload n v ds = true) (hr : m_1 sc .iaload v ds lo os h = some (lo', os', h')) (kk : m_W p l e R s m args below meth c Q nL D dA ad A B N0 S0 (pc + n) lo' os' h') : m_W p l e R s m args below meth c Q nL D dA ad A B N0 S0 pc lo os h := by
  obtain ⟨hx, hb, hml, hown, hts, hK, hA, hnm, hB⟩ := hF
  simp only [m_ck, decide_eq_true_eq] at hk
  obtain rfl := hk
  simp only [m_1] at hr
  split at hr
  · rename_i j a os0
    split at hr
    · rename_i w hg
      cases hr
      intro H locs cells slots ls hN
      rcases m_ald_spec hg with ⟨c1, n1, rs, hi, hc, hin, rfl⟩ | ⟨L, xs, hs1, rfl, hc, hin, rfl⟩
      · simp only [List.mem_singleton] at hc
        subst hc
        have he := m_ws_get (dA := dA) (ad := ad) hi
        rw [m_cel_a dA ad (h.2 a) (by omega) (by omega)] at he
        exact va_iald hx hb hK hN.1 a 0 he rfl hin hdg (kk H locs cells slots ls hN)
      · obtain ⟨hX, hbl, hbA, -⟩ := hSc L xs hs1
        exact va_sld hx hb hX hbl hbA hN.2.2.1 hin hdg (kk H locs cells slots ls hN)
    · cases hr
  · cases hr
theorem m_ok_baload (hF : m_Fx p s m args meth c cc own nm nL D dA ad A B) (hdg : decode cc pc = .ok (.baload, n)) (hk : m_ck own nm nL .baload n v ds = true) (hr : m_1 sc .baload v ds lo os h = some (lo', os', h')) (kk : m_W p l e R s m args below meth c Q nL D dA ad A B N0 S0 (pc + n) lo' os' h') : m_W p l e R s m args below meth c Q nL D dA ad A B N0 S0 pc lo os h := by
  obtain ⟨hx, hb, hml, hown, hts, hK, hA, hnm, hB⟩ := hF
  simp only [m_ck, decide_eq_true_eq] at hk
  obtain rfl := hk
  simp only [m_1] at hr
  split at hr
  · rename_i j a os0
    split at hr
    · rename_i w hg
      cases hr
      intro H locs cells slots ls hN
      rcases m_ald_spec hg with ⟨c1, n1, rs, hi, hc, hin, rfl⟩ | ⟨L, xs, hs1, rfl, hc, hin, rfl⟩
      · simp only [List.mem_cons, List.not_mem_nil, or_false] at hc
        have he := m_ws_get (dA := dA) (ad := ad) hi
        rcases hc with rfl | rfl
        · rw [m_cel_a dA ad (h.2 a) (by omega) (by omega)] at he
          exact va_bald hx hb hK hN.1 a 1 he rfl hin hdg (kk H locs cells slots ls hN)
        · rw [m_cel_a dA ad (h.2 a) (by omega) (by omega)] at he
          exact va_zald hx hb hK hN.1 a 2 he rfl hin hdg (kk H locs cells slots ls hN)
      · simp at hc
    · cases hr
  · cases hr
theorem m_ast_spec {ks : List Nat} {i : Nat} {j x : Int32} (hg : m_ast h ks i j x = some h') : ∃ (c n : Nat) (rs : List (Option Nat)), h.1[i]? = some (c, n, rs) ∧ c ∈ ks ∧ vp_in j n ∧ h' = (h.1, m_up h.2 i j.toNatClampNeg (bif Nat.beq c 101 then vp_nar .byte x else bif Nat.beq c 102 then vp_nar .boolean x else x)) := by
  unfold m_ast at hg
  split at hg
  · rename_i c n rs hi
    cases h1 : ks.elem c with
    | false => rw [h1] at hg; cases hg
    | true =>
      rw [h1, cond_true] at hg
      split at hg
      rotate_left
      · cases hg
      · rename_i q hq
        obtain ⟨h2, rfl⟩ := m_ix_some hq
        cases hg
        exact ⟨c, n, rs, hi, List.elem_iff.mp h1, h2, rfl⟩
  · cases hg
/-- a number has been put into row i -/
theorem m_Nw_put {H H1 : Heap} {locs : List Loc} {cells slots : Nat} {ls : Array Slot} {i j ci k : Nat} {rs : List (Option Nat)} {y : Int32} (hi : h.1[i]? = some (ci, k, rs)) (h1 : ¬ ci < 100) (h2 : ci < 104) (hN : m_Nw s nL D dA ad A B N0 S0 lo h H locs cells slots ls) (e1 : H1[ad i]? = some (vp_cell (dA ci) (k, .inl (upd (h.2 i) j y)))) (z : H1.size = H.size) (oq : ∀ q, q ≠ ad i → H1[q]? = H[q]?) : m_Nw s nL D dA ad A B N0 S0 lo (h.1, m_up h.2 i j y) H1 (locs ++ [⟨ad i, j⟩]) cells slots ls := by
  have he := m_ws_get (dA := dA) (ad := ad) hi
  have hP := hN.1.set hN.2.1 he (e := .inl (dA ci, k, .inl (upd (h.2 i) j y))) e1 oq
  have hD := hN.2.1.set he (e := .inl (dA ci, k, .inl (upd (h.2 i) j y)))
  rw [← m_cel_a dA ad _ (rs := rs) h1 h2, m_ws_set _ hi, m_set_self hi, m_row_up] at hP hD
  exact ⟨hP, hD, hN.2.2.1.put z oq (hN.2.1.2 i _ he), by rw [z]; exact hN.2.2.2.1, hN.2.2.2.2.1, hN.2.2.2.2.2.1, hN.2.2.2.2.2.2⟩
theorem m_cellU (cA : ClassId) (k : Nat) (f : Nat → Int32) (j : Nat) (y : Int32) : (arrV cA k (fun q => .int (f q))).setSlot j (.int y) = vp_cell cA (k, .inl (upd f j y)) := by
  rw [vp_cell_i, arrV_store]
  congr 1
  funext q
  by_cases hq : q = j
  · subst hq; simp [updV, upd]
  · simp [updV, upd, hq]
theorem m_ok_iastore (hF : m_Fx p s m args meth c cc own nm nL D dA ad A B) (hdg : decode cc pc = .ok (.iastore, n)) (hk : m_ck own nm nL .iastore n v ds = true) (hr : m_1 sc .iastore v ds lo os h = some (lo', os', h')) (kk : m_W p l e R s m args below meth c Q nL D dA ad A B N0 S0 (pc + n) lo' os' h') : m_W p l e R s m args below meth c Q nL D dA ad A B N0 S0 pc lo os h := by
  obtain ⟨hx, hb, hml, hown, hts, hK, hA, hnm, hB⟩ := hF
  simp only [m_ck, decide_eq_true_eq] at hk
  obtain rfl := hk
  simp only [m_1] at hr
  split at hr
  · rename_i x j a os0
    split at hr
    · rename_i h2 hg
      cases hr
      obtain ⟨ci, k, rs, hi, hc, hin, rfl⟩ := m_ast_spec hg
      simp only [List.mem_singleton] at hc
      subst hc
      intro H locs cells slots ls hN
      have he := m_ws_get (dA := dA) (ad := ad) hi
      rw [m_cel_a dA ad (h.2 a) (by omega) (by omega)] at he
      refine W.iast hx hb (hN.1 a _ he) ((hK.2 0 _ rfl).1 k (fun j => .int (h.2 a j))) (fun q => by cases q) (by show ¬ (j < 0 ∨ (arrV _ _ _).slots.size ≤ _); rw [arrV_size]; exact hin) rfl rfl hdg fun H1 e z oq => ?_
      exact kk H1 _ cells slots ls (m_Nw_put hi (by omega) (by omega) hN (e.trans (congrArg some (m_cellU _ _ _ _ _))) z oq)
    · cases hr
  · cases hr
theorem m_ok_bastore (hF : m_Fx p s m args meth c cc own nm nL D dA ad A B) (hdg : decode cc pc = .ok (.bastore, n)) (hk : m_ck own nm nL .bastore n v ds = true) (hr : m_1 sc .bastore v ds lo os h = some (lo', os', h')) (kk : m_W p l e R s m args below meth c Q nL D dA ad A B N0 S0 (pc + n) lo' os' h') : m_W p l e R s m args below meth c Q nL D dA ad A B N0 S0 pc lo os h := by
  obtain ⟨hx, hb, hml, hown, hts, hK, hA, hnm, hB⟩ := hF
  simp only [m_ck, decide_eq_true_eq] at hk
  obtain rfl := hk
  simp only [m_1] at hr
  split at hr
  · rename_i x j a os0
    split at hr
    · rename_i h2 hg
      cases hr
      obtain ⟨ci, k, rs, hi, hc, hin, rfl⟩ := m_ast_spec hg
      simp only [List.mem_cons, List.not_mem_nil, or_false] at hc
      intro H locs cells slots ls hN
      have he := m_ws_get (dA := dA) (ad := ad) hi
      rcases hc with rfl | rfl
      · rw [m_cel_a dA ad (h.2 a) (by omega) (by omega)] at he
        refine W.bast hx hb (hN.1 a _ he) ((hK.2 1 _ rfl).1 k (fun j => .int (h.2 a j))) (fun q => by cases q) (by show ¬ (j < 0 ∨ (arrV _ _ _).slots.size ≤ _); rw [arrV_size]; exact hin) rfl rfl hdg fun H1 e z oq => ?_
        exact kk H1 _ cells slots ls (m_Nw_put hi (by omega) (by omega) hN (e.trans (congrArg some (m_cellU _ _ _ _ _))) z oq)
      · rw [m_cel_a dA ad (h.2 a) (by omega) (by omega)] at he
        refine W.zast hx hb (hN.1 a _ he) ((hK.2 2 _ rfl).1 k (fun j => .int (h.2 a j))) (fun q => by cases q) (by show ¬ (j < 0 ∨ (arrV _ _ _).slots.size ≤ _); rw [arrV_size]; exact hin) rfl rfl hdg fun H1 e z oq => ?_
        exact kk H1 _ cells slots ls (m_Nw_put hi (by omega) (by omega) hN (e.trans (congrArg some (m_cellU _ _ _ _ _))) z oq)
    · cases hr
  · cases hr
theorem m_aq_spec {i : Nat} {j : Int32} {w : Value} (hg : m_aq h i j = some w) : ∃ (c n : Nat) (rs : List (Option Nat)), h.1[i]? = some (c, n, rs) ∧ (c = 104 ∨ c = 105) ∧ vp_in j n ∧ w = va_rf (m_ri rs j.toNatClampNeg) := by
  unfold m_aq at hg
  split at hg
  · rename_i c n rs hi
    cases h1 : (Nat.beq c 104 || Nat.beq c 105) with
    | false => rw [h1] at hg; cases hg
    | true =>
      rw [h1, cond_true] at hg
      simp only [Bool.or_eq_true] at h1
      split at hg
      rotate_left
      · cases hg
      · rename_i q hq
        obtain ⟨h2, rfl⟩ := m_ix_some hq
        cases hg
        exact ⟨c, n, rs, hi, h1.imp Nat.eq_of_beq_eq_true Nat.eq_of_beq_eq_true, h2, rfl⟩
  · cases hg
theorem m_ok_aaload (hF : m_Fx p s m args meth c cc own nm nL D dA ad A B) (hdg : decode cc pc = .ok (.aaload, n)) (hk : m_ck own nm nL .aaload n v ds = true) (hr : m_1 sc .aaload v ds lo os h = some (lo', os', h')) (kk : m_W p l e R s m args below meth c Q nL D dA ad A B N0 S0 (pc + n) lo' os' h') : m_W p l e R s m args below meth c Q nL D dA ad A B N0 S0 pc lo os h := by
  obtain ⟨hx, hb, hml, hown, hts, hK, hA, hnm, hB⟩ := hF
  simp only [m_ck, decide_eq_true_eq] at hk
  obtain rfl := hk
  simp only [m_1] at hr
  split at hr
  · rename_i j a os0
    split at hr
    · rename_i w hg
      cases hr
      obtain ⟨ci, k, rs, hi, hc, hin, rfl⟩ := m_aq_spec hg
      intro H locs cells slots ls hN
      have he := m_ws_get (dA := dA) (ad := ad) hi
      have hlt : j.toNatClampNeg < k := Nat.not_le.mp fun q => hin (Or.inr q)
      have k2 := kk H locs cells slots ls hN
      rw [List.map_cons, m_v_rf] at k2
      rcases hc with rfl | rfl
      · rw [m_cel_q dA ad (h.2 a) (by omega)] at he
        exact W.aald (v := va_rf ((m_ri rs j.toNatClampNeg).map ad)) (ty := .array .int) hx hb (hN.1 a _ he) ((hK.2 3 _ rfl).1 k (fun j => va_rf ((m_ri rs j).map ad))) rfl (fun q => by cases q) (by show ¬ (j < 0 ∨ (arrV _ _ _).slots.size ≤ _); rw [arrV_size]; exact hin) (by show (arrV _ _ _).slots[_]? = _; rw [arrV_read _ _ hlt]) rfl rfl hdg k2
      · rw [m_cel_q dA ad (h.2 a) (by omega)] at he
        exact W.aald (v := va_rf ((m_ri rs j.toNatClampNeg).map ad)) (ty := .object RX10) hx hb (hN.1 a _ he) ((hK.2 4 _ rfl).1 k (fun j => va_rf ((m_ri rs j).map ad))) rfl (fun q => by cases q) (by show ¬ (j < 0 ∨ (arrV _ _ _).slots.size ≤ _); rw [arrV_size]; exact hin) (by show (arrV _ _ _).slots[_]? = _; rw [arrV_read _ _ hlt]) rfl rfl hdg k2
    · cases hr
  · cases hr
/-- kinds of arrays that a heap of ours can hold -/
theorem m_ok_arraylength (hF : m_Fx p s m args meth c cc own nm nL D dA ad A B) (hSc : m_Sc s ad A sc) (hdg : decode cc pc = .ok (.arraylength, n)) (hk : m_ck own nm nL .arraylength n v ds = true) (hr : m_1 sc .arraylength v ds lo os h = some (lo', os', h')) (kk : m_W p l e R s m args below meth c Q nL D dA ad A B N0 S0 (pc + n) lo' os' h') : m_W p l e R s m args below meth c Q nL D dA ad A B N0 S0 pc lo os h := by
  obtain ⟨hx, hb, hml, hown, hts, hK, hA, hnm, hB⟩ := hF
  simp only [m_ck, decide_eq_true_eq] at hk
  obtain rfl := hk
  simp only [m_1] at hr
  split at hr
  · rename_i a os0
    split at hr
    · rename_i w hg
      cases hr
      intro H locs cells slots ls hN
      unfold m_len at hg
      split at hg
      · rename_i ci k rs hi
        cases h1 : Nat.ble 100 ci && Nat.ble ci 105 && !Nat.beq ci 103 with
        | false => rw [h1] at hg; cases hg
        | true =>
          rw [h1, cond_true] at hg
          cases hg
          simp only [Bool.and_eq_true, Bool.not_eq_true', Nat.ble_eq] at h1
          have hne : ci ≠ 103 := fun q => by subst q; simp at h1
          have he := m_ws_get (dA := dA) (ad := ad) hi
          have hcs : ci = 100 ∨ ci = 101 ∨ ci = 102 ∨ ci = 104 ∨ ci = 105 := by omega
          rcases hcs with rfl | rfl | rfl | rfl | rfl
          · rw [m_cel_a dA ad (h.2 a) (by omega) (by omega)] at he
            exact va_alen hx hb hK hN.1 a 0 he rfl rfl hdg (kk H locs cells slots ls hN)
          · rw [m_cel_a dA ad (h.2 a) (by omega) (by omega)] at he
            exact va_alen hx hb hK hN.1 a 1 he rfl rfl hdg (kk H locs cells slots ls hN)
          · rw [m_cel_a dA ad (h.2 a) (by omega) (by omega)] at he
            exact va_alen hx hb hK hN.1 a 2 he rfl rfl hdg (kk H locs cells slots ls hN)
          · rw [m_cel_q dA ad (h.2 a) (by omega)] at he
            exact va_alen hx hb hK hN.1 a 3 he rfl rfl hdg (kk H locs cells slots ls hN)
          · rw [m_cel_q dA ad (h.2 a) (by omega)] at he
            exact va_alen hx hb hK hN.1 a 4 he rfl rfl hdg (kk H locs cells slots ls hN)
      · split at hg
        · cases hg
        · rename_i L xs
          cases h1 : Nat.beq a m_scr0 with
          | false => rw [h1] at hg; cases hg
          | true =>
            rw [h1, cond_true] at hg
            cases hg
            have := Nat.eq_of_beq_eq_true h1
            subst this
            obtain ⟨hX, hbl, hbA, -⟩ := hSc L xs rfl
            exact va_slen hx hb hX hbl hbA hN.2.2.1 hdg (kk H locs cells slots ls hN)
    · cases hr
  · cases hr
end MH
