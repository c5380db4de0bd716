/-! THE START: from the law's entry to the machine of worlds -/
/-- the answer of the law, by the machine alone -/
def m_LawOk : Prop := ∀ (L : Nat) (xs : Nat → Int32), L ≤ 2560 → ∃ h' : mH, m_ev (some (L, xs)) 2047 268 0 (m_lo 4 [.ref m_scr0]) [] ([], fun _ _ => 0) = some (some (.int 1), h') ∧ h'.1.length ≤ 600000 ∧ m_sz h' ≤ 7302250
theorem m_inst : ∀ (c : Nat) (C : String) (T : u_T) (N : Nat), m_cl[c]? = some (C, T, N) → Cond.instantiable C N ∈ mTT
  | 0, _, _, _, h => by cases h; decide +kernel
  | 1, _, _, _, h => by cases h; decide +kernel
  | 2, _, _, _, h => by cases h; decide +kernel
  | 3, _, _, _, h => by cases h; decide +kernel
  | 4, _, _, _, h => by cases h; decide +kernel
  | 5, _, _, _, h => by cases h; decide +kernel
  | 6, _, _, _, h => by cases h; decide +kernel
  | 7, _, _, _, h => by cases h; decide +kernel
  | 8, _, _, _, h => by cases h; decide +kernel
  | 9, _, _, _, h => by cases h; decide +kernel
  | 10, _, _, _, h => by cases h; decide +kernel
  | 11, _, _, _, h => by cases h; decide +kernel
  | 12, _, _, _, h => by cases h; decide +kernel
  | n + 13, _, _, _, h => by simp [m_cl] at h
/-- classes of objects -/
theorem m_KD {s : State} {args : Array Value} (hts : ∀ w ∈ mTT, w.before args s = true) : ∃ D : va_G, ∀ (c : Nat) (q : vw_C), m_cl[c]? = some q → u_Kn s q.1 q.2.1 q.2.2 (D.1 c) (D.2 c) := by
  have h0 : ∀ c : Nat, ∃ z : ClassId × (Nat → Nat), ∀ q : vw_C, m_cl[c]? = some q → u_Kn s q.1 q.2.1 q.2.2 z.1 z.2 := by
    intro c
    cases hq : m_cl[c]? with
    | none => exact ⟨(0, fun _ => 0), fun q h => by cases h⟩
    | some q =>
      obtain ⟨C, T, N⟩ := q
      obtain ⟨hin, -, -⟩ := m_cl_ok c C T N hq
      obtain ⟨cC, iS, h⟩ := u_known hts hin (hts _ (m_inst c C T N hq))
      exact ⟨(cC, iS), fun q hq2 => by cases hq2; exact h⟩
  obtain ⟨f, hf⟩ := Classical.axiomOfChoice h0
  exact ⟨(fun c => (f c).1, fun c => (f c).2), fun c q hq => hf c q hq⟩
/-- classes of arrays of numbers -/
theorem m_KA {s : State} {args : Array Value} {ty : FieldType} (hp : ∀ C, ty ≠ .object C) (hw : (Cond.arrayClass ty).before args s = true) : ∃ cA : ClassId, ArrOfT s cA ty ∧ va_RA s cA ty := by
  obtain ⟨c, k, comp, h1, h2, h3⟩ := Cond.arrayClass_spec hw
  refine ⟨c, fun n z => ⟨fun k h => (by cases h), k, h2, comp, h3⟩, ?_⟩
  cases ty <;> first | exact absurd rfl (hp _) | exact h1
theorem m_KO {s : State} (h : va_AO RX10 s) : ∃ cA : ClassId, ArrOfT s cA (.object RX10) ∧ va_RA s cA (.object RX10) := by
  obtain ⟨comp, c, k, h1, h2, h3, h4, h5⟩ := Cond.arrayOver_spec h
  exact ⟨c, fun n z => ⟨fun k h => (by cases h), k, h3, comp, h4⟩, k, comp, h3, h4, h1, h5⟩
theorem m_KAA {s : State} (h : m_AOA s) : ∃ cA : ClassId, ArrOfT s cA (.array .int) ∧ va_RA s cA (.array .int) := by
  unfold m_AOA Cond.before Cond.holds at h
  simp only [Cond.value, beq_iff_eq] at h
  rw [Option.bind_eq_some_iff] at h
  obtain ⟨comp, h1, h⟩ := h
  rw [Option.bind_eq_some_iff] at h
  obtain ⟨c, h2, h⟩ := h
  rw [Option.map_eq_some_iff] at h
  obtain ⟨k, h3, h4⟩ := h
  cases hk : k.kind with
  | array cm ty =>
    rw [hk] at h4
    simp only [Bool.and_eq_true, decide_eq_true_eq] at h4
    refine ⟨c, fun n z => ⟨fun k h => (by cases h), k, h3, cm, ?_⟩, h4.2⟩
    rw [hk, h4.1]
  | _ => rw [hk] at h4; simp at h4
theorem m_texts {s : State} {b : Nat} (hgv : (Jvm.Cond.and given_1 narrow_1).before #[Value.ref b] s = true) : ∃ adK adV : Nat → Nat, vk_S 6 m_tln m_txt adK adV (fun q => s.heap.size ≤ q) s s.heap ∧ ∀ i : Nat, i < 6 → (Term.string RX6 ((m_sk.map (·.1)).getD i 0)).eval #[Value.ref b] s none [] s = some (.ref (adK i)) := by
  have hs := flat_of_before _ hgv
  refine vk_Sof (args := #[Value.ref b]) (s := s) (A := fun q => s.heap.size ≤ q) (N := 6) (len := m_tln) (byt := m_txt) (tm := fun i => Term.string RX6 ((m_sk.map (·.1)).getD i 0)) (by decide +kernel) ?_ ?_ ?_ ?_ ?_ ?_ (fun a h1 h2 => by omega)
  · exact fun i hi => hs _ ((show ∀ i, i < 6 → Cond.exactly (Term.string RX6 ((m_sk.map (·.1)).getD i 0)) "java/lang/String" ∈ flatC (Jvm.Cond.and given_1 narrow_1) by decide +kernel) i hi)
  · exact fun i hi => hs _ ((show ∀ i, i < 6 → Cond.eq (.field (Term.string RX6 ((m_sk.map (·.1)).getD i 0)) "java/lang/String" "coder" "B") (.int 0) ∈ flatC (Jvm.Cond.and given_1 narrow_1) by decide +kernel) i hi)
  · exact fun i hi => hs _ ((show ∀ i, i < 6 → Cond.arrayOf (.field (Term.string RX6 ((m_sk.map (·.1)).getD i 0)) "java/lang/String" "value" "[B") .byte ∈ flatC (Jvm.Cond.and given_1 narrow_1) by decide +kernel) i hi)
  · exact fun i hi => hs _ ((show ∀ i, i < 6 → Cond.eq (.length (.field (Term.string RX6 ((m_sk.map (·.1)).getD i 0)) "java/lang/String" "value" "[B")) (.int (Int32.ofNat (m_tln.getD i 0))) ∈ flatC (Jvm.Cond.and given_1 narrow_1) by decide +kernel) i hi)
  · exact fun i hi j hj => hs _ ((show ∀ i, i < 6 → ∀ j, j < m_tln.getD i 0 → Cond.eq (.elem (.field (Term.string RX6 ((m_sk.map (·.1)).getD i 0)) "java/lang/String" "value" "[B") (.int (Int32.ofNat j))) (.int ((m_txt.getD i []).getD j 0)) ∈ flatC (Jvm.Cond.and given_1 narrow_1) by decide +kernel) i hi j hj)
  · intro i j hi hj hij
    have h := (show ∀ i, i < 6 → ∀ j, j < 6 → i ≠ j → Cond.not (Cond.eq (Term.string RX6 ((m_sk.map (·.1)).getD i 0)) (Term.string RX6 ((m_sk.map (·.1)).getD j 0))) ∈ flatC (Jvm.Cond.and given_1 narrow_1) ∨ Cond.not (Cond.eq (Term.string RX6 ((m_sk.map (·.1)).getD j 0)) (Term.string RX6 ((m_sk.map (·.1)).getD i 0))) ∈ flatC (Jvm.Cond.and given_1 narrow_1) by decide +kernel) i hi j hj hij
    exact h.imp (fun h => hs _ h) (fun h => hs _ h)
theorem m_law_np : ((mBl 268).all fun e => m_noPut e.2) = true := by decide +kernel
/-- from the entry, for every script of at most 2560 ints, the law comes to its end with true -/
theorem m_start (hLaw : m_LawOk) (hck : ∀ k, k < 269 → m_ckM k = true) {p : Program} {e : Env} {s : State} {m : MethodId} {below : List Frame} {meth : Method} {c : Code} (l : Launch) (hflags : l.flags = flags0) {b L : Nat} {xs : Nat → Int32} (hL : L ≤ 2560) (C0 : lw_At p s m meth c b L xs) : W p l e room_1 s m #[Value.ref b] below meth c s.heap [] 0 0 (lw_Z below #[Value.ref b] s) (entryFrame m ([Value.ref b] : List Value).toArray 4) := by
  obtain ⟨hx, hb, hr, hml, hown, hts, hX, hbl, hlocks, hgv⟩ := C0
  have htT : ∀ w ∈ mTT, w.before #[Value.ref b] s = true := fun w hw => hts w (List.mem_filter.mp hw).1
  have htN : ∀ w : Jvm.Cond, w ∈ lw_tbl → w.onTables = true → va_Nw w s := fun w hw ho => va_Nw.of ho (hts w hw)
  have hs := flat_of_before _ hgv
  obtain ⟨D, hD⟩ := m_KD htT
  have hAO : va_AO RX10 s := va_AO.of (hts (.arrayOver (.object RX10)) (by decide +kernel))
  have hAOA : m_AOA s := hts (.arrayOver (.array .int)) (by decide +kernel)
  obtain ⟨c0, a0⟩ := m_KA (ty := .int) (fun _ h => by cases h) (hts (.arrayClass .int) (by decide +kernel))
  obtain ⟨c1, a1⟩ := m_KA (ty := .byte) (fun _ h => by cases h) (hts (.arrayClass .byte) (by decide +kernel))
  obtain ⟨c2, a2⟩ := m_KA (ty := .boolean) (fun _ h => by cases h) (hts (.arrayClass .boolean) (by decide +kernel))
  obtain ⟨c4, a4⟩ := m_KAA hAOA
  obtain ⟨c5, a5⟩ := m_KO hAO
  obtain ⟨adK, adV, hTS, hTE⟩ := m_texts hgv
  obtain ⟨dA, d0, d1, d2, d4, d5⟩ : ∃ dA : Nat → ClassId, dA 100 = c0 ∧ dA 101 = c1 ∧ dA 102 = c2 ∧ dA 104 = c4 ∧ dA 105 = c5 := ⟨fun i => if i = 100 then c0 else if i = 101 then c1 else if i = 102 then c2 else if i = 104 then c4 else c5, rfl, rfl, rfl, rfl, rfl⟩
  obtain ⟨ad, e1, e2, e3⟩ : ∃ ad : Nat → Nat, (∀ i, i < m_str0 → ad i = s.heap.size + i) ∧ (∀ j, j < 6 → ad (m_str0 + j) = adK j) ∧ ad m_scr0 = b := by
    refine ⟨fun i => if i < m_str0 then s.heap.size + i else if i < m_scr0 then adK (i - m_str0) else b, fun i hi => by simp [hi], fun j hj => ?_, by simp [m_scr0, m_str0]⟩
    have h1 : ¬ m_str0 + j < m_str0 := by omega
    have h2 : m_str0 + j < m_scr0 := by unfold m_str0 m_scr0; omega
    simp [h1, h2]
  have hK : va_K D m_cl (m_tys dA) s := by
    refine ⟨hD, fun k q hq => ?_⟩
    match k, hq with
    | 0, hq => cases hq; rw [d0]; exact a0
    | 1, hq => cases hq; rw [d1]; exact a1
    | 2, hq => cases hq; rw [d2]; exact a2
    | 3, hq => cases hq; rw [d4]; exact a4
    | 4, hq => cases hq; rw [d5]; exact a5
    | k + 5, hq => simp [m_tys] at hq
  have hE : m_Ex s := ⟨hAO, hAOA, fun C hC => htN _ ((show ∀ C ∈ [RX1, RX2, RX3, RX4, RX7], Cond.castable C RX10 ∈ lw_tbl by decide +kernel) C hC) rfl, fun q hq => htN _ ((show ∀ q ∈ m_nest, Cond.methodLinkNest q.1 q.2.1 q.2.2.1 q.2.2.2 ∈ lw_tbl by decide +kernel) q hq) rfl⟩
  have hnA : ∀ a : Nat, a < s.heap.size → ¬ (fun q : Nat => s.heap.size ≤ q) a := fun a h1 h2 => by omega
  have hTx : m_Tx s ad := by
    intro j q hq
    have hj : j < 6 := (List.getElem?_eq_some_iff.mp hq).1
    rw [e2 j hj]
    have h3 := hTE j hj
    have h4 : (m_sk.map (·.1)).getD j 0 = q.1 := by
      rw [List.getD_eq_getElem?_getD, List.getElem?_map, hq]; rfl
    rw [h4] at h3
    refine vk_R.of (hts (.stringRef RX6 q.1 q.2) ?_) h3
    exact (show ∀ q ∈ m_sk, Cond.stringRef RX6 q.1 q.2 ∈ lw_tbl by decide +kernel) q (List.mem_of_getElem? hq)
  have hTX : m_TX ad (fun q => s.heap.size ≤ q) s s.heap := by
    refine ⟨hTx, ⟨adV, ?_⟩, va_Zof (hts (.laysStatic "java/lang/String" "COMPACT_STRINGS" "Z") (by decide +kernel)) (hts (.initialized "java/lang/String") (by decide +kernel)) (va_eqi (hs _ (by decide +kernel))) hnA, ?_⟩
    · obtain ⟨g1, g2⟩ := hTS
      exact ⟨fun i hi => by have := g1 i hi; rw [← e2 i hi] at this; exact this, fun i j hi hj h => g2 i j hi hj (by have h : ad (m_str0 + i) = ad (m_str0 + j) := h; rw [e2 i hi, e2 j hj] at h; exact h)⟩
    · obtain ⟨v, hv, hvr⟩ := Cond.isRef_spec (hs (Cond.isRef (Term.static "jdk/internal/util/Preconditions" "SIOOBE_FORMATTER" "Ljava/util/function/BiFunction;")) (by decide +kernel))
      exact ⟨v, by cases v <;> first | rfl | exact Bool.noConfusion hvr, va_Zof (hts (.laysStatic "jdk/internal/util/Preconditions" "SIOOBE_FORMATTER" "Ljava/util/function/BiFunction;") (by decide +kernel)) (hts (.initialized "jdk/internal/util/Preconditions") (by decide +kernel)) hv hnA⟩
  have hF : m_Fx p s m #[Value.ref b] meth c code (m_y 268).cls meth.name 4 D dA ad (fun q => s.heap.size ≤ q) s.heap.size := ⟨hx, hb, hml, hown, htT, hK, fun _ h => h, rfl, e1⟩
  have hlw : ((mBl 268).all fun e => m_ckB (m_y 268).cls (m_y 268).name 4 (m_rt 268) code e.2 e.1) = true := by
    have h9 := hck 268 (Nat.lt_succ_self _)
    simp only [m_ckM, Bool.and_eq_true] at h9
    exact h9.2
  obtain ⟨h', hrun, hl1, hl2⟩ := hLaw L xs hL
  obtain ⟨f, hf⟩ := m_ev_run hrun
  have hEnt := m_LS.entry ad [.ref m_scr0] (n := 4) (Nat.le_of_ble_eq_true rfl)
  have hvv : ([.ref m_scr0] : List Value).map (m_v ad) = [.ref b] := by
    show [Value.ref (ad m_scr0)] = _
    rw [e3]
  rw [hvv] at hEnt
  rw [lg_entry_eq]
  have hall := m_all (fun k hk => hck k (Nat.lt_succ_of_lt hk)) l D dA ad s.heap.size e1
  refine m_go (N0 := 0) (S0 := 0) (R := room_1) hE hTX (sc := some (L, xs)) (fun L' xs' q => by cases q; rw [e3]; exact ⟨hX, hbl, hnA b hbl, by omega⟩) (d := 2047) ⟨Nat.le_of_ble_eq_true rfl, Nat.le_of_ble_eq_true rfl⟩ (nL := 4) (cc := code) (own := (m_y 268).cls) (nm := meth.name) (fun pc => m_ckB_nm (nm := (m_y 268).name) _ _ (m_look_np pc _ m_law_np) (m_look_ck _ _ _ _ _ pc _ hlw)) hF (r := some (.int 1)) (h' := h') ⟨by show h'.1.length ≤ 0 + 600000; omega, by show m_sz h' ≤ 0 + 7302250; omega, Nat.le_trans hl1 (Nat.le_of_ble_eq_true rfl)⟩ ?_ f (fun g _ => hall g) 0 (m_lo 4 [.ref m_scr0]) [] _ hf s.heap [] 0 0 _ ⟨fun k q h => by simp [m_ws] at h, ⟨fun i j p q h => by simp [m_ws] at h, fun k q h => by simp [m_ws] at h⟩, va_S.rf, rfl, rfl, rfl, hEnt⟩
  intro i pc' lo' hd ho H locs cells slots ls hN
  rcases ho with ⟨rfl, hr1, x, hq⟩ | ⟨rfl, hr1, x, hq, -⟩ | ⟨rfl, hr1, x, hq⟩ | ⟨rfl, hr1, hq⟩
  · cases hq
    have g1 := hN.2.2.2.2.1
    have g2 := hN.2.2.2.2.2.1
    exact va_forget (fun q hq => hN.2.2.1.2.2 q hq) (W.widen (by omega) (by omega) (lw_ret hx hb hr hlocks hd))
  · cases hq
    have g1 := hN.2.2.2.2.1
    have g2 := hN.2.2.2.2.2.1
    exact va_forget (fun q hq => hN.2.2.1.2.2 q hq) (W.widen (by omega) (by omega) (lw_ret hx hb hr hlocks hd))
  · cases hq
  · cases hq
