/-! METHODS: what a run says is what the JVM does -/
/-- what a program decides of a method -/
def m_ckM (k : Nat) : Bool := plainName (m_y k).cls && (mBl k).all fun e => m_ckB (m_y k).cls (m_y k).name (m_mx k) (m_rt k) (m_by k) e.2 e.1
theorem m_look_ck (own nm : String) (nL : Nat) (rt : Option FieldType) (cc : ByteArray) (pc : Nat) : ∀ l : List (Nat × List mO), (l.all fun e => m_ckB own nm nL rt cc e.2 e.1) = true → m_ckB own nm nL rt cc (m_look pc l) pc = true
  | [], _ => rfl
  | (h, b) :: r, hl => by
    simp only [List.all_cons, Bool.and_eq_true] at hl
    unfold m_look
    cases hb : Nat.beq h pc with
    | true => rw [cond_true, ← Nat.eq_of_beq_eq_true hb]; exact hl.1
    | false => rw [cond_false]; exact m_look_ck own nm nL rt cc pc r hl.2
def m_noPut (ops : List mO) : Bool := ops.all fun q => match q.1 with
  | .putfield _ => false
  | _ => true
theorem m_ckO_nm {own nm nm' : String} {nL : Nat} {rt : Option FieldType} {pc : Nat} {i : Instr} {n : Nat} {v : Int32 × Int64} {ds : List (List Nat)} (hi : ∀ z, i ≠ .putfield z) : m_ckO own nm nL rt pc i n v ds = m_ckO own nm' nL rt pc i n v ds := by
  cases i
  case putfield z => exact absurd rfl (hi z)
  all_goals rfl
theorem m_ckB_nm {own nm nm' : String} {nL : Nat} {rt : Option FieldType} {cc : ByteArray} : ∀ (ops : List mO) (pc : Nat), m_noPut ops = true → m_ckB own nm nL rt cc ops pc = true → m_ckB own nm' nL rt cc ops pc = true
  | [], pc, _, _ => rfl
  | (i, n, v, ds) :: r, pc, hn, h => by
    simp only [m_noPut, List.all_cons, Bool.and_eq_true] at hn
    simp only [m_ckB, Bool.and_eq_true] at h ⊢
    refine ⟨⟨h.1.1, ?_⟩, m_ckB_nm r _ hn.2 h.2⟩
    rw [m_ckO_nm (nm' := nm) (fun z hz => by rw [hz] at hn; exact Bool.noConfusion hn.1)]
    exact h.1.2
theorem m_look_np (pc : Nat) : ∀ l : List (Nat × List mO), (l.all fun e => m_noPut e.2) = true → m_noPut (m_look pc l) = true
  | [], _ => rfl
  | (h, b) :: r, hl => by
    simp only [List.all_cons, Bool.and_eq_true] at hl
    unfold m_look
    cases hb : Nat.beq h pc with
    | true => exact hl.1
    | false => rw [cond_false]; exact m_look_np pc r hl.2
/-- the answers of the methods that a run calls -/
def m_cal (f d : Nat) : mK := fun k' as h' => match d with
  | 0 => none
  | d' + 1 => bif Nat.ble 900 k' then (bif Nat.ble 4 d' then m_bi k' as h' else none) else bif Nat.blt k' 268 && Nat.ble (m_lay as).length (mX k') then m_run mP mX f none d' k' 0 (m_lo (mX k') as) [] h' else none
theorem m_run_s (f : Nat) (sc : mS) (d k pc : Nat) (lo : mL) (os : List Value) (h : mH) : m_run mP mX (f + 1) sc d k pc lo os h = match m_B sc (m_cal f d) (mP k pc) pc lo os h with
    | some (.inl r) => bif m_isN r.1 then some r else none
    | some (.inr (pc', lo', os', h')) => m_run mP mX f sc d k pc' lo' os' h'
    | none => none := rfl
theorem m_isN_nr {r : Option Value} (h : m_isN r = true) : m_nr r := by
  intro ad
  unfold m_isN at h
  split at h
  · rfl
  · rfl
  · rfl
  · cases h
theorem m_bi_same {k : Nat} {as : List Value} {h h' : mH} {r : Option Value} (hr : m_bi k as h = some (r, h')) : h' = h ∧ m_nr r := by
  unfold m_bi at hr
  cases h9 : Nat.beq k 900 with
  | true =>
    rw [h9, cond_true] at hr
    split at hr
    · rename_i a
      cases hb : Nat.ble m_str0 a with
      | false => rw [hb, cond_false] at hr; cases hr
      | true =>
        rw [hb, cond_true] at hr
        split at hr
        · cases hr; exact ⟨rfl, m_isN_nr rfl⟩
        · cases hr
    · cases hr
  | false =>
    rw [h9, cond_false] at hr
    cases h8 : Nat.beq k 901 with
    | false => rw [h8, cond_false] at hr; cases hr
    | true =>
      rw [h8, cond_true] at hr
      split at hr
      · rename_i a j
        cases hb : Nat.ble m_str0 a with
        | false => rw [hb, cond_false] at hr; cases hr
        | true =>
          rw [hb, cond_true] at hr
          split at hr
          · split at hr
            · cases hr
            · cases hr; exact ⟨rfl, m_isN_nr rfl⟩
          · cases hr
      · cases hr
theorem m_run_le : ∀ (f : Nat) (sc : mS) (d k pc : Nat) (lo : mL) (os : List Value) (h : mH) (r : Option Value) (h' : mH), m_run mP mX f sc d k pc lo os h = some (r, h') → m_le h h' ∧ m_nr r
  | 0, sc, d, k, pc, lo, os, h, r, h', hr => by cases hr
  | f + 1, sc, d, k, pc, lo, os, h, r, h', hr => by
    have hM : m_calM (m_cal f d) := by
      intro k' as h1 w h2 hq
      unfold m_cal at hq
      split at hq
      · cases hq
      · rename_i d'
        cases hb : Nat.ble 900 k' with
        | true =>
          rw [hb, cond_true] at hq
          cases h4 : Nat.ble 4 d' with
          | false => rw [h4, cond_false] at hq; cases hq
          | true => rw [h4, cond_true] at hq; rw [(m_bi_same hq).1]; exact m_le.rf
        | false =>
          rw [hb, cond_false] at hq
          cases h5 : (Nat.blt k' 268 && Nat.ble (m_lay as).length (mX k')) with
          | false => rw [h5, cond_false] at hq; cases hq
          | true => rw [h5, cond_true] at hq; exact (m_run_le f _ _ _ _ _ _ _ _ _ hq).1
    rw [m_run_s] at hr
    split at hr
    · rename_i r1 hB
      cases hn : m_isN r1.1 with
      | false => rw [hn, cond_false] at hr; cases hr
      | true =>
        rw [hn, cond_true] at hr
        cases hr
        exact ⟨m_B_le hM _ _ _ _ _ _ hB, m_isN_nr hn⟩
    · rename_i pc' lo' os' h1 hB
      obtain ⟨g1, g2⟩ := m_run_le f _ _ _ _ _ _ _ _ _ hr
      exact ⟨(m_B_le hM _ _ _ _ _ _ hB).tr g1, g2⟩
    · cases hr
/-- the contracts of all methods, as far as so much time shows -/
def m_All (l : Launch) (D : va_G) (dA : Nat → ClassId) (ad : Nat → Nat) (B f : Nat) : Prop := ∀ (d k : Nat) (as : List Value) (h : mH) (r : Option Value) (h' : mH), m_run mP mX f none d k 0 (m_lo (mX k) as) [] h = some (r, h') → k < 268 → (m_lay as).length ≤ mX k → h'.1.length ≤ m_str0 → m_Met l D dA ad B d k as h r h'
theorem m_cal_ok {l : Launch} {D : va_G} {dA : Nat → ClassId} {ad : Nat → Nat} {B f d : Nat} (hAll : m_All l D dA ad B f) : m_Cal l D dA ad B (m_cal f d) d := by
  intro k as h w h' hq
  unfold m_cal at hq
  split at hq
  · cases hq
  · rename_i d'
    cases hb : Nat.ble 900 k with
    | true =>
      rw [hb, cond_true] at hq
      cases h4 : Nat.ble 4 d' with
      | false => rw [h4, cond_false] at hq; cases hq
      | true =>
        rw [h4, cond_true] at hq
        obtain ⟨e1, e2⟩ := m_bi_same hq
        refine ⟨by rw [e1]; exact m_le.rf, e2, fun _ => ⟨4, by have := Nat.le_of_ble_eq_true h4; omega, m_bi_met l D dA ad B hq⟩⟩
    | false =>
      rw [hb, cond_false] at hq
      cases h5 : (Nat.blt k 268 && Nat.ble (m_lay as).length (mX k)) with
      | false => rw [h5, cond_false] at hq; cases hq
      | true =>
        rw [h5, cond_true] at hq
        obtain ⟨g1, g2⟩ := m_run_le _ _ _ _ _ _ _ _ _ _ hq
        simp only [Bool.and_eq_true] at h5
        exact ⟨g1, g2, fun hl => ⟨d', Nat.lt_succ_self _, hAll d' k as h w h' hq (Nat.blt_eq.mp h5.1) (Nat.le_of_ble_eq_true h5.2) hl⟩⟩
section MM2
variable {p : Program} {l : Launch} {e : Env} {R : Room} {s : State} {m : MethodId} {args : Array Value} {below : List Frame} {meth : Method} {c : Code} {Q : State → Prop} {D : va_G} {dA : Nat → ClassId} {ad : Nat → Nat} {A : Nat → Prop} {B N0 S0 : Nat}
/-- a frame, from the block that begins at pc to its method's end -/
theorem m_go (hE : m_Ex s) (hT : m_TX ad A s s.heap) {sc : mS} (hSc : m_Sc s ad A sc) {d k : Nat} (hDp : m_Dp R d) {nL : Nat} {cc : ByteArray} {own nm : String} (hckp : ∀ pc, m_ckB own nm nL (m_rt k) cc (mP k pc) pc = true) (hF : m_Fx p s m args meth c cc own nm nL D dA ad A B) {r : Option Value} {h' : mH} (hRm : m_Rm R N0 S0 h')
    (kend : ∀ (i : Instr) (pc' : Nat) (lo' : mL), decode cc pc' = .ok (i, 1) → m_rok (m_rt k) i r → m_W p l e R s m args below meth c Q nL D dA ad A B N0 S0 pc' lo' r.toList h') :
    ∀ (f : Nat), (∀ g, g < f → m_All l D dA ad B g) → ∀ (pc : Nat) (lo : mL) (os : List Value) (h : mH), m_run mP mX f sc d k pc lo os h = some (r, h') → m_W p l e R s m args below meth c Q nL D dA ad A B N0 S0 pc lo os h
  | 0, _, pc, lo, os, h, hr => by cases hr
  | f + 1, hAll, pc, lo, os, h, hr => by
    have hcal := m_cal_ok (d := d) (hAll f (Nat.lt_succ_self f))
    have hM : m_calM (m_cal f d) := fun k as h w h' hq => (hcal k as h w h' hq).1
    rw [m_run_s] at hr
    split at hr
    · rename_i r1 hB
      cases hn : m_isN r1.1 with
      | false => rw [hn, cond_false] at hr; cases hr
      | true =>
        rw [hn, cond_true] at hr
        cases hr
        exact m_B_ok hF hSc hE hT hDp hcal _ pc lo os h _ (hckp pc) hB hRm (fun r2 h2 hq i pc' lo' hd ho => by cases hq; exact kend i pc' lo' hd ho) (fun _ _ _ _ hq => by cases hq)
    · rename_i pc' lo' os' h1 hB
      exact m_B_ok hF hSc hE hT hDp hcal _ pc lo os h _ (hckp pc) hB (m_Rm_le (m_run_le _ _ _ _ _ _ _ _ _ _ hr).1 hRm) (fun _ _ hq => by cases hq) (fun pc2 lo2 os2 h2 hq => by
        cases hq
        exact m_go hE hT hSc hDp hckp hF hRm kend f (fun g hg => hAll g (Nat.lt_succ_of_lt hg)) _ _ _ _ hr)
    · cases hr
end MM2
theorem m_X_eq : ∀ k, k < 268 → mX k = m_mx k := by decide +kernel
/-- every method by its contract -/
theorem m_all (hck : ∀ k, k < 268 → m_ckM k = true) (l : Launch) (D : va_G) (dA : Nat → ClassId) (ad : Nat → Nat) (B : Nat) (hB : ∀ i, i < m_str0 → ad i = B + i) : ∀ f : Nat, m_All l D dA ad B f := by
  intro f
  induction f using Nat.strongRecOn with
  | ind f ih =>
  intro d k as h r h' hr hk hly hlen
  have hmk := hck k hk
  have hmk2 : ((mBl k).all fun e => m_ckB (m_y k).cls (m_y k).name (m_mx k) (m_rt k) (m_by k) e.2 e.1) = true := by
    simp only [m_ckM, Bool.and_eq_true] at hmk
    exact hmk.2
  obtain ⟨hle, hnr⟩ := m_run_le _ _ _ _ _ _ _ _ _ _ hr
  refine Met.ofW (cc := m_by k) (maxL := m_mx k) (ret := m_rt k) (by simp only [m_ckM, Bool.and_eq_true] at hmk; exact hmk.1) rfl ?_
  intro p e s m args below meth c s₁ Bd hml hv
  obtain ⟨rfl, hsz, hP, hK, hD0, hE, hT⟩ := hv
  have hx := Bd.exec
  have hb := Bd.bytes
  have hrt := Bd.returns
  have hlocks := Bd.notSynchronized
  have hts : ∀ w ∈ mTT, w.before (as.map (m_v ad)).toArray s = true := fun w hw => atoms_spec (ws := m_mws k) Bd.pre w (List.mem_cons_of_mem _ hw)
  have hown : s.vm.findClass (m_y k).cls = some m.cls := findClass_of_methodNamed Bd.named
  have hnm : meth.name = (m_y k).name := (name_of_methodNamed Bd.named Bd.method).1
  have hA : ∀ q, s.heap.size ≤ q → m_Fr dA ad B h q := fun q hq => Or.inr (by rw [hsz] at hq; exact hq)
  have hF : m_Fx p s m (as.map (m_v ad)).toArray meth c (m_by k) (m_y k).cls (m_y k).name (m_mx k) D dA ad (m_Fr dA ad B h) B := ⟨hx, hb, hml, hown, hts, hK, hA, hnm, hB⟩
  rw [lg_entry_eq]
  have hmx := m_X_eq k hk
  rw [hmx] at hly
  · refine m_go (N0 := h.1.length) (S0 := m_sz h) (R := m_rm d (h'.1.length - h.1.length) (m_sz h' - m_sz h)) hE hT (sc := none) (fun _ _ q => by cases q) (d := d) ⟨Nat.le_refl _, Nat.le_refl _⟩ (fun pc => m_look_ck _ _ _ _ _ pc _ hmk2) hF (r := r) (h' := h') ⟨?_, ?_, hlen⟩ ?_ f (fun g hg => ih g hg) 0 (m_lo (mX k) as) [] h hr s.heap [] 0 0 _ ⟨hP, hD0.self, va_S.rf, hsz, Nat.zero_add _, Nat.zero_add _, by rw [hmx]; exact m_LS.entry ad as hly⟩
    · have := hle.1
      show h'.1.length ≤ h.1.length + (h'.1.length - h.1.length)
      omega
    · have := hle.2
      show m_sz h' ≤ m_sz h + (m_sz h' - m_sz h)
      omega
    · intro i pc' lo' hd ho H locs cells slots ls hN
      obtain ⟨gP, gD, gS, gZ, gC, gL, gl⟩ := hN
      have ec : h'.1.length - h.1.length = cells := by omega
      have es : m_sz h' - m_sz h = slots := by omega
      rw [ec, es]
      have hq : ∀ (r' : Option Value) (t : State), r' = r → t.heap = H → s.WarmedH t.vm → m_Q D dA ad B h r h' (as.map (m_v ad)).toArray s (.returned r') t := fun r' t hr' ht hW => ⟨⟨by rw [hr'], by rw [ht]; exact gZ, by rw [ht]; exact gP, gD⟩, gS.F ht⟩
      rcases ho with ⟨rfl, hr1, x, rfl⟩ | ⟨rfl, hr1, x, rfl, hx01⟩ | ⟨rfl, hr1, x, rfl⟩ | ⟨rfl, hr1, rfl⟩
      · exact W.iret hx hb (hrt.trans hr1) (fun t ht hW => hq _ t rfl ht hW) gS.2.2 hd hlocks
      · exact W.zret (ty := .boolean) hx hb (hrt.trans hr1) (by rcases hx01 with rfl | rfl <;> decide +kernel) (fun t ht hW => hq _ t rfl ht hW) gS.2.2 hd hlocks
      · exact W.lret hx hb (hrt.trans hr1) (fun t ht hW => hq _ t rfl ht hW) gS.2.2 hd hlocks
      · exact W.vret hx hb (hrt.trans hr1) (fun t ht hW => hq _ t rfl ht hW) gS.2.2 hd hlocks
