/-! CALLS: what a method's contract is, over the whole world; how a call runs by it -/
def m_mt (k : Nat) : MethodName × ByteArray × Nat × Option FieldType × Nat × Nat := bif Nat.ble 900 k then (mJt[k - 900]?).getD (yL_law, cL_law, 4, ret, 0, 0) else (mMt[k]?).getD (yL_law, cL_law, 4, ret, 0, 0)
abbrev m_y (k : Nat) : MethodName := (m_mt k).1
abbrev m_by (k : Nat) : ByteArray := (m_mt k).2.1
abbrev m_mx (k : Nat) : Nat := (m_mt k).2.2.1
abbrev m_rt (k : Nat) : Option FieldType := (m_mt k).2.2.2.1
def m_mws (k : Nat) : List Jvm.Cond := Cond.code (m_y k) (m_by k) (m_mx k) (m_rt k) :: mTT
def m_okk (k : Nat) : Bool := m_w (m_mt k).2.2.2.2.1 (.code (m_y k) (m_by k) (m_mx k) (m_rt k)) && m_w (m_mt k).2.2.2.2.2 (.initialized (m_y k).cls) && decide ((m_y k).cls ≠ "java/lang/invoke/MethodHandle") && decide ((m_y k).cls ≠ "java/lang/invoke/VarHandle") && Nat.ble (m_mx k) 21
def m_na (y : MethodName) (n : Nat) : Bool := decide ((parseMethodDescriptor y.desc).map (fun d => d.parameters.length) = some n)
def m_tln : List Nat := m_txt.map List.length
/-- the text constants and the statics that their methods read -/
def m_TX (ad : Nat → Nat) (A : Nat → Prop) (U : State) (H : Heap) : Prop := m_Tx U ad ∧ (∃ adV : Nat → Nat, vk_S 6 m_tln m_txt (fun j => ad (m_str0 + j)) adV A U H) ∧ va_Z "java/lang/String" "COMPACT_STRINGS" "Z" (.int 1) A U H ∧ ∃ v : Value, v.category = 1 ∧ va_Z "jdk/internal/util/Preconditions" "SIOOBE_FORMATTER" "Ljava/util/function/BiFunction;" v A U H
def m_Fr (dA : Nat → ClassId) (ad : Nat → Nat) (B : Nat) (h : mH) : Nat → Prop := va_A (m_ws dA ad h) (B + h.1.length)
def m_Pre (D : va_G) (dA : Nat → ClassId) (ad : Nat → Nat) (B : Nat) (h : mH) (U : State) : Prop :=
  U.heap.size = B + h.1.length ∧ va_P D m_cl (m_ws dA ad h) U.heap ∧ va_K D m_cl (m_tys dA) U ∧ va_D (fun _ => True) (m_ws dA ad h) ∧ m_Ex U ∧ m_TX ad (m_Fr dA ad B h) U U.heap
def m_Q (D : va_G) (dA : Nat → ClassId) (ad : Nat → Nat) (B : Nat) (h : mH) (r : Option Value) (h' : mH) : Array Value → State → Outcome → State → Prop := fun _ st oc t =>
  (oc = .returned r ∧ t.heap.size = B + h'.1.length ∧ va_P D m_cl (m_ws dA ad h') t.heap ∧ va_D (m_Fr dA ad B h) (m_ws dA ad h')) ∧ va_F (m_Fr dA ad B h) st t
def m_rm (d mc ms : Nat) : Room := { frames := d + 1, cells := mc, slots := ms, locals := 40 * (d + 1) }
def m_Met (l : Launch) (D : va_G) (dA : Nat → ClassId) (ad : Nat → Nat) (B d k : Nat) (as : List Value) (h : mH) (r : Option Value) (h' : mH) : Prop :=
  Met l (m_y k) (m_mws k) (m_rm d (h'.1.length - h.1.length) (m_sz h' - m_sz h)) (va_Pc (as.map (m_v ad)) (m_Pre D dA ad B h)) (m_Q D dA ad B h r h') (h'.1.length - h.1.length) (m_sz h' - m_sz h) (m_Fr dA ad B h)
def m_nr (r : Option Value) : Prop := ∀ ad : Nat → Nat, r.toList.map (m_v ad) = r.toList
/-- what is known of the methods that a frame calls, at most so deep -/
def m_Cal (l : Launch) (D : va_G) (dA : Nat → ClassId) (ad : Nat → Nat) (B : Nat) (cal : mK) (d : Nat) : Prop := ∀ (k : Nat) (as : List Value) (h : mH) (w : Option Value) (h' : mH), cal k as h = some (w, h') → m_le h h' ∧ m_nr w ∧ (h'.1.length ≤ m_str0 → ∃ d' : Nat, d' < d ∧ m_Met l D dA ad B d' k as h w h')
/-- a frame's room: so deep -/
def m_Dp (R : Room) (d : Nat) : Prop := d + 1 ≤ R.frames ∧ 40 * (d + 1) ≤ R.locals
theorem m_goodTT : ∀ w ∈ mTT, goodWord w = true := fun w h => (List.mem_filter.mp h).2
theorem m_good {k : Nat} (h : m_okk k = true) : GoodIn mTT (m_mws k) := by
  simp only [m_okk, Bool.and_eq_true] at h
  intro w hw
  rcases List.mem_cons.mp hw with rfl | hw
  · exact ⟨m_w_in h.1.1.1.1, good_of_word (m_goodTT _ (m_w_in h.1.1.1.1))⟩
  · exact ⟨hw, good_of_word (m_goodTT _ hw)⟩
theorem m_AOA.moved {u U : State} (hvm : u.vm.Alike U.vm) (h : m_AOA u) : m_AOA U := by
  unfold m_AOA Cond.before Cond.holds at h ⊢
  simp only [Cond.value, beq_iff_eq] at h ⊢
  rw [Option.bind_eq_some_iff] at h
  obtain ⟨comp, h1, h⟩ := h
  rw [Option.bind_eq_some_iff] at h
  obtain ⟨c, h2, h⟩ := h
  rw [Option.map_eq_some_iff] at h
  obtain ⟨k, h3, h4⟩ := h
  obtain ⟨k', hk', he⟩ := hvm.2.2 _ _ h3
  refine Option.bind_eq_some_iff.mpr ⟨comp, by rw [hvm.findClass]; exact h1, Option.bind_eq_some_iff.mpr ⟨c, ?_, Option.map_eq_some_iff.mpr ⟨k', hk', ?_⟩⟩⟩
  · refine (va_idx_bare U.vm comp).symm.trans ?_
    rw [hvm.bare_eq]
    exact (va_idx_bare u.vm comp).trans h2
  · rw [hvm.findClass]
    have e : k'.kind = k.kind := by rw [he]
    rw [e]
    exact h4
theorem m_Ex.warm {s U : State} (hW : s.WarmedH U.vm) (h : m_Ex s) : m_Ex U := ⟨h.1.moved hW.alike, h.2.1.moved hW.alike, fun C hC => (h.2.2.1 C hC).warmC hW, fun q hq => (h.2.2.2 q hq).warmM hW⟩
theorem m_Ex.same {u U : State} (hv : u.vm = U.vm) (h : m_Ex u) : m_Ex U := ⟨h.1.moved (by rw [hv]; exact Vm.Alike.refl _), h.2.1.moved (by rw [hv]; exact Vm.Alike.refl _), fun C hC => (h.2.2.1 C hC).same rfl hv, fun q hq => (h.2.2.2 q hq).same rfl hv⟩
theorem m_TX.warm {ad : Nat → Nat} {A B : Nat → Prop} {s U : State} {H : Heap} (hW : s.WarmedH U.vm) (h : m_TX ad A s s.heap) (hk : ∀ a, a < s.heap.size → ¬ A a → H[a]? = s.heap[a]?) (hAB : ∀ q, B q → A q) : m_TX ad B U H := by
  obtain ⟨h1, ⟨adV, h2⟩, h3, v, hv9, h4⟩ := h
  refine ⟨fun j q hj => (h1 j q hj).warm hW, ⟨adV, ((h2.kept hk).narrow hAB).moved hW.alike⟩, ?_, v, hv9, ?_⟩
  · first | exact ((h3.kept hk).narrow hAB).moved hW.alike | exact ((h3.moved hW.alike).kept hk).narrow hAB
  · first | exact ((h4.kept hk).narrow hAB).moved hW.alike | exact ((h4.moved hW.alike).kept hk).narrow hAB
theorem m_TX.same {ad : Nat → Nat} {A : Nat → Prop} {u U : State} {H : Heap} (hv : u.vm = U.vm) (h : m_TX ad A u H) : m_TX ad A U H := by
  obtain ⟨h1, ⟨adV, h2⟩, h3, v, hv9, h4⟩ := h
  have ha : u.vm.Alike U.vm := by rw [hv]; exact Vm.Alike.refl _
  exact ⟨fun j q hj => (h1 j q hj).same hv.symm, ⟨adV, h2.moved ha⟩, h3.moved ha, v, hv9, h4.moved ha⟩
theorem m_blind {D : va_G} {dA : Nat → ClassId} {ad : Nat → Nat} {B : Nat} {h : mH} {av : List Value} : FrameBlind (va_Pc av (m_Pre D dA ad B h)) := by
  intro a U g mk q
  obtain ⟨q1, q2, q3, q4, q5, q6, q7⟩ := q
  exact ⟨q1, q2, q3, va_K.moved (u := U) (U := U.calling g mk a) (Vm.Alike.refl U.vm) q4, q5, q6.same rfl, q7.same rfl⟩
def m_cn (c : Nat) : Option String := bif Nat.beq c 300 then some "java/lang/String" else (m_cl[c]?).map (·.1)
/-- what a program decides of a call of an object's method -/
def m_ckV (own : String) (idx : Nat) (ds : List (List Nat)) : Bool :=
  match m_d (m_hd ds) 2 with
  | 0 => (ds.drop 1).all fun d => m_okk (m_d d 1) && (match m_cn (m_d d 0) with
    | none => false
    | some C => m_w (m_d (m_hd ds) 1) (.methodLink own idx (m_y (m_d d 1))) && m_w (m_d d 3) (.instanceMethod (m_y (m_d d 1))) && m_w (m_d d 2) (.selects C (m_y (m_d d 1)) (m_y (m_d d 1))) && m_na (m_y (m_d d 1)) (m_d (m_hd ds) 0))
  | _ => match m_tw (m_d (m_hd ds) 1), m_tw (m_d (m_hd ds) 3), m_tw (m_d (m_hd ds) 5) with
    | some (.methodLink o i x), some (.sameMethod r ow nm2 dd), some (.code z _ _ _) => decide (o = own) && decide (i = idx) && decide (r = x.cls) && decide (nm2 = x.name) && decide (dd = x.desc) && decide (z = ⟨ow, x.name, x.desc⟩) && m_w (m_d (m_hd ds) 4) (.instanceMethod ⟨ow, x.name, x.desc⟩) && decide (ow ≠ "java/lang/invoke/MethodHandle") && decide (ow ≠ "java/lang/invoke/VarHandle") && m_na x (m_d (m_hd ds) 0) &&
      (ds.drop 1).all fun d => m_okk (m_d d 1) && (match m_cn (m_d d 0) with
        | none => false
        | some C => m_w (m_d d 2) (.selects C x (m_y (m_d d 1))) && m_w (m_d d 3) (.instanceMethod (m_y (m_d d 1))))
    | _, _, _ => false
/-- .. of a static method -/
def m_ckS (own : String) (idx : Nat) (ds : List (List Nat)) : Bool :=
  bif Nat.beq (m_d (m_hd ds) 1) 998 then m_w (m_d (m_hd ds) 2) (.methodLink own idx arraycopyName) && m_w (m_d (m_hd ds) 3) (.native arraycopyName) && m_w (m_d (m_hd ds) 4) (.static arraycopyName) && m_w (m_d (m_hd ds) 5) (.initialized "java/lang/System")
  else bif Nat.beq (m_d (m_hd ds) 1) 995 then m_w (m_d (m_hd ds) 2) (.methodLink own idx Lib.Math.max.name) && m_w (m_d (m_hd ds) 3) (.static Lib.Math.max.name) && m_w (m_d (m_hd ds) 4) (.initialized "java/lang/Math") && m_w (m_d (m_hd ds) 5) (.code Lib.Math.max.name Lib.Math.max.code 2 (some .int))
  else bif Nat.beq (m_d (m_hd ds) 1) 996 then m_w (m_d (m_hd ds) 2) (.methodLink own idx Lib.Math.min.name) && m_w (m_d (m_hd ds) 3) (.static Lib.Math.min.name) && m_w (m_d (m_hd ds) 4) (.initialized "java/lang/Math") && m_w (m_d (m_hd ds) 5) (.code Lib.Math.min.name Lib.Math.min.code 2 (some .int))
  else bif Nat.beq (m_d (m_hd ds) 1) 997 then m_w (m_d (m_hd ds) 2) (.methodLink own idx Lib.Math.abs.name) && m_w (m_d (m_hd ds) 3) (.static Lib.Math.abs.name) && m_w (m_d (m_hd ds) 4) (.initialized "java/lang/Math") && m_w (m_d (m_hd ds) 5) (.code Lib.Math.abs.name Lib.Math.abs.code 1 (some .int))
  else m_okk (m_d (m_hd ds) 1) && m_w (m_d (m_hd ds) 3) (.static (m_y (m_d (m_hd ds) 1))) && m_na (m_y (m_d (m_hd ds) 1)) (m_d (m_hd ds) 0) && (match m_d (m_hd ds) 4 with
    | 0 => m_w (m_d (m_hd ds) 2) (.methodLink own idx (m_y (m_d (m_hd ds) 1)))
    | _ => match m_nest[m_d (m_hd ds) 2]? with
      | none => false
      | some q => decide (q.1 = own) && decide (q.2.1 = idx) && decide (q.2.2.1 = m_y (m_d (m_hd ds) 1)))
/-- .. of a constructor, of the superclass's own method -/
def m_ckI (own : String) (idx : Nat) (ds : List (List Nat)) : Bool :=
  bif Nat.beq (m_d (m_hd ds) 1) 999 then m_w (m_d (m_hd ds) 2) (.methodLink own idx objectInit) && m_w (m_d (m_hd ds) 3) (.instanceMethod objectInit) && m_w (m_d (m_hd ds) 4) (.code objectInit ⟨#[0xb1]⟩ 1 none) && decide (m_d (m_hd ds) 0 = 0)
  else m_okk (m_d (m_hd ds) 1) && m_w (m_d (m_hd ds) 3) (.instanceMethod (m_y (m_d (m_hd ds) 1))) && m_na (m_y (m_d (m_hd ds) 1)) (m_d (m_hd ds) 0) && (match m_d (m_hd ds) 4 with
    | 0 => m_w (m_d (m_hd ds) 2) (.methodLink own idx (m_y (m_d (m_hd ds) 1))) && decide ((m_y (m_d (m_hd ds) 1)).name = "<init>") && decide (m_rt (m_d (m_hd ds) 1) = none)
    | 1 => decide ((m_y (m_d (m_hd ds) 1)).name = "<init>") && decide (m_rt (m_d (m_hd ds) 1) = none) && (match m_nest[m_d (m_hd ds) 2]? with
      | none => false
      | some q => decide (q.1 = own) && decide (q.2.1 = idx) && decide (q.2.2.1 = m_y (m_d (m_hd ds) 1)))
    | _ => decide ((m_y (m_d (m_hd ds) 1)).name ≠ "<init>") && (match m_tw (m_d (m_hd ds) 2) with
      | some (.methodLink o i x) => decide (o = own) && decide (i = idx) && decide (x.name = (m_y (m_d (m_hd ds) 1)).name) && decide (x.desc = (m_y (m_d (m_hd ds) 1)).desc) && m_w (m_d ((ds[1]?).getD []) 0) (.sameMethod x.cls (m_y (m_d (m_hd ds) 1)).cls x.name x.desc) && m_w (m_d ((ds[1]?).getD []) 1) (.superclass own x.cls) && (match m_d ((ds[1]?).getD []) 2 with
        | 0 => decide (x.cls = (m_y (m_d (m_hd ds) 1)).cls)
        | t + 1 => m_w t (.superclass x.cls (m_y (m_d (m_hd ds) 1)).cls))
      | _ => false))
section MC
variable {p : Program} {l : Launch} {e : Env} {R : Room} {s : State} {m : MethodId} {args : Array Value} {below : List Frame} {meth : Method} {c : Code} {Q : State → Prop} {cc : ByteArray} {own nm : String} {nL : Nat} {D : va_G} {dA : Nat → ClassId} {ad : Nat → Nat} {A : Nat → Prop} {B N0 S0 : Nat} {pc n d : Nat} {ds : List (List Nat)} {lo lo' : mL} {os os' : List Value} {h h1 : mH} {w : Option Value} {k : Nat} {H : Heap} {locs : List Loc} {cells slots : Nat} {ls : Array Slot}
theorem m_Fr_in (hA : ∀ q, s.heap.size ≤ q → A q) (hN : m_Nw s nL D dA ad A B N0 S0 lo h H locs cells slots ls) : ∀ q, m_Fr dA ad B h q → A q := by
  intro q hq
  rcases hq with ⟨k, e, hk⟩ | hq
  · exact hN.2.1.2 k _ hk
  · exact hA q (Nat.le_trans hN.2.2.1.1 (by rw [hN.2.2.2.1]; exact hq))
theorem m_pre_of (hF : m_Fx p s m args meth c cc own nm nL D dA ad A B) (hE : m_Ex s) (hT : m_TX ad A s s.heap) (hN : m_Nw s nL D dA ad A B N0 S0 lo h H locs cells slots ls) (av : List Value) : ∀ U : State, U.heap = H → s.WarmedH U.vm → va_Pc av (m_Pre D dA ad B h) av.toArray U := by
  intro U hU hW
  refine ⟨rfl, by rw [hU]; exact hN.2.2.2.1, by rw [hU]; exact hN.1, va_K.moved hW.alike hF.2.2.2.2.2.1, hN.2.1.weaken (fun _ _ _ _ => trivial), hE.warm hW, ?_⟩
  rw [hU]
  exact hT.warm hW hN.2.2.1.2.1 (m_Fr_in hF.2.2.2.2.2.2.1 hN)
theorem m_after (hF : m_Fx p s m args meth c cc own nm nL D dA ad A B) (hN : m_Nw s nL D dA ad A B N0 S0 lo h H locs cells slots ls) (hle : m_le h h1) (hnr : m_nr w) {rest st0 : List Value} {a : Array Value} (hr : va_Run p l e R s m args below meth c H locs cells slots (h1.1.length - h.1.length) (m_sz h1 - m_sz h) (F0 m pc ls st0) (rest.map (m_v ad)) (m_Q D dA ad B h w h1 a) (m_Fr dA ad B h)) (kk : m_W p l e R s m args below meth c Q nL D dA ad A B N0 S0 (pc + 3) lo (w.toList ++ rest) h1) : W p l e R s m args below meth c H locs cells slots Q (F0 m pc ls st0) := by
  intro T hT X
  obtain ⟨v, st₀, t, T', L, h0, X', hL, e1, e2, ⟨⟨hv, hz1, hP1, hD1⟩, hz, hkp⟩, st⟩ := hr T hT X
  have hvw : v = w := by simpa using hv
  subst hvw
  rw [h0] at hz hkp
  have hin := m_Fr_in hF.2.2.2.2.2.2.1 hN
  obtain ⟨gP, gD, gS, gZ, gC, gL, gl⟩ := hN
  have k2 := kk T'.heap (locs ++ L) (cells + (h1.1.length - h.1.length)) (slots + (m_sz h1 - m_sz h)) ls ⟨by rw [e1]; exact hP1, hD1.weaken (fun _ q _ hq => hin _ hq), ⟨Nat.le_trans gS.1 (by rw [e1]; exact hz), fun q q1 q2 => by rw [e1, hkp q (Nat.lt_of_lt_of_le q1 gS.1) (fun z => q2 (hin q z))]; exact gS.2.1 q q1 q2, fun q hq => by
      rcases List.mem_append.mp hq with h | h
      · exact gS.2.2 q h
      · exact hin _ (hL q h)⟩, by rw [e1]; exact hz1, by have := hle.1; omega, by have := hle.2; omega, gl⟩
  rw [List.map_append, hnr ad] at k2
  obtain ⟨t2, a1, b1⟩ := k2 T' rfl X'
  exact ⟨t2, st t2 a1, b1⟩
theorem m_okk_spec (hk : m_okk k = true) (hts : ∀ w ∈ mTT, w.before args s = true) : (Cond.code (m_y k) (m_by k) (m_mx k) (m_rt k)).before args s = true ∧ (Cond.initialized (m_y k).cls).before args s = true ∧ (m_y k).cls ≠ "java/lang/invoke/MethodHandle" ∧ (m_y k).cls ≠ "java/lang/invoke/VarHandle" ∧ m_mx k ≤ 21 := by
  simp only [m_okk, Bool.and_eq_true, decide_eq_true_eq] at hk
  exact ⟨hts _ (m_w_in hk.1.1.1.1), hts _ (m_w_in hk.1.1.1.2), hk.1.1.2, hk.1.2, Nat.le_of_ble_eq_true hk.2⟩
theorem m_na_spec {y : MethodName} (hn : m_na y n = true) : ∀ sig, parseMethodDescriptor y.desc = some sig → n = sig.parameters.length := by
  intro sig hs
  simp only [m_na, decide_eq_true_eq] at hn
  rw [hs] at hn
  exact (Option.some.inj hn).symm
/-- the object that a call is of: its class -/
theorem m_recvO (hF : m_Fx p s m args meth c cc own nm nL D dA ad A B) (hN : m_Nw s nL D dA ad A B N0 S0 lo h H locs cells slots ls) {a ci nn : Nat} {rs : List (Option Nat)} {C : String} (hi : h.1[a]? = some (ci, nn, rs)) (hlt : ci < 100) (hc : m_cn ci = some C) : (∃ cellB : Cell, H[ad a]? = some cellB ∧ cellB.vm.isStatics = false ∧ s.vm.findClass C = some cellB.cls) ∧ ∃ cC : ClassId, ClassAt s C cC := by
  unfold m_cn at hc
  have h3 : Nat.beq ci 300 = false := by
    cases hb : Nat.beq ci 300 with
    | false => rfl
    | true => have := Nat.eq_of_beq_eq_true hb; omega
  rw [h3, cond_false] at hc
  cases hq : m_cl[ci]? with
  | none => rw [hq] at hc; cases hc
  | some q =>
    rw [hq] at hc
    cases hc
    have he := m_ws_get (dA := dA) (ad := ad) hi
    rw [m_cel_o dA ad (h.2 a) hlt] at he
    exact ⟨va_recv hF.2.2.2.2.2.1 hN.1 hq he, _, (hF.2.2.2.2.2.1.1 ci q hq).2⟩
theorem m_recvT (hT : m_TX ad A s s.heap) (hN : m_Nw s nL D dA ad A B N0 S0 lo h H locs cells slots ls) {a : Nat} (h1 : m_str0 ≤ a) (h2 : a < m_str0 + 6) : ∃ cellB : Cell, H[ad a]? = some cellB ∧ cellB.vm.isStatics = false ∧ s.vm.findClass "java/lang/String" = some cellB.cls := by
  obtain ⟨-, ⟨adV, hS⟩, -⟩ := hT
  have := vk_recv (i := a - m_str0) hS (by omega) hN.2.2.1
  rw [show m_str0 + (a - m_str0) = a by omega] at this
  exact this
theorem m_pick_spec {a : Nat} {al : List (List Nat)} (hp : m_pick h a al = some k) : ∃ x ∈ al, m_d x 1 = k ∧ ((∃ (ci nn : Nat) (rs : List (Option Nat)), h.1[a]? = some (ci, nn, rs) ∧ ci < 100 ∧ m_d x 0 = ci) ∨ (m_d x 0 = 300 ∧ m_str0 ≤ a ∧ a < m_str0 + 6)) := by
  unfold m_pick at hp
  split at hp
  · rename_i ci nn rs hi
    cases hb : Nat.blt ci 100 with
    | false => rw [hb] at hp; cases hp
    | true =>
      rw [hb, cond_true, Option.map_eq_some_iff] at hp
      obtain ⟨x, hx, rfl⟩ := hp
      exact ⟨x, List.mem_of_find?_eq_some hx, rfl, Or.inl ⟨ci, nn, rs, hi, Nat.blt_eq.mp hb, Nat.eq_of_beq_eq_true (by have := List.find?_some hx; simpa using this)⟩⟩
  · rw [Option.map_eq_some_iff] at hp
    obtain ⟨x, hx, rfl⟩ := hp
    have h3 := List.find?_some hx
    simp only [Bool.and_eq_true] at h3
    exact ⟨x, List.mem_of_find?_eq_some hx, rfl, Or.inr ⟨Nat.eq_of_beq_eq_true h3.1.1, Nat.le_of_ble_eq_true h3.1.2, Nat.blt_eq.mp h3.2⟩⟩
/-- the stack ahead of a call -/
theorem m_stk (ad : Nat → Nat) (os : List Value) (n : Nat) : os.map (m_v ad) = (((os.take n).reverse).map (m_v ad)).reverse ++ (os.drop n).map (m_v ad) := by
  rw [← List.map_reverse, List.reverse_reverse, ← List.map_append, List.take_append_drop]
theorem m_cat_map (ad : Nat → Nat) (os : List Value) : ((os.map (m_v ad)).map fun v => v.category).sum = m_cat os := by
  unfold m_cat
  rw [List.map_map]
  congr 1
  apply List.map_congr_left
  intro v _
  exact m_v_cat ad v
theorem m_take_len {x : Value} {os' : List Value} (hd : os.drop n = x :: os') : (os.take n).length = n := by
  have : n < os.length := by
    rcases Nat.lt_or_ge n os.length with q | q
    · exact q
    · rw [List.drop_eq_nil_of_le q] at hd; cases hd
  rw [List.length_take]; omega
/-- the room that a callee asks -/
theorem m_callB (hF : m_Fx p s m args meth c cc own nm nL D dA ad A B) (hk : m_okk k = true) (hDp : m_Dp R d) {d' mc ms : Nat} (hd : d' < d) : ((m_rm d' mc ms).cells = mc ∧ (m_rm d' mc ms).slots = ms ∧ (m_rm d' mc ms).frames + 1 ≤ R.frames ∧ 8 + (m_mx k + 11) + (m_rm d' mc ms).locals ≤ R.locals ∧ (∀ w ∈ m_mws k, ∀ (a' : Array Value) (U : State), s.WarmedH U.vm → w.before a' U = true) ∧ Cond.code (m_y k) (m_by k) (m_mx k) (m_rt k) ∈ m_mws k) := by
  obtain ⟨h1, h2⟩ := hDp
  have h3 := (m_okk_spec (args := args) (s := s) hk hF.2.2.2.2.1).2.2.2.2
  refine ⟨rfl, rfl, ?_, ?_, pay_in hF.2.2.2.2.1 (m_good hk), List.mem_cons_self⟩
  · show d' + 1 + 1 ≤ R.frames
    omega
  · show 8 + (m_mx k + 11) + 40 * (d' + 1) ≤ R.locals
    omega
theorem m_cells {R : Room} (hN : m_Nw s nL D dA ad A B N0 S0 lo h H locs cells slots ls) (hle : m_le h h1) (hRm : m_Rm R N0 S0 h1) : cells + (h1.1.length - h.1.length) ≤ R.cells ∧ slots + (m_sz h1 - m_sz h) ≤ R.slots := by
  have g1 := hN.2.2.2.2.1
  have g2 := hN.2.2.2.2.2.1
  obtain ⟨r1, r2, -⟩ := hRm
  have := hle.1
  have := hle.2
  constructor <;> omega
theorem m_ok_virtual {cal : mK} {z a : Nat} {os1 : List Value} (hF : m_Fx p s m args meth c cc own nm nL D dA ad A B) (hE : m_Ex s) (hT : m_TX ad A s s.heap) (hDp : m_Dp R d) (hcal : m_Cal l D dA ad B cal d) (hdg : decode cc pc = .ok (.invokevirtual z, 3)) (hck : m_ckV own z ds = true) (hd : os.drop (m_d (m_hd ds) 0) = .ref a :: os1) (hct : m_cat os1 ≤ 8) (hp : m_pick h a (ds.drop 1) = some k) (hr : cal k (.ref a :: (os.take (m_d (m_hd ds) 0)).reverse) h = some (w, h1)) (hRm : m_Rm R N0 S0 h1) (kk : m_W p l e R s m args below meth c Q nL D dA ad A B N0 S0 (pc + 3) lo (w.toList ++ os1) h1) : m_W p l e R s m args below meth c Q nL D dA ad A B N0 S0 pc lo os h := by
  intro H locs cells slots ls hN
  obtain ⟨hle, hnr, hm⟩ := hcal _ _ _ _ _ hr
  obtain ⟨d', hd', hM⟩ := hm hRm.2.2
  obtain ⟨hx, hb, hml, hown, hts, hK, hA, hnm, hB⟩ := id hF
  obtain ⟨x, hxm, rfl, hcase⟩ := m_pick_spec hp
  have hst : (os.map (m_v ad)) = (((os.take (m_d (m_hd ds) 0)).reverse).map (m_v ad)).reverse ++ .ref (ad a) :: os1.map (m_v ad) := by
    rw [m_stk ad os (m_d (m_hd ds) 0), hd]; rfl
  have hroom : 2 * (F0 m pc ls (os.map (m_v ad))).monitorRoom + ((os1.map (m_v ad)).map fun v => v.category).sum ≤ 8 := lv_room (by rw [m_cat_map]; exact hct)
  have hlen : ((((os.take (m_d (m_hd ds) 0)).reverse).map (m_v ad))).length = m_d (m_hd ds) 0 := by
    rw [List.length_map, List.length_reverse]; exact m_take_len hd
  have hpre : ∀ {C : String}, (∃ cellB : Cell, H[ad a]? = some cellB ∧ cellB.vm.isStatics = false ∧ s.vm.findClass C = some cellB.cls) → PreV s H C (ad a) (va_Pc ((Value.ref a :: (os.take (m_d (m_hd ds) 0)).reverse).map (m_v ad)) (m_Pre D dA ad B h)) (((os.take (m_d (m_hd ds) 0)).reverse).map (m_v ad)) := fun hc => ⟨m_blind, hc, m_pre_of hF hE hT hN _⟩
  have hrecv : ∀ {C : String}, m_cn (m_d x 0) = some C → ∃ cellB : Cell, H[ad a]? = some cellB ∧ cellB.vm.isStatics = false ∧ s.vm.findClass C = some cellB.cls := by
    intro C hC
    rcases hcase with ⟨ci, nn, rs, hi, hlt, hci⟩ | ⟨h3, h4, h5⟩
    · exact (m_recvO hF hN hi hlt (by rw [← hci]; exact hC)).1
    · rw [h3] at hC
      cases hC
      exact m_recvT hT hN h4 h5
  have S : CallFix p m c cc nL s args mTT own := ⟨hx, hb, hml, hown, hts⟩
  unfold m_ckV at hck
  split at hck
  · have h3 := List.all_eq_true.mp hck x hxm
    simp only [Bool.and_eq_true] at h3
    obtain ⟨hok, h3⟩ := h3
    obtain ⟨g1, g2, g3, g4, g5⟩ := m_okk_spec hok hts
    split at h3
    · cases h3
    · rename_i C hC
      simp only [Bool.and_eq_true] at h3
      obtain ⟨⟨⟨w1, w2⟩, w3⟩, w4⟩ := h3
      obtain ⟨b1, b2, b3, b4, b5, b6⟩ := m_callB (mc := h1.1.length - h.1.length) (ms := m_sz h1 - m_sz h) hF hok hDp hd'
      refine m_after (a := (Value.ref (ad a) :: ((os.take (m_d (m_hd ds) 0)).reverse).map (m_v ad)).toArray) hF hN hle hnr ?_ kk
      exact va_runV (C := C) (n := m_d (m_hd ds) 0) (rest := os1.map (m_v ad)) S hM ⟨⟨b1, b2, b3, b4, b5, b6, g1, g2, ⟨g3, g4⟩, m_na_spec w4, hts _ (m_w_in w1)⟩, hts _ (m_w_in w2), hts _ (m_w_in w3)⟩ (hpre (hrecv hC)) rfl hlen hN.2.2.2.2.2.2.1 hst hroom hdg (m_cells hN hle hRm)
  · split at hck
    · rename_i o i y r ow nm2 dd z2 b0 m0 r0 q1 q2 q3
      simp only [Bool.and_eq_true, decide_eq_true_eq] at hck
      obtain ⟨⟨⟨⟨⟨⟨⟨⟨⟨⟨rfl, rfl⟩, rfl⟩, rfl⟩, rfl⟩, rfl⟩, w0⟩, n1⟩, n2⟩, w4⟩, hall⟩ := hck
      have h3 := List.all_eq_true.mp hall x hxm
      simp only [Bool.and_eq_true] at h3
      obtain ⟨hok, h3⟩ := h3
      obtain ⟨g1, g2, g3, g4, g5⟩ := m_okk_spec hok hts
      split at h3
      · cases h3
      · rename_i C hC
        simp only [Bool.and_eq_true] at h3
        obtain ⟨w1, w2⟩ := h3
        obtain ⟨b1, b2, b3, b4, b5, b6⟩ := m_callB (mc := h1.1.length - h.1.length) (ms := m_sz h1 - m_sz h) hF hok hDp hd'
        refine m_after (a := (Value.ref (ad a) :: ((os.take (m_d (m_hd ds) 0)).reverse).map (m_v ad)).toArray) hF hN hle hnr ?_ kk
        exact va_runU (x := y) (owner := ow) (C := C) (n := m_d (m_hd ds) 0) (rest := os1.map (m_v ad)) S hM ⟨⟨b1, b2, b3, b4, b5, b6⟩, g1, g2, ⟨n1, n2⟩, m_na_spec w4, hts _ (m_tw_in q1 rfl), hts _ (m_tw_in q2 rfl), va_Decl.of (hts _ (m_w_in w0)) (hts _ (m_tw_in q3 rfl)), hts _ (m_w_in w1), hts _ (m_w_in w2)⟩ (hpre (hrecv hC)) rfl hlen hN.2.2.2.2.2.2.1 hst hroom hdg (m_cells hN hle hRm)
    · cases hck
end MC
