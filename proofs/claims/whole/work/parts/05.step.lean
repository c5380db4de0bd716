/-! ONE INSTRUCTION -/
def m_tys (dA : Nat → ClassId) : List (ClassId × FieldType) := [(dA 100, .int), (dA 101, .byte), (dA 102, .boolean), (dA 104, .array .int), (dA 105, .object RX10)]
/-- what stays, in a frame: the code, the tables, which cells may change, where they stand -/
def m_Fx (p : Program) (s : State) (m : MethodId) (args : Array Value) (meth : Method) (c : Code) (cc : ByteArray) (own nm : String) (nL : Nat) (D : va_G) (dA : Nat → ClassId) (ad : Nat → Nat) (A : Nat → Prop) (B : Nat) : Prop :=
  p.tables.exec = Jvm.exec ∧ c.code = cc ∧ c.maxLocals = nL ∧ s.vm.findClass own = some m.cls ∧ (∀ w ∈ mTT, w.before args s = true) ∧ va_K D m_cl (m_tys dA) s ∧ (∀ q, s.heap.size ≤ q → A q) ∧ meth.name = nm ∧ (∀ i, i < m_str0 → ad i = B + i)
/-- what holds now: the heap's picture, what has been made since the entry, the locals -/
def m_Nw (s : State) (nL : Nat) (D : va_G) (dA : Nat → ClassId) (ad : Nat → Nat) (A : Nat → Prop) (B N0 S0 : Nat) (lo : mL) (h : mH) (H : Heap) (locs : List Loc) (cells slots : Nat) (ls : Array Slot) : Prop :=
  va_P D m_cl (m_ws dA ad h) H ∧ va_D A (m_ws dA ad h) ∧ va_S A s.heap H locs ∧ H.size = B + h.1.length ∧ cells + N0 = h.1.length ∧ slots + S0 = m_sz h ∧ m_LS ad ls nL lo
/-- the method comes from here to its goal -/
def m_W (p : Program) (l : Launch) (e : Env) (R : Room) (s : State) (m : MethodId) (args : Array Value) (below : List Frame) (meth : Method) (c : Code) (Q : State → Prop) (nL : Nat) (D : va_G) (dA : Nat → ClassId) (ad : Nat → Nat) (A : Nat → Prop) (B N0 S0 : Nat) (pc : Nat) (lo : mL) (os : List Value) (h : mH) : Prop :=
  ∀ (H : Heap) (locs : List Loc) (cells slots : Nat) (ls : Array Slot), m_Nw s nL D dA ad A B N0 S0 lo h H locs cells slots ls → W p l e R s m args below meth c H locs cells slots Q (F0 m pc ls (os.map (m_v ad)))
/-- the script -/
def m_Sc (s : State) (ad : Nat → Nat) (A : Nat → Prop) (sc : mS) : Prop := ∀ L xs, sc = some (L, xs) → va_X (ad m_scr0) L xs s s.heap ∧ ad m_scr0 < s.heap.size ∧ ¬ A (ad m_scr0) ∧ L < 2 ^ 31
/-- text constants: where they are named, what they say -/
def m_sk : List (Nat × String) := [(113, "watchman plain proud drunk mender sleeper "), (128, "if "), (134, "add more mile silent "), (143, "not "), (171, "day wind add delay miles number "), (163, "or and ")]
def m_Tx (s : State) (ad : Nat → Nat) : Prop := ∀ (j : Nat) (q : Nat × String), m_sk[j]? = some q → vk_R RX6 q.1 q.2 (ad (m_str0 + j)) s
theorem mTc_in : ∀ (c : Nat) (w : Jvm.Cond), w ∈ mTc c → w ∈ lw_tbl
  | 0, w, h => List.mem_append_left _ h
  | 1, w, h => List.mem_append_right _ (List.mem_append_left _ h)
  | 2, w, h => List.mem_append_right _ (List.mem_append_right _ (List.mem_append_left _ h))
  | 3, w, h => List.mem_append_right _ (List.mem_append_right _ (List.mem_append_right _ (List.mem_append_left _ h)))
  | 4, w, h => List.mem_append_right _ (List.mem_append_right _ (List.mem_append_right _ (List.mem_append_right _ (List.mem_append_left _ h))))
  | 5, w, h => List.mem_append_right _ (List.mem_append_right _ (List.mem_append_right _ (List.mem_append_right _ (List.mem_append_right _ (List.mem_append_left _ h)))))
  | 6, w, h => List.mem_append_right _ (List.mem_append_right _ (List.mem_append_right _ (List.mem_append_right _ (List.mem_append_right _ (List.mem_append_right _ (List.mem_append_left _ h))))))
  | 7, w, h => List.mem_append_right _ (List.mem_append_right _ (List.mem_append_right _ (List.mem_append_right _ (List.mem_append_right _ (List.mem_append_right _ (List.mem_append_right _ h))))))
  | n + 8, w, h => by simp [mTc] at h
theorem m_tw_in {q : Nat} {w : Jvm.Cond} (h : m_tw q = some w) (hg : goodWord w = true) : w ∈ mTT := List.mem_filter.mpr ⟨mTc_in _ _ (List.mem_of_getElem? h), hg⟩
def m_w (q : Nat) (w : Jvm.Cond) : Bool := decide (m_tw q = some w) && goodWord w
theorem m_w_in {q : Nat} {w : Jvm.Cond} (h : m_w q w = true) : w ∈ mTT := by
  simp only [m_w, Bool.and_eq_true, decide_eq_true_eq] at h
  exact m_tw_in h.1 h.2
/-- the field link at place q of the words, for the slot k of class c -/
def m_fl (own : String) (idx k q sm c : Nat) : Bool :=
  match m_cl[c]? with
  | none => false
  | some (_, T, N) => Nat.blt k N && (match m_tw q with
    | some (.fieldLink o i r nm d) => decide (o = own) && decide (i = idx) && decide (nm = (T k).2.1) && decide (d = (T k).2.2.1) && (match sm with
      | 0 => decide (r = (T k).1)
      | t + 1 => m_w t (.sameField r (T k).1 (T k).2.1 (T k).2.2.1))
    | _ => false)
def m_fin (own nm : String) (k fin c : Nat) : Bool :=
  match m_cl[c]? with
  | none => false
  | some (_, T, _) => (match fin with
    | 0 => decide ((T k).2.2.2 = false)
    | _ => decide ((T k).2.2.2 = true) && decide (nm = "<init>") && decide ((T k).1 = own))
/-- what a program decides of an instruction that neither branches nor calls -/
def m_ck (own nm : String) (nL : Nat) (i : Instr) (n : Nat) (v : Int32 × Int64) (ds : List (List Nat)) : Bool :=
  match i with
  | .iconst k => decide (n = 1) && decide (Int32.ofInt k = v.1)
  | .bipush k => decide (n = 2) && decide ((Int8.ofInt k).toInt32 = v.1)
  | .sipush k => decide (n = 3) && decide ((Int16.ofInt k).toInt32 = v.1)
  | .lconst k => decide (n = 1) && decide (Int64.ofNat k = v.2)
  | .ldc k => decide (n = 2) && (match m_hd ds with
    | [0, q] => m_w q (.constant own k v.1)
    | [1, j] => decide (own = RX6) && decide ((m_sk[j]?).map (·.1) = some k)
    | _ => false)
  | .ldc_w k => decide (n = 3) && m_w (m_d (m_hd ds) 1) (.constant own k v.1)
  | .ldc2_w k => decide (n = 3) && m_w (m_d (m_hd ds) 0) (.constantLong own k v.2)
  | .iload _ => decide (n = 2)
  | .lload _ => decide (n = 2)
  | .aload _ => decide (n = 2)
  | .istore k => decide (n = 2) && Nat.blt k nL
  | .lstore k => decide (n = 2) && Nat.blt (k + 1) nL
  | .astore k => decide (n = 2) && Nat.blt k nL
  | .istore_n k => decide (n = 1) && Nat.blt k.1 nL
  | .lstore_n k => decide (n = 1) && Nat.blt (k.1 + 1) nL
  | .astore_n k => decide (n = 1) && Nat.blt k.1 nL
  | .iinc k z => decide (n = 3) && Nat.blt k nL && decide (Int32.ofInt z = v.1)
  | .getfield k => decide (n = 3) && ((ds[1]?).getD []).all (fun c => m_fl own k (m_d (m_hd ds) 0) (m_d (m_hd ds) 1) (m_d (m_hd ds) 2) c)
  | .putfield k => decide (n = 3) && ((ds[1]?).getD []).all (fun c => m_fl own k (m_d (m_hd ds) 0) (m_d (m_hd ds) 1) (m_d (m_hd ds) 2) c && m_fin own nm (m_d (m_hd ds) 0) (m_d (m_hd ds) 3) c)
  | .new k => decide (n = 3) && (match m_cl[m_d (m_hd ds) 0]? with
    | none => false
    | some (C, _, N) => decide (N = m_d (m_hd ds) 1) && m_w (m_d (m_hd ds) 2) (.classLink own k C) && m_w (m_d (m_hd ds) 3) (.instantiable C N) && m_w (m_d (m_hd ds) 4) (.initialized C))
  | .newarray t => decide (n = 2) && (decide (t = .int) || decide (t = .byte) || decide (t = .boolean)) && m_w (m_d (m_hd ds) 0) (.arrayClass (newarray.typeOf t))
  | .anewarray k => decide (n = 3) && m_w (m_d (m_hd ds) 0) (.classLink own k RX10)
  | .multianewarray k z => decide (n = 4) && decide (z = 2) && m_w (m_d (m_hd ds) 0) (.classLink own k "[[I") && m_w (m_d (m_hd ds) 1) (.arrayClass .int)
  | _ => decide (n = 1)
section MS
variable {p : Program} {l : Launch} {e : Env} {R : Room} {s : State} {m : MethodId} {args : Array Value} {below : List Frame} {meth : Method} {c : Code} {Q : State → Prop} {cc : ByteArray} {own nm : String} {nL : Nat} {D : va_G} {dA : Nat → ClassId} {ad : Nat → Nat} {A : Nat → Prop} {B N0 S0 : Nat} {sc : mS} {pc n : Nat} {v : Int32 × Int64} {ds : List (List Nat)} {lo lo' : mL} {os os' : List Value} {h h' : mH}
theorem m_Nw_lo {H : Heap} {locs : List Loc} {cells slots : Nat} {ls ls' : Array Slot} (hN : m_Nw s nL D dA ad A B N0 S0 lo h H locs cells slots ls) (hl : m_LS ad ls' nL lo') : m_Nw s nL D dA ad A B N0 S0 lo' h H locs cells slots ls' := ⟨hN.1, hN.2.1, hN.2.2.1, hN.2.2.2.1, hN.2.2.2.2.1, hN.2.2.2.2.2.1, hl⟩

theorem m_ok_iconst {z : Int} (hF : m_Fx p s m args meth c cc own nm nL D dA ad A B) (hdg : decode cc pc = .ok (.iconst z, n)) (hk : m_ck own nm nL (.iconst z) n v ds = true) (hr : m_1 sc (.iconst z) v ds lo os h = some (lo', os', h')) (kk : m_W p l e R s m args below meth c Q nL D dA ad A B N0 S0 (pc + n) lo' os' h') : m_W p l e R s m args below meth c Q nL D dA ad A B N0 S0 pc lo os h := by
  obtain ⟨hx, hb, hml, hown, hts, hK, hA, hnm, hB⟩ := hF
  simp only [m_ck, Bool.and_eq_true, decide_eq_true_eq] at hk
  obtain ⟨rfl, h1⟩ := hk
  simp only [m_1] at hr
  cases hr
  intro H locs cells slots ls hN
  exact lv_iconst hx hb hdg h1 (kk H locs cells slots ls hN)

theorem m_ok_bipush {z : Int} (hF : m_Fx p s m args meth c cc own nm nL D dA ad A B) (hdg : decode cc pc = .ok (.bipush z, n)) (hk : m_ck own nm nL (.bipush z) n v ds = true) (hr : m_1 sc (.bipush z) v ds lo os h = some (lo', os', h')) (kk : m_W p l e R s m args below meth c Q nL D dA ad A B N0 S0 (pc + n) lo' os' h') : m_W p l e R s m args below meth c Q nL D dA ad A B N0 S0 pc lo os h := by
  obtain ⟨hx, hb, hml, hown, hts, hK, hA, hnm, hB⟩ := hF
  simp only [m_ck, Bool.and_eq_true, decide_eq_true_eq] at hk
  obtain ⟨rfl, h1⟩ := hk
  simp only [m_1] at hr
  cases hr
  intro H locs cells slots ls hN
  exact lv_bipush hx hb hdg h1 (kk H locs cells slots ls hN)

theorem m_ok_sipush {z : Int} (hF : m_Fx p s m args meth c cc own nm nL D dA ad A B) (hdg : decode cc pc = .ok (.sipush z, n)) (hk : m_ck own nm nL (.sipush z) n v ds = true) (hr : m_1 sc (.sipush z) v ds lo os h = some (lo', os', h')) (kk : m_W p l e R s m args below meth c Q nL D dA ad A B N0 S0 (pc + n) lo' os' h') : m_W p l e R s m args below meth c Q nL D dA ad A B N0 S0 pc lo os h := by
  obtain ⟨hx, hb, hml, hown, hts, hK, hA, hnm, hB⟩ := hF
  simp only [m_ck, Bool.and_eq_true, decide_eq_true_eq] at hk
  obtain ⟨rfl, h1⟩ := hk
  simp only [m_1] at hr
  cases hr
  intro H locs cells slots ls hN
  exact lv_sipush hx hb hdg h1 (kk H locs cells slots ls hN)

theorem m_ok_lconst {z : Fin 2} (hF : m_Fx p s m args meth c cc own nm nL D dA ad A B) (hdg : decode cc pc = .ok (.lconst z, n)) (hk : m_ck own nm nL (.lconst z) n v ds = true) (hr : m_1 sc (.lconst z) v ds lo os h = some (lo', os', h')) (kk : m_W p l e R s m args below meth c Q nL D dA ad A B N0 S0 (pc + n) lo' os' h') : m_W p l e R s m args below meth c Q nL D dA ad A B N0 S0 pc lo os h := by
  obtain ⟨hx, hb, hml, hown, hts, hK, hA, hnm, hB⟩ := hF
  simp only [m_ck, Bool.and_eq_true, decide_eq_true_eq] at hk
  obtain ⟨rfl, h1⟩ := hk
  simp only [m_1] at hr
  cases hr
  intro H locs cells slots ls hN
  exact lv_lconst hx hb hdg h1 (kk H locs cells slots ls hN)

theorem m_ok_ldc {z : Nat} (hF : m_Fx p s m args meth c cc own nm nL D dA ad A B) (hT : m_Tx s ad) (hdg : decode cc pc = .ok (.ldc z, n)) (hk : m_ck own nm nL (.ldc z) n v ds = true) (hr : m_1 sc (.ldc z) v ds lo os h = some (lo', os', h')) (kk : m_W p l e R s m args below meth c Q nL D dA ad A B N0 S0 (pc + n) lo' os' h') : m_W p l e R s m args below meth c Q nL D dA ad A B N0 S0 pc lo os h := by
  obtain ⟨hx, hb, hml, hown, hts, hK, hA, hnm, hB⟩ := hF
  simp only [m_ck, Bool.and_eq_true, decide_eq_true_eq] at hk
  obtain ⟨rfl, h1⟩ := hk
  simp only [m_1] at hr
  split at hr
  · rename_i q hq
    rw [hq] at h1
    cases hr
    intro H locs cells slots ls hN
    exact lv_ldc hx hb hown (hts _ (m_w_in h1)) hdg (kk H locs cells slots ls hN)
  · rename_i j hq
    rw [hq] at h1
    simp only [Bool.and_eq_true, decide_eq_true_eq] at h1
    obtain ⟨rfl, h2⟩ := h1
    cases hr
    intro H locs cells slots ls hN
    cases hj : m_sk[j]? with
    | none => rw [hj] at h2; cases h2
    | some q =>
      rw [hj] at h2
      cases h2
      exact va_ldcS hx hb hown (hT j q hj) hdg (kk H locs cells slots ls hN)
  · cases hr

theorem m_ok_ldc_w {z : Nat} (hF : m_Fx p s m args meth c cc own nm nL D dA ad A B) (hdg : decode cc pc = .ok (.ldc_w z, n)) (hk : m_ck own nm nL (.ldc_w z) n v ds = true) (hr : m_1 sc (.ldc_w z) v ds lo os h = some (lo', os', h')) (kk : m_W p l e R s m args below meth c Q nL D dA ad A B N0 S0 (pc + n) lo' os' h') : m_W p l e R s m args below meth c Q nL D dA ad A B N0 S0 pc lo os h := by
  obtain ⟨hx, hb, hml, hown, hts, hK, hA, hnm, hB⟩ := hF
  simp only [m_ck, Bool.and_eq_true, decide_eq_true_eq] at hk
  obtain ⟨rfl, h1⟩ := hk
  simp only [m_1] at hr
  cases hr
  intro H locs cells slots ls hN
  exact lv_ldcw hx hb hown (hts _ (m_w_in h1)) hdg (kk H locs cells slots ls hN)

theorem m_ok_ldc2_w {z : Nat} (hF : m_Fx p s m args meth c cc own nm nL D dA ad A B) (hdg : decode cc pc = .ok (.ldc2_w z, n)) (hk : m_ck own nm nL (.ldc2_w z) n v ds = true) (hr : m_1 sc (.ldc2_w z) v ds lo os h = some (lo', os', h')) (kk : m_W p l e R s m args below meth c Q nL D dA ad A B N0 S0 (pc + n) lo' os' h') : m_W p l e R s m args below meth c Q nL D dA ad A B N0 S0 pc lo os h := by
  obtain ⟨hx, hb, hml, hown, hts, hK, hA, hnm, hB⟩ := hF
  simp only [m_ck, Bool.and_eq_true, decide_eq_true_eq] at hk
  obtain ⟨rfl, h1⟩ := hk
  simp only [m_1] at hr
  cases hr
  intro H locs cells slots ls hN
  exact lv_ldc2 hx hb hown (hts _ (m_w_in h1)) hdg (kk H locs cells slots ls hN)

theorem m_ok_iload {z : Nat} (hF : m_Fx p s m args meth c cc own nm nL D dA ad A B) (hdg : decode cc pc = .ok (.iload z, n)) (hk : m_ck own nm nL (.iload z) n v ds = true) (hr : m_1 sc (.iload z) v ds lo os h = some (lo', os', h')) (kk : m_W p l e R s m args below meth c Q nL D dA ad A B N0 S0 (pc + n) lo' os' h') : m_W p l e R s m args below meth c Q nL D dA ad A B N0 S0 pc lo os h := by
  obtain ⟨hx, hb, hml, hown, hts, hK, hA, hnm, hB⟩ := hF
  simp only [m_ck, Bool.and_eq_true, decide_eq_true_eq] at hk
  obtain rfl := hk
  simp only [m_1] at hr
  split at hr
  · rename_i x hx1
    cases hr
    intro H locs cells slots ls hN
    exact lv_iload hx hb hdg (hN.2.2.2.2.2.2.2.2 _ _ hx1) (kk H locs cells slots ls hN)
  · cases hr

theorem m_ok_iload_n {z : Fin 4} (hF : m_Fx p s m args meth c cc own nm nL D dA ad A B) (hdg : decode cc pc = .ok (.iload_n z, n)) (hk : m_ck own nm nL (.iload_n z) n v ds = true) (hr : m_1 sc (.iload_n z) v ds lo os h = some (lo', os', h')) (kk : m_W p l e R s m args below meth c Q nL D dA ad A B N0 S0 (pc + n) lo' os' h') : m_W p l e R s m args below meth c Q nL D dA ad A B N0 S0 pc lo os h := by
  obtain ⟨hx, hb, hml, hown, hts, hK, hA, hnm, hB⟩ := hF
  simp only [m_ck, Bool.and_eq_true, decide_eq_true_eq] at hk
  obtain rfl := hk
  simp only [m_1] at hr
  split at hr
  · rename_i x hx1
    cases hr
    intro H locs cells slots ls hN
    exact lv_iload_n hx hb hdg rfl (hN.2.2.2.2.2.2.2.2 _ _ hx1) (kk H locs cells slots ls hN)
  · cases hr

theorem m_ok_lload {z : Nat} (hF : m_Fx p s m args meth c cc own nm nL D dA ad A B) (hdg : decode cc pc = .ok (.lload z, n)) (hk : m_ck own nm nL (.lload z) n v ds = true) (hr : m_1 sc (.lload z) v ds lo os h = some (lo', os', h')) (kk : m_W p l e R s m args below meth c Q nL D dA ad A B N0 S0 (pc + n) lo' os' h') : m_W p l e R s m args below meth c Q nL D dA ad A B N0 S0 pc lo os h := by
  obtain ⟨hx, hb, hml, hown, hts, hK, hA, hnm, hB⟩ := hF
  simp only [m_ck, Bool.and_eq_true, decide_eq_true_eq] at hk
  obtain rfl := hk
  simp only [m_1] at hr
  split at hr
  · rename_i x hx1
    cases hr
    intro H locs cells slots ls hN
    exact lv_lload hx hb hdg (hN.2.2.2.2.2.2.2.2 _ _ hx1) (kk H locs cells slots ls hN)
  · cases hr

theorem m_ok_lload_n {z : Fin 4} (hF : m_Fx p s m args meth c cc own nm nL D dA ad A B) (hdg : decode cc pc = .ok (.lload_n z, n)) (hk : m_ck own nm nL (.lload_n z) n v ds = true) (hr : m_1 sc (.lload_n z) v ds lo os h = some (lo', os', h')) (kk : m_W p l e R s m args below meth c Q nL D dA ad A B N0 S0 (pc + n) lo' os' h') : m_W p l e R s m args below meth c Q nL D dA ad A B N0 S0 pc lo os h := by
  obtain ⟨hx, hb, hml, hown, hts, hK, hA, hnm, hB⟩ := hF
  simp only [m_ck, Bool.and_eq_true, decide_eq_true_eq] at hk
  obtain rfl := hk
  simp only [m_1] at hr
  split at hr
  · rename_i x hx1
    cases hr
    intro H locs cells slots ls hN
    exact lv_lload_n hx hb hdg rfl (hN.2.2.2.2.2.2.2.2 _ _ hx1) (kk H locs cells slots ls hN)
  · cases hr

theorem m_ok_aload {z : Nat} (hF : m_Fx p s m args meth c cc own nm nL D dA ad A B) (hdg : decode cc pc = .ok (.aload z, n)) (hk : m_ck own nm nL (.aload z) n v ds = true) (hr : m_1 sc (.aload z) v ds lo os h = some (lo', os', h')) (kk : m_W p l e R s m args below meth c Q nL D dA ad A B N0 S0 (pc + n) lo' os' h') : m_W p l e R s m args below meth c Q nL D dA ad A B N0 S0 pc lo os h := by
  obtain ⟨hx, hb, hml, hown, hts, hK, hA, hnm, hB⟩ := hF
  simp only [m_ck, Bool.and_eq_true, decide_eq_true_eq] at hk
  obtain rfl := hk
  simp only [m_1] at hr
  split at hr
  · rename_i x hx1
    cases hr
    intro H locs cells slots ls hN
    exact lv_aload hx hb hdg (hN.2.2.2.2.2.2.2.2 _ _ hx1) (kk H locs cells slots ls hN)
  · cases hr

theorem m_ok_aload_n {z : Fin 4} (hF : m_Fx p s m args meth c cc own nm nL D dA ad A B) (hdg : decode cc pc = .ok (.aload_n z, n)) (hk : m_ck own nm nL (.aload_n z) n v ds = true) (hr : m_1 sc (.aload_n z) v ds lo os h = some (lo', os', h')) (kk : m_W p l e R s m args below meth c Q nL D dA ad A B N0 S0 (pc + n) lo' os' h') : m_W p l e R s m args below meth c Q nL D dA ad A B N0 S0 pc lo os h := by
  obtain ⟨hx, hb, hml, hown, hts, hK, hA, hnm, hB⟩ := hF
  simp only [m_ck, Bool.and_eq_true, decide_eq_true_eq] at hk
  obtain rfl := hk
  simp only [m_1] at hr
  split at hr
  · rename_i x hx1
    cases hr
    intro H locs cells slots ls hN
    exact lv_aload_n hx hb hdg rfl (hN.2.2.2.2.2.2.2.2 _ _ hx1) (kk H locs cells slots ls hN)
  · cases hr

theorem m_ok_istore {z : Nat} (hF : m_Fx p s m args meth c cc own nm nL D dA ad A B) (hdg : decode cc pc = .ok (.istore z, n)) (hk : m_ck own nm nL (.istore z) n v ds = true) (hr : m_1 sc (.istore z) v ds lo os h = some (lo', os', h')) (kk : m_W p l e R s m args below meth c Q nL D dA ad A B N0 S0 (pc + n) lo' os' h') : m_W p l e R s m args below meth c Q nL D dA ad A B N0 S0 pc lo os h := by
  obtain ⟨hx, hb, hml, hown, hts, hK, hA, hnm, hB⟩ := hF
  simp only [m_ck, Bool.and_eq_true, decide_eq_true_eq] at hk
  obtain ⟨rfl, h1⟩ := hk
  simp only [m_1] at hr
  split at hr
  · cases hr
    intro H locs cells slots ls hN
    exact lv_istore (lv := m_pr ad lo) hx hb hdg (hN.2.2.2.2.2.2.has) (Nat.blt_eq.mp h1) rfl (fun ls' hl => kk H locs cells slots ls' (m_Nw_lo hN (m_LS.st1 hl)))
  · cases hr

theorem m_ok_istore_n {z : Fin 4} (hF : m_Fx p s m args meth c cc own nm nL D dA ad A B) (hdg : decode cc pc = .ok (.istore_n z, n)) (hk : m_ck own nm nL (.istore_n z) n v ds = true) (hr : m_1 sc (.istore_n z) v ds lo os h = some (lo', os', h')) (kk : m_W p l e R s m args below meth c Q nL D dA ad A B N0 S0 (pc + n) lo' os' h') : m_W p l e R s m args below meth c Q nL D dA ad A B N0 S0 pc lo os h := by
  obtain ⟨hx, hb, hml, hown, hts, hK, hA, hnm, hB⟩ := hF
  simp only [m_ck, Bool.and_eq_true, decide_eq_true_eq] at hk
  obtain ⟨rfl, h1⟩ := hk
  simp only [m_1] at hr
  split at hr
  · cases hr
    intro H locs cells slots ls hN
    exact lv_istore_n (lv := m_pr ad lo) hx hb hdg rfl (hN.2.2.2.2.2.2.has) (Nat.blt_eq.mp h1) rfl (fun ls' hl => kk H locs cells slots ls' (m_Nw_lo hN (m_LS.st1 hl)))
  · cases hr

theorem m_ok_astore {z : Nat} (hF : m_Fx p s m args meth c cc own nm nL D dA ad A B) (hdg : decode cc pc = .ok (.astore z, n)) (hk : m_ck own nm nL (.astore z) n v ds = true) (hr : m_1 sc (.astore z) v ds lo os h = some (lo', os', h')) (kk : m_W p l e R s m args below meth c Q nL D dA ad A B N0 S0 (pc + n) lo' os' h') : m_W p l e R s m args below meth c Q nL D dA ad A B N0 S0 pc lo os h := by
  obtain ⟨hx, hb, hml, hown, hts, hK, hA, hnm, hB⟩ := hF
  simp only [m_ck, Bool.and_eq_true, decide_eq_true_eq] at hk
  obtain ⟨rfl, h1⟩ := hk
  simp only [m_1] at hr
  split at hr
  · cases hr
    intro H locs cells slots ls hN
    exact lv_astore (lv := m_pr ad lo) hx hb hdg (hN.2.2.2.2.2.2.has) (Nat.blt_eq.mp h1) rfl (fun ls' hl => kk H locs cells slots ls' (m_Nw_lo hN (m_LS.st1 hl)))
  · cases hr

theorem m_ok_astore_n {z : Fin 4} (hF : m_Fx p s m args meth c cc own nm nL D dA ad A B) (hdg : decode cc pc = .ok (.astore_n z, n)) (hk : m_ck own nm nL (.astore_n z) n v ds = true) (hr : m_1 sc (.astore_n z) v ds lo os h = some (lo', os', h')) (kk : m_W p l e R s m args below meth c Q nL D dA ad A B N0 S0 (pc + n) lo' os' h') : m_W p l e R s m args below meth c Q nL D dA ad A B N0 S0 pc lo os h := by
  obtain ⟨hx, hb, hml, hown, hts, hK, hA, hnm, hB⟩ := hF
  simp only [m_ck, Bool.and_eq_true, decide_eq_true_eq] at hk
  obtain ⟨rfl, h1⟩ := hk
  simp only [m_1] at hr
  split at hr
  · cases hr
    intro H locs cells slots ls hN
    exact lv_astore_n (lv := m_pr ad lo) hx hb hdg rfl (hN.2.2.2.2.2.2.has) (Nat.blt_eq.mp h1) rfl (fun ls' hl => kk H locs cells slots ls' (m_Nw_lo hN (m_LS.st1 hl)))
  · cases hr

theorem m_ok_lstore {z : Nat} (hF : m_Fx p s m args meth c cc own nm nL D dA ad A B) (hdg : decode cc pc = .ok (.lstore z, n)) (hk : m_ck own nm nL (.lstore z) n v ds = true) (hr : m_1 sc (.lstore z) v ds lo os h = some (lo', os', h')) (kk : m_W p l e R s m args below meth c Q nL D dA ad A B N0 S0 (pc + n) lo' os' h') : m_W p l e R s m args below meth c Q nL D dA ad A B N0 S0 pc lo os h := by
  obtain ⟨hx, hb, hml, hown, hts, hK, hA, hnm, hB⟩ := hF
  simp only [m_ck, Bool.and_eq_true, decide_eq_true_eq] at hk
  obtain ⟨rfl, h1⟩ := hk
  simp only [m_1] at hr
  split at hr
  · cases hr
    intro H locs cells slots ls hN
    exact lv_lstore (lv := m_pr ad lo) hx hb hdg (hN.2.2.2.2.2.2.has) (Nat.blt_eq.mp h1) rfl (fun ls' hl => kk H locs cells slots ls' (m_Nw_lo hN (m_LS.st2 hl)))
  · cases hr

theorem m_ok_lstore_n {z : Fin 4} (hF : m_Fx p s m args meth c cc own nm nL D dA ad A B) (hdg : decode cc pc = .ok (.lstore_n z, n)) (hk : m_ck own nm nL (.lstore_n z) n v ds = true) (hr : m_1 sc (.lstore_n z) v ds lo os h = some (lo', os', h')) (kk : m_W p l e R s m args below meth c Q nL D dA ad A B N0 S0 (pc + n) lo' os' h') : m_W p l e R s m args below meth c Q nL D dA ad A B N0 S0 pc lo os h := by
  obtain ⟨hx, hb, hml, hown, hts, hK, hA, hnm, hB⟩ := hF
  simp only [m_ck, Bool.and_eq_true, decide_eq_true_eq] at hk
  obtain ⟨rfl, h1⟩ := hk
  simp only [m_1] at hr
  split at hr
  · cases hr
    intro H locs cells slots ls hN
    exact lv_lstore_n (lv := m_pr ad lo) hx hb hdg rfl (hN.2.2.2.2.2.2.has) (Nat.blt_eq.mp h1) rfl (fun ls' hl => kk H locs cells slots ls' (m_Nw_lo hN (m_LS.st2 hl)))
  · cases hr

theorem m_ok_iinc {z : Nat} {y : Int} (hF : m_Fx p s m args meth c cc own nm nL D dA ad A B) (hdg : decode cc pc = .ok (.iinc z y, n)) (hk : m_ck own nm nL (.iinc z y) n v ds = true) (hr : m_1 sc (.iinc z y) v ds lo os h = some (lo', os', h')) (kk : m_W p l e R s m args below meth c Q nL D dA ad A B N0 S0 (pc + n) lo' os' h') : m_W p l e R s m args below meth c Q nL D dA ad A B N0 S0 pc lo os h := by
  obtain ⟨hx, hb, hml, hown, hts, hK, hA, hnm, hB⟩ := hF
  simp only [m_ck, Bool.and_eq_true, decide_eq_true_eq] at hk
  obtain ⟨⟨rfl, h1⟩, h2⟩ := hk
  simp only [m_1] at hr
  split at hr
  · rename_i x hx1
    cases hr
    intro H locs cells slots ls hN
    obtain ⟨k, hk⟩ := m_pr_k (ad := ad) hx1
    exact lv_iinc (lv := m_pr ad lo) hx hb hdg hN.2.2.2.2.2.2.has hk (by rw [h2]) (Nat.blt_eq.mp h1) rfl (fun ls' hl => kk H locs cells slots ls' (m_Nw_lo hN (m_LS.st1 hl)))
  · cases hr

theorem m_ok_iadd (hF : m_Fx p s m args meth c cc own nm nL D dA ad A B) (hdg : decode cc pc = .ok (.iadd, n)) (hk : m_ck own nm nL (.iadd) n v ds = true) (hr : m_1 sc (.iadd) v ds lo os h = some (lo', os', h')) (kk : m_W p l e R s m args below meth c Q nL D dA ad A B N0 S0 (pc + n) lo' os' h') : m_W p l e R s m args below meth c Q nL D dA ad A B N0 S0 pc lo os h := by
  obtain ⟨hx, hb, hml, hown, hts, hK, hA, hnm, hB⟩ := hF
  simp only [m_ck, decide_eq_true_eq] at hk
  obtain rfl := hk
  simp only [m_1] at hr
  split at hr
  · cases hr
    intro H locs cells slots ls hN
    exact lv_iadd hx hb hdg (kk H locs cells slots ls hN)
  · cases hr

theorem m_ok_isub (hF : m_Fx p s m args meth c cc own nm nL D dA ad A B) (hdg : decode cc pc = .ok (.isub, n)) (hk : m_ck own nm nL (.isub) n v ds = true) (hr : m_1 sc (.isub) v ds lo os h = some (lo', os', h')) (kk : m_W p l e R s m args below meth c Q nL D dA ad A B N0 S0 (pc + n) lo' os' h') : m_W p l e R s m args below meth c Q nL D dA ad A B N0 S0 pc lo os h := by
  obtain ⟨hx, hb, hml, hown, hts, hK, hA, hnm, hB⟩ := hF
  simp only [m_ck, decide_eq_true_eq] at hk
  obtain rfl := hk
  simp only [m_1] at hr
  split at hr
  · cases hr
    intro H locs cells slots ls hN
    exact lv_isub hx hb hdg (kk H locs cells slots ls hN)
  · cases hr

theorem m_ok_imul (hF : m_Fx p s m args meth c cc own nm nL D dA ad A B) (hdg : decode cc pc = .ok (.imul, n)) (hk : m_ck own nm nL (.imul) n v ds = true) (hr : m_1 sc (.imul) v ds lo os h = some (lo', os', h')) (kk : m_W p l e R s m args below meth c Q nL D dA ad A B N0 S0 (pc + n) lo' os' h') : m_W p l e R s m args below meth c Q nL D dA ad A B N0 S0 pc lo os h := by
  obtain ⟨hx, hb, hml, hown, hts, hK, hA, hnm, hB⟩ := hF
  simp only [m_ck, decide_eq_true_eq] at hk
  obtain rfl := hk
  simp only [m_1] at hr
  split at hr
  · cases hr
    intro H locs cells slots ls hN
    exact lv_imul hx hb hdg (kk H locs cells slots ls hN)
  · cases hr

theorem m_ok_iand (hF : m_Fx p s m args meth c cc own nm nL D dA ad A B) (hdg : decode cc pc = .ok (.iand, n)) (hk : m_ck own nm nL (.iand) n v ds = true) (hr : m_1 sc (.iand) v ds lo os h = some (lo', os', h')) (kk : m_W p l e R s m args below meth c Q nL D dA ad A B N0 S0 (pc + n) lo' os' h') : m_W p l e R s m args below meth c Q nL D dA ad A B N0 S0 pc lo os h := by
  obtain ⟨hx, hb, hml, hown, hts, hK, hA, hnm, hB⟩ := hF
  simp only [m_ck, decide_eq_true_eq] at hk
  obtain rfl := hk
  simp only [m_1] at hr
  split at hr
  · cases hr
    intro H locs cells slots ls hN
    exact lv_iand hx hb hdg (kk H locs cells slots ls hN)
  · cases hr

theorem m_ok_ior (hF : m_Fx p s m args meth c cc own nm nL D dA ad A B) (hdg : decode cc pc = .ok (.ior, n)) (hk : m_ck own nm nL (.ior) n v ds = true) (hr : m_1 sc (.ior) v ds lo os h = some (lo', os', h')) (kk : m_W p l e R s m args below meth c Q nL D dA ad A B N0 S0 (pc + n) lo' os' h') : m_W p l e R s m args below meth c Q nL D dA ad A B N0 S0 pc lo os h := by
  obtain ⟨hx, hb, hml, hown, hts, hK, hA, hnm, hB⟩ := hF
  simp only [m_ck, decide_eq_true_eq] at hk
  obtain rfl := hk
  simp only [m_1] at hr
  split at hr
  · cases hr
    intro H locs cells slots ls hN
    exact lv_ior hx hb hdg (kk H locs cells slots ls hN)
  · cases hr

theorem m_ok_ixor (hF : m_Fx p s m args meth c cc own nm nL D dA ad A B) (hdg : decode cc pc = .ok (.ixor, n)) (hk : m_ck own nm nL (.ixor) n v ds = true) (hr : m_1 sc (.ixor) v ds lo os h = some (lo', os', h')) (kk : m_W p l e R s m args below meth c Q nL D dA ad A B N0 S0 (pc + n) lo' os' h') : m_W p l e R s m args below meth c Q nL D dA ad A B N0 S0 pc lo os h := by
  obtain ⟨hx, hb, hml, hown, hts, hK, hA, hnm, hB⟩ := hF
  simp only [m_ck, decide_eq_true_eq] at hk
  obtain rfl := hk
  simp only [m_1] at hr
  split at hr
  · cases hr
    intro H locs cells slots ls hN
    exact lv_ixor hx hb hdg (kk H locs cells slots ls hN)
  · cases hr

theorem m_ok_ladd (hF : m_Fx p s m args meth c cc own nm nL D dA ad A B) (hdg : decode cc pc = .ok (.ladd, n)) (hk : m_ck own nm nL (.ladd) n v ds = true) (hr : m_1 sc (.ladd) v ds lo os h = some (lo', os', h')) (kk : m_W p l e R s m args below meth c Q nL D dA ad A B N0 S0 (pc + n) lo' os' h') : m_W p l e R s m args below meth c Q nL D dA ad A B N0 S0 pc lo os h := by
  obtain ⟨hx, hb, hml, hown, hts, hK, hA, hnm, hB⟩ := hF
  simp only [m_ck, decide_eq_true_eq] at hk
  obtain rfl := hk
  simp only [m_1] at hr
  split at hr
  · cases hr
    intro H locs cells slots ls hN
    exact lv_ladd hx hb hdg (kk H locs cells slots ls hN)
  · cases hr

theorem m_ok_lmul (hF : m_Fx p s m args meth c cc own nm nL D dA ad A B) (hdg : decode cc pc = .ok (.lmul, n)) (hk : m_ck own nm nL (.lmul) n v ds = true) (hr : m_1 sc (.lmul) v ds lo os h = some (lo', os', h')) (kk : m_W p l e R s m args below meth c Q nL D dA ad A B N0 S0 (pc + n) lo' os' h') : m_W p l e R s m args below meth c Q nL D dA ad A B N0 S0 pc lo os h := by
  obtain ⟨hx, hb, hml, hown, hts, hK, hA, hnm, hB⟩ := hF
  simp only [m_ck, decide_eq_true_eq] at hk
  obtain rfl := hk
  simp only [m_1] at hr
  split at hr
  · cases hr
    intro H locs cells slots ls hN
    exact lv_lmul hx hb hdg (kk H locs cells slots ls hN)
  · cases hr

theorem m_ok_land (hF : m_Fx p s m args meth c cc own nm nL D dA ad A B) (hdg : decode cc pc = .ok (.land, n)) (hk : m_ck own nm nL (.land) n v ds = true) (hr : m_1 sc (.land) v ds lo os h = some (lo', os', h')) (kk : m_W p l e R s m args below meth c Q nL D dA ad A B N0 S0 (pc + n) lo' os' h') : m_W p l e R s m args below meth c Q nL D dA ad A B N0 S0 pc lo os h := by
  obtain ⟨hx, hb, hml, hown, hts, hK, hA, hnm, hB⟩ := hF
  simp only [m_ck, decide_eq_true_eq] at hk
  obtain rfl := hk
  simp only [m_1] at hr
  split at hr
  · cases hr
    intro H locs cells slots ls hN
    exact lv_land hx hb hdg (kk H locs cells slots ls hN)
  · cases hr

theorem m_ok_lor (hF : m_Fx p s m args meth c cc own nm nL D dA ad A B) (hdg : decode cc pc = .ok (.lor, n)) (hk : m_ck own nm nL (.lor) n v ds = true) (hr : m_1 sc (.lor) v ds lo os h = some (lo', os', h')) (kk : m_W p l e R s m args below meth c Q nL D dA ad A B N0 S0 (pc + n) lo' os' h') : m_W p l e R s m args below meth c Q nL D dA ad A B N0 S0 pc lo os h := by
  obtain ⟨hx, hb, hml, hown, hts, hK, hA, hnm, hB⟩ := hF
  simp only [m_ck, decide_eq_true_eq] at hk
  obtain rfl := hk
  simp only [m_1] at hr
  split at hr
  · cases hr
    intro H locs cells slots ls hN
    exact lv_lor hx hb hdg (kk H locs cells slots ls hN)
  · cases hr

theorem m_ok_ishl (hF : m_Fx p s m args meth c cc own nm nL D dA ad A B) (hdg : decode cc pc = .ok (.ishl, n)) (hk : m_ck own nm nL (.ishl) n v ds = true) (hr : m_1 sc (.ishl) v ds lo os h = some (lo', os', h')) (kk : m_W p l e R s m args below meth c Q nL D dA ad A B N0 S0 (pc + n) lo' os' h') : m_W p l e R s m args below meth c Q nL D dA ad A B N0 S0 pc lo os h := by
  obtain ⟨hx, hb, hml, hown, hts, hK, hA, hnm, hB⟩ := hF
  simp only [m_ck, decide_eq_true_eq] at hk
  obtain rfl := hk
  simp only [m_1] at hr
  split at hr
  · cases hr
    intro H locs cells slots ls hN
    exact lv_ishl hx hb hdg (kk H locs cells slots ls hN)
  · cases hr

theorem m_ok_ishr (hF : m_Fx p s m args meth c cc own nm nL D dA ad A B) (hdg : decode cc pc = .ok (.ishr, n)) (hk : m_ck own nm nL (.ishr) n v ds = true) (hr : m_1 sc (.ishr) v ds lo os h = some (lo', os', h')) (kk : m_W p l e R s m args below meth c Q nL D dA ad A B N0 S0 (pc + n) lo' os' h') : m_W p l e R s m args below meth c Q nL D dA ad A B N0 S0 pc lo os h := by
  obtain ⟨hx, hb, hml, hown, hts, hK, hA, hnm, hB⟩ := hF
  simp only [m_ck, decide_eq_true_eq] at hk
  obtain rfl := hk
  simp only [m_1] at hr
  split at hr
  · cases hr
    intro H locs cells slots ls hN
    exact lv_ishr hx hb hdg (kk H locs cells slots ls hN)
  · cases hr

theorem m_ok_iushr (hF : m_Fx p s m args meth c cc own nm nL D dA ad A B) (hdg : decode cc pc = .ok (.iushr, n)) (hk : m_ck own nm nL (.iushr) n v ds = true) (hr : m_1 sc (.iushr) v ds lo os h = some (lo', os', h')) (kk : m_W p l e R s m args below meth c Q nL D dA ad A B N0 S0 (pc + n) lo' os' h') : m_W p l e R s m args below meth c Q nL D dA ad A B N0 S0 pc lo os h := by
  obtain ⟨hx, hb, hml, hown, hts, hK, hA, hnm, hB⟩ := hF
  simp only [m_ck, decide_eq_true_eq] at hk
  obtain rfl := hk
  simp only [m_1] at hr
  split at hr
  · cases hr
    intro H locs cells slots ls hN
    exact lv_iushr hx hb hdg rfl (kk H locs cells slots ls hN)
  · cases hr

theorem m_ok_lshl (hF : m_Fx p s m args meth c cc own nm nL D dA ad A B) (hdg : decode cc pc = .ok (.lshl, n)) (hk : m_ck own nm nL (.lshl) n v ds = true) (hr : m_1 sc (.lshl) v ds lo os h = some (lo', os', h')) (kk : m_W p l e R s m args below meth c Q nL D dA ad A B N0 S0 (pc + n) lo' os' h') : m_W p l e R s m args below meth c Q nL D dA ad A B N0 S0 pc lo os h := by
  obtain ⟨hx, hb, hml, hown, hts, hK, hA, hnm, hB⟩ := hF
  simp only [m_ck, decide_eq_true_eq] at hk
  obtain rfl := hk
  simp only [m_1] at hr
  split at hr
  · cases hr
    intro H locs cells slots ls hN
    exact lv_lshl hx hb hdg rfl (kk H locs cells slots ls hN)
  · cases hr

theorem m_ok_lshr (hF : m_Fx p s m args meth c cc own nm nL D dA ad A B) (hdg : decode cc pc = .ok (.lshr, n)) (hk : m_ck own nm nL (.lshr) n v ds = true) (hr : m_1 sc (.lshr) v ds lo os h = some (lo', os', h')) (kk : m_W p l e R s m args below meth c Q nL D dA ad A B N0 S0 (pc + n) lo' os' h') : m_W p l e R s m args below meth c Q nL D dA ad A B N0 S0 pc lo os h := by
  obtain ⟨hx, hb, hml, hown, hts, hK, hA, hnm, hB⟩ := hF
  simp only [m_ck, decide_eq_true_eq] at hk
  obtain rfl := hk
  simp only [m_1] at hr
  split at hr
  · cases hr
    intro H locs cells slots ls hN
    exact lv_lshr hx hb hdg rfl (kk H locs cells slots ls hN)
  · cases hr

theorem m_ok_lushr (hF : m_Fx p s m args meth c cc own nm nL D dA ad A B) (hdg : decode cc pc = .ok (.lushr, n)) (hk : m_ck own nm nL (.lushr) n v ds = true) (hr : m_1 sc (.lushr) v ds lo os h = some (lo', os', h')) (kk : m_W p l e R s m args below meth c Q nL D dA ad A B N0 S0 (pc + n) lo' os' h') : m_W p l e R s m args below meth c Q nL D dA ad A B N0 S0 pc lo os h := by
  obtain ⟨hx, hb, hml, hown, hts, hK, hA, hnm, hB⟩ := hF
  simp only [m_ck, decide_eq_true_eq] at hk
  obtain rfl := hk
  simp only [m_1] at hr
  split at hr
  · cases hr
    intro H locs cells slots ls hN
    exact lv_lushr hx hb hdg rfl (kk H locs cells slots ls hN)
  · cases hr

theorem m_ok_i2l (hF : m_Fx p s m args meth c cc own nm nL D dA ad A B) (hdg : decode cc pc = .ok (.i2l, n)) (hk : m_ck own nm nL (.i2l) n v ds = true) (hr : m_1 sc (.i2l) v ds lo os h = some (lo', os', h')) (kk : m_W p l e R s m args below meth c Q nL D dA ad A B N0 S0 (pc + n) lo' os' h') : m_W p l e R s m args below meth c Q nL D dA ad A B N0 S0 pc lo os h := by
  obtain ⟨hx, hb, hml, hown, hts, hK, hA, hnm, hB⟩ := hF
  simp only [m_ck, decide_eq_true_eq] at hk
  obtain rfl := hk
  simp only [m_1] at hr
  split at hr
  · cases hr
    intro H locs cells slots ls hN
    exact lv_i2l hx hb hdg rfl (kk H locs cells slots ls hN)
  · cases hr

theorem m_ok_l2i (hF : m_Fx p s m args meth c cc own nm nL D dA ad A B) (hdg : decode cc pc = .ok (.l2i, n)) (hk : m_ck own nm nL (.l2i) n v ds = true) (hr : m_1 sc (.l2i) v ds lo os h = some (lo', os', h')) (kk : m_W p l e R s m args below meth c Q nL D dA ad A B N0 S0 (pc + n) lo' os' h') : m_W p l e R s m args below meth c Q nL D dA ad A B N0 S0 pc lo os h := by
  obtain ⟨hx, hb, hml, hown, hts, hK, hA, hnm, hB⟩ := hF
  simp only [m_ck, decide_eq_true_eq] at hk
  obtain rfl := hk
  simp only [m_1] at hr
  split at hr
  · cases hr
    intro H locs cells slots ls hN
    exact lv_l2i hx hb hdg rfl (kk H locs cells slots ls hN)
  · cases hr

theorem m_ok_i2b (hF : m_Fx p s m args meth c cc own nm nL D dA ad A B) (hdg : decode cc pc = .ok (.i2b, n)) (hk : m_ck own nm nL (.i2b) n v ds = true) (hr : m_1 sc (.i2b) v ds lo os h = some (lo', os', h')) (kk : m_W p l e R s m args below meth c Q nL D dA ad A B N0 S0 (pc + n) lo' os' h') : m_W p l e R s m args below meth c Q nL D dA ad A B N0 S0 pc lo os h := by
  obtain ⟨hx, hb, hml, hown, hts, hK, hA, hnm, hB⟩ := hF
  simp only [m_ck, decide_eq_true_eq] at hk
  obtain rfl := hk
  simp only [m_1] at hr
  split at hr
  · cases hr
    intro H locs cells slots ls hN
    exact lv_i2b hx hb hdg rfl (kk H locs cells slots ls hN)
  · cases hr

theorem m_ok_i2s (hF : m_Fx p s m args meth c cc own nm nL D dA ad A B) (hdg : decode cc pc = .ok (.i2s, n)) (hk : m_ck own nm nL (.i2s) n v ds = true) (hr : m_1 sc (.i2s) v ds lo os h = some (lo', os', h')) (kk : m_W p l e R s m args below meth c Q nL D dA ad A B N0 S0 (pc + n) lo' os' h') : m_W p l e R s m args below meth c Q nL D dA ad A B N0 S0 pc lo os h := by
  obtain ⟨hx, hb, hml, hown, hts, hK, hA, hnm, hB⟩ := hF
  simp only [m_ck, decide_eq_true_eq] at hk
  obtain rfl := hk
  simp only [m_1] at hr
  split at hr
  · cases hr
    intro H locs cells slots ls hN
    exact lv_i2s hx hb hdg rfl (kk H locs cells slots ls hN)
  · cases hr

theorem m_ok_idiv (hF : m_Fx p s m args meth c cc own nm nL D dA ad A B) (hdg : decode cc pc = .ok (.idiv, n)) (hk : m_ck own nm nL (.idiv) n v ds = true) (hr : m_1 sc (.idiv) v ds lo os h = some (lo', os', h')) (kk : m_W p l e R s m args below meth c Q nL D dA ad A B N0 S0 (pc + n) lo' os' h') : m_W p l e R s m args below meth c Q nL D dA ad A B N0 S0 pc lo os h := by
  obtain ⟨hx, hb, hml, hown, hts, hK, hA, hnm, hB⟩ := hF
  simp only [m_ck, decide_eq_true_eq] at hk
  obtain rfl := hk
  simp only [m_1] at hr
  split at hr
  · split at hr
    · cases hr
    · rename_i hy
      cases hr
      intro H locs cells slots ls hN
      exact lv_idiv hx hb hdg hy (kk H locs cells slots ls hN)
  · cases hr

theorem m_ok_irem (hF : m_Fx p s m args meth c cc own nm nL D dA ad A B) (hdg : decode cc pc = .ok (.irem, n)) (hk : m_ck own nm nL (.irem) n v ds = true) (hr : m_1 sc (.irem) v ds lo os h = some (lo', os', h')) (kk : m_W p l e R s m args below meth c Q nL D dA ad A B N0 S0 (pc + n) lo' os' h') : m_W p l e R s m args below meth c Q nL D dA ad A B N0 S0 pc lo os h := by
  obtain ⟨hx, hb, hml, hown, hts, hK, hA, hnm, hB⟩ := hF
  simp only [m_ck, decide_eq_true_eq] at hk
  obtain rfl := hk
  simp only [m_1] at hr
  split at hr
  · split at hr
    · cases hr
    · rename_i hy
      cases hr
      intro H locs cells slots ls hN
      exact lv_irem hx hb hdg hy (kk H locs cells slots ls hN)
  · cases hr

theorem m_ok_lcmp (hF : m_Fx p s m args meth c cc own nm nL D dA ad A B) (hdg : decode cc pc = .ok (.lcmp, n)) (hk : m_ck own nm nL (.lcmp) n v ds = true) (hr : m_1 sc (.lcmp) v ds lo os h = some (lo', os', h')) (kk : m_W p l e R s m args below meth c Q nL D dA ad A B N0 S0 (pc + n) lo' os' h') : m_W p l e R s m args below meth c Q nL D dA ad A B N0 S0 pc lo os h := by
  obtain ⟨hx, hb, hml, hown, hts, hK, hA, hnm, hB⟩ := hF
  simp only [m_ck, decide_eq_true_eq] at hk
  obtain rfl := hk
  simp only [m_1] at hr
  split at hr
  · cases hr
    intro H locs cells slots ls hN
    exact W.lcmp hx hb hdg (kk H locs cells slots ls hN)
  · cases hr

theorem m_ok_dup (hF : m_Fx p s m args meth c cc own nm nL D dA ad A B) (hdg : decode cc pc = .ok (.dup, n)) (hk : m_ck own nm nL (.dup) n v ds = true) (hr : m_1 sc (.dup) v ds lo os h = some (lo', os', h')) (kk : m_W p l e R s m args below meth c Q nL D dA ad A B N0 S0 (pc + n) lo' os' h') : m_W p l e R s m args below meth c Q nL D dA ad A B N0 S0 pc lo os h := by
  obtain ⟨hx, hb, hml, hown, hts, hK, hA, hnm, hB⟩ := hF
  simp only [m_ck, decide_eq_true_eq] at hk
  obtain rfl := hk
  simp only [m_1] at hr
  split at hr
  · cases hr
    intro H locs cells slots ls hN
    exact lv_dup hx hb hdg rfl (kk H locs cells slots ls hN)
  · cases hr
    intro H locs cells slots ls hN
    exact lv_dup hx hb hdg rfl (kk H locs cells slots ls hN)
  · cases hr

theorem m_ok_dup_x1 (hF : m_Fx p s m args meth c cc own nm nL D dA ad A B) (hdg : decode cc pc = .ok (.dup_x1, n)) (hk : m_ck own nm nL (.dup_x1) n v ds = true) (hr : m_1 sc (.dup_x1) v ds lo os h = some (lo', os', h')) (kk : m_W p l e R s m args below meth c Q nL D dA ad A B N0 S0 (pc + n) lo' os' h') : m_W p l e R s m args below meth c Q nL D dA ad A B N0 S0 pc lo os h := by
  obtain ⟨hx, hb, hml, hown, hts, hK, hA, hnm, hB⟩ := hF
  simp only [m_ck, decide_eq_true_eq] at hk
  obtain rfl := hk
  simp only [m_1] at hr
  split at hr
  · cases hr
    intro H locs cells slots ls hN
    exact lv_dup_x1 hx hb hdg rfl rfl (kk H locs cells slots ls hN)
  · cases hr

theorem m_ok_dup2 (hF : m_Fx p s m args meth c cc own nm nL D dA ad A B) (hdg : decode cc pc = .ok (.dup2, n)) (hk : m_ck own nm nL (.dup2) n v ds = true) (hr : m_1 sc (.dup2) v ds lo os h = some (lo', os', h')) (kk : m_W p l e R s m args below meth c Q nL D dA ad A B N0 S0 (pc + n) lo' os' h') : m_W p l e R s m args below meth c Q nL D dA ad A B N0 S0 pc lo os h := by
  obtain ⟨hx, hb, hml, hown, hts, hK, hA, hnm, hB⟩ := hF
  simp only [m_ck, decide_eq_true_eq] at hk
  obtain rfl := hk
  simp only [m_1] at hr
  split at hr
  · cases hr
    intro H locs cells slots ls hN
    exact lv_dup2_11 hx hb hdg rfl rfl (kk H locs cells slots ls hN)
  · cases hr

theorem m_ok_pop (hF : m_Fx p s m args meth c cc own nm nL D dA ad A B) (hdg : decode cc pc = .ok (.pop, n)) (hk : m_ck own nm nL (.pop) n v ds = true) (hr : m_1 sc (.pop) v ds lo os h = some (lo', os', h')) (kk : m_W p l e R s m args below meth c Q nL D dA ad A B N0 S0 (pc + n) lo' os' h') : m_W p l e R s m args below meth c Q nL D dA ad A B N0 S0 pc lo os h := by
  obtain ⟨hx, hb, hml, hown, hts, hK, hA, hnm, hB⟩ := hF
  simp only [m_ck, decide_eq_true_eq] at hk
  obtain rfl := hk
  simp only [m_1] at hr
  split at hr
  · cases hr
    intro H locs cells slots ls hN
    exact lv_pop hx hb hdg rfl (kk H locs cells slots ls hN)
  · cases hr

end MS
