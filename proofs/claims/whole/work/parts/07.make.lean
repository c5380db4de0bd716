/-! ROWS OF ROWS -/
/-- what stands when i of the rows have been made -/
def m_mi (p : Program) (l : Launch) (e : Env) (R : Room) (s : State) (m : MethodId) (args : Array Value) (below : List Frame) (meth : Method) (c : Code) (T : State) (cA cI : ClassId) (N K : Nat) (locs : List Loc) (cells slots i : Nat) (T' : State) : Prop :=
  (∃ ls, Stand p l e R s m args below meth c T' ls (cells + 1 + i) (slots + N + i * K) ∧ ∀ q ∈ ls, q ∈ locs ∨ q.base = T.heap.size) ∧ T'.vm = T.vm ∧ T'.heap.size = T.heap.size + 1 + i ∧
  T'.heap[T.heap.size]? = some (arrV cA N fun j => if j < i then .ref (T.heap.size + 1 + j) else .null) ∧ (∀ j, j < i → T'.heap[T.heap.size + 1 + j]? = some (arrV cI K fun _ => .int 0)) ∧ ∀ q, q < T.heap.size → T'.heap[q]? = T.heap[q]?
section MU
variable {p : Program} {l : Launch} {e : Env} {R : Room} {s : State} {m : MethodId} {args : Array Value} {below : List Frame} {meth : Method} {c : Code} {locs : List Loc} {cells slots : Nat}
theorem m_wpA {E : CtlPost} {d : Bool} {acts : List Action} {s : State} {c comp : ClassId} {k : Class} {type : FieldType} {len : Nat} {init : Value} (hk : s.vm.classes[c]? = some k) (hkind : k.kind = .array comp type) (hl : ¬ len > e.platform.arrayLengthLimit) (hh : ¬ len * componentBytes type > e.platform.maxHeapBytes) (hfit : fits type init = true) {Q : Addr → Pre} (h1 : s.heap.size < e.platform.maxCells) (h2 : s.slotsUsed + len ≤ e.platform.maxSlots) (hq : ∀ acts', Q s.heap.size d acts' (s.pushCell (arrV c len fun _ => init))) : wp (Jvm.newArray c len init) Q E e d acts s := by
  have hf : ∀ i v, (Array.replicate len init)[i]? = some v → s.fitsSlot c .none i v = true := by
    intro i v hv
    rw [Array.getElem?_replicate] at hv
    split at hv
    · cases hv; simp [State.fitsSlot, State.slotType?, hk, hkind, hfit]
    · cases hv
  simp only [Jvm.newArray, Jvm.arrayFits, wp_bind', W.ask, W.ite, hl, if_false, wp_pure', W.theClass, hk, hkind, hh, W.alloc, W.stop, Option.some.injEq, exists_eq_left', Array.size_replicate]
  rw [if_neg (by omega)]
  refine ⟨h1, h2, hf, ?_⟩
  rw [arrV_new]
  exact hq _
theorem m_mi_0 {T : State} {cA cI : ClassId} {N K : Nat} (X : Stand p l e R s m args below meth c T locs cells slots) : m_mi p l e R s m args below meth c T cA cI N K locs cells slots 0 (T.pushCell (arrV cA N fun _ => .null)) := by
  refine ⟨⟨locs, ?_, fun q hq => Or.inl hq⟩, by simp, by simp, ?_, fun j h => absurd h (Nat.not_lt_zero _), fun q hq => State.heap_pushCell_of_lt _ _ hq⟩
  · have h := X.pushed (arrV cA N fun _ => .null)
    rw [arrV_size] at h
    simpa using h
  · rw [State.heap_pushCell_size]
    simp
theorem m_mi_s {T T' : State} {cA cI : ClassId} {N K i : Nat} (hi : i < N) (h : m_mi p l e R s m args below meth c T cA cI N K locs cells slots i T') : m_mi p l e R s m args below meth c T cA cI N K locs cells slots (i + 1) ((T'.pushCell (arrV cI K fun _ => .int 0)).setCell T.heap.size ((arrV cA N fun j => if j < i then .ref (T.heap.size + 1 + j) else .null).setSlot i (.ref T'.heap.size))) := by
  obtain ⟨⟨ls, X, hl⟩, hv, hz, ho, hr, hq⟩ := h
  have hlt : T.heap.size < T'.heap.size := by omega
  have ho1 : (T'.pushCell (arrV cI K fun _ => .int 0)).heap[T.heap.size]? = some (arrV cA N fun j => if j < i then .ref (T.heap.size + 1 + j) else .null) := by
    rw [State.heap_pushCell_of_lt (h := hlt)]; exact ho
  refine ⟨⟨ls ++ [⟨T.heap.size, i⟩], ?_, ?_⟩, by simp [hv], ?_, ?_, ?_, ?_⟩
  · have h := (X.pushed (arrV cI K fun _ => .int 0)).stored ho1 i (.ref T'.heap.size)
    rw [arrV_size] at h
    have e3 : slots + N + (i + 1) * K = slots + N + i * K + K := by rw [Nat.succ_mul]; omega
    rw [e3]
    exact h
  · intro q hq
    rcases List.mem_append.mp hq with h | h
    · exact hl q h
    · rw [List.mem_singleton] at h
      exact Or.inr (by rw [h])
  · rw [size_setCell]; simp [hz]; omega
  · rw [State.heap_setCell_self ho1, arrV_store]
    refine congrArg some (congrArg (arrV cA N) (funext fun j => ?_))
    unfold updV
    by_cases hj : j = i
    · subst hj; rw [if_pos rfl, if_pos (Nat.lt_succ_self _), hz]
    · rw [if_neg hj]
      show (if j < i then _ else _) = _
      by_cases hj2 : j < i
      · rw [if_pos hj2, if_pos (by omega)]
      · rw [if_neg hj2, if_neg (by omega)]
  · intro j hj
    rw [State.heap_setCell_other (show T.heap.size ≠ T.heap.size + 1 + j by omega)]
    by_cases h : j = i
    · subst h
      rw [← hz]
      exact State.heap_pushCell_size _ _
    · have h9 : T.heap.size + 1 + j < T'.heap.size := by omega
      rw [State.heap_pushCell_of_lt (h := h9)]
      exact hr j (by omega)
  · intro q h
    have h9 : q < T'.heap.size := by omega
    rw [State.heap_setCell_other (show T.heap.size ≠ q by omega), State.heap_pushCell_of_lt (h := h9)]
    exact hq q h
/-- the state behind i rows -/
def m_ms (T : State) (cA cI : ClassId) (N K : Nat) : Nat → State
  | 0 => T.pushCell (arrV cA N fun _ => .null)
  | i + 1 => ((m_ms T cA cI N K i).pushCell (arrV cI K fun _ => .int 0)).setCell T.heap.size ((arrV cA N fun j => if j < i then .ref (T.heap.size + 1 + j) else .null).setSlot i (.ref (m_ms T cA cI N K i).heap.size))
theorem m_ms_mi {T : State} {cA cI : ClassId} {N K : Nat} (X : Stand p l e R s m args below meth c T locs cells slots) : ∀ i, i ≤ N → m_mi p l e R s m args below meth c T cA cI N K locs cells slots i (m_ms T cA cI N K i)
  | 0, _ => m_mi_0 X
  | i + 1, h => m_mi_s h (m_ms_mi X i (Nat.le_of_succ_le h))
theorem m_mi_go {T : State} {cA cI cc : ClassId} {kA kI : Class} {n k : Int32} (X : Stand p l e R s m args below meth c T locs cells slots) (hkA : T.vm.classes[cA]? = some kA) (hkindA : kA.kind = .array cI (.array .int)) (hkI : T.vm.classes[cI]? = some kI) (hkindI : kI.kind = .array cc .int) (hn : ¬ n < 0) (hk : ¬ k < 0) (hN : n.toNatClampNeg < 100000) (hK : k.toNatClampNeg < 100000) (h1 : cells + (1 + n.toNatClampNeg) ≤ R.cells) (h2 : slots + (n.toNatClampNeg + n.toNatClampNeg * k.toNatClampNeg) ≤ R.slots)
    {E : CtlPost} {d : Bool} {acts : List Action} {f : JFrame} {Q : Addr → Pre} (hq : ∀ d' acts', Q T.heap.size d' acts' ((m_ms T cA cI n.toNatClampNeg k.toNatClampNeg n.toNatClampNeg).setTop f)) : wp (multianewarray.make cA [n, k]) Q E e d acts (T.setTop f) := by
  have hl : ∀ a : Nat, a < 100000 → ¬ a > e.platform.arrayLengthLimit := fun a ha => by rw [Launch.admits_arrayLengthLimit X.admits]; omega
  have hh : ∀ a : Nat, a < 100000 → ¬ a * 4 > e.platform.maxHeapBytes := fun a ha => by rw [Launch.admits_maxHeapBytes X.admits]; omega
  have hf : ([k].find? (· < 0)) = none := by simp [hk]
  obtain ⟨hr1, hr2⟩ := X.roomAbove h1 h2
  rw [multianewarray.make]
  simp only [wp_bind', W.ite, hn, if_false, wp_pure', W.theClass, State.vm_setTop, hkA, hkindA, Option.some.injEq, exists_eq_left']
  refine m_wpA (k := kA) (by simpa using hkA) hkindA (hl _ hN) (hh _ hN) rfl (by simp; omega) (by simp; omega) fun acts' => ?_
  simp only [hf]
  rw [ite_self, wp_bind', Std.Legacy.Range.forIn_eq_forIn_range']
  have hsz : ([:n.toNatClampNeg] : Std.Legacy.Range).size = n.toNatClampNeg := by simp [Std.Legacy.Range.size]
  rw [hsz]
  show wp (forIn (List.range' 0 n.toNatClampNeg 1) PUnit.unit _) _ E e d _ _
  refine wp_forIn_inv (fun rest s' => ∃ i, i + rest.length = n.toNatClampNeg ∧ rest = List.range' i rest.length ∧ s' = (m_ms T cA cI n.toNatClampNeg k.toNatClampNeg i).setTop f) _ _ ⟨0, by simp, by simp, ?_⟩ ?_ ?_
  · rw [State.pushCell_setTop]
    rfl
  · rintro x rest s' d' acts' Q' ⟨i, hi, hl2, rfl⟩ hnext
    simp only [List.length_cons, List.range'_succ, List.cons.injEq] at hi hl2
    obtain ⟨rfl, hrest⟩ := hl2
    have hmul : x * k.toNatClampNeg + k.toNatClampNeg ≤ n.toNatClampNeg * k.toNatClampNeg := by
      have := Nat.mul_le_mul_right k.toNatClampNeg (show x + 1 ≤ n.toNatClampNeg by omega)
      rw [Nat.succ_mul] at this; exact this
    have hm := m_ms_mi (cA := cA) (cI := cI) (K := k.toNatClampNeg) X x (show x ≤ n.toNatClampNeg by omega)
    generalize hT' : m_ms T cA cI n.toNatClampNeg k.toNatClampNeg x = T' at hm
    obtain ⟨ls, XT, -⟩ := hm.1
    have hv := hm.2.1
    have hz := hm.2.2.1
    obtain ⟨r1, r2⟩ := XT.roomAbove (a := 1) (b := k.toNatClampNeg) (by omega) (by omega)
    simp only [wp_bind']
    rw [multianewarray.make]
    simp only [wp_bind', W.ite, hk, if_false, wp_pure', W.theClass, State.vm_setTop, hv, hkI, hkindI, Option.some.injEq, exists_eq_left']
    refine m_wpA (k := kI) (by simpa [hv] using hkI) hkindI (hl _ hK) (hh _ hK) rfl (by simp; omega) (by simp; omega) fun acts'' => ?_
    simp only [wp_bind', W.writeLoc, wp_pure']
    have hlt0 : T.heap.size < T'.heap.size := by omega
    refine ⟨arrV cA n.toNatClampNeg fun j => if j < x then .ref (T.heap.size + 1 + j) else .null, ?_, ?_, ?_, ?_, hnext _ _ _ ⟨x + 1, by omega, hrest, ?_⟩⟩
    · simp only [State.heap_setTop, State.pushCell_setTop]
      rw [State.heap_pushCell_of_lt (h := hlt0)]; exact hm.2.2.2.1
    · simp [arrV]
    · rw [arrV_size]; omega
    · simp [State.fitsSlot, State.slotType?, arrV, hv, hkA, hkindA, fits]
    · simp only [State.heap_setTop, State.pushCell_setTop, State.setCell_setTop, m_ms, hT']
      rfl
  · rintro s' d' acts' ⟨i, hi, -, rfl⟩
    simp only [List.length_nil, Nat.add_zero] at hi
    subst hi
    simp only [wp_pure']
    exact hq _ _
theorem m_mna {H : Heap} {Q : State → Prop} {cc : ByteArray} {own : String} {z pc : Nat} {ls : Array Slot} {rest : List Value} (hexec : p.tables.exec = Jvm.exec) (hb : c.code = cc) (hown : s.vm.findClass own = some m.cls) (hcl : (Cond.classLink own z "[[I").before args s = true) (hov : (Cond.arrayOver (.array .int)).before args s = true) (har : (Cond.arrayClass .int).before args s = true) {n k : Int32} (hn : ¬ n < 0) (hk : ¬ k < 0) (hN : n.toNatClampNeg < 100000) (hK : k.toNatClampNeg < 100000) (h1 : cells + (1 + n.toNatClampNeg) ≤ R.cells) (h2 : slots + (n.toNatClampNeg + n.toNatClampNeg * k.toNatClampNeg) ≤ R.slots) (hdg : decode cc pc = .ok (.multianewarray z 2, 4))
    (kk : ∀ (cA cI : ClassId) (H1 : Heap) (locs1 : List Loc), s.vm.findClass "[[I" = some cA → s.vm.findClass "[I" = some cI → (∀ q ∈ locs1, q ∈ locs ∨ q.base = H.size) → H1.size = H.size + 1 + n.toNatClampNeg → H1[H.size]? = some (arrV cA n.toNatClampNeg fun j => if j < n.toNatClampNeg then .ref (H.size + 1 + j) else .null) → (∀ j, j < n.toNatClampNeg → H1[H.size + 1 + j]? = some (arrV cI k.toNatClampNeg fun _ => .int 0)) → (∀ q : Nat, q < H.size → H1[q]? = H[q]?) →
      W p l e R s m args below meth c H1 locs1 (cells + 1 + n.toNatClampNeg) (slots + n.toNatClampNeg + n.toNatClampNeg * k.toNatClampNeg) Q (F0 m (pc + 4) ls (.ref H.size :: rest))) : W p l e R s m args below meth c H locs cells slots Q (F0 m pc ls (.int k :: .int n :: rest)) := by
  intro T hT X
  subst hT; subst hb
  have hpl : e.platform.magicAccessors = ({} : Platform).magicAccessors := by rw [X.admits.platform]
  obtain ⟨comp, cA, kA, hcomp, -, hkA, hkindA, hnameA⟩ := arrayOverA_spec hov
  obtain ⟨comp', kI, ci, hcomp', hkI, hkindI⟩ := Cond.arrayClass_spec har
  have hcomp2 : s.vm.findClass "[I" = some comp := hcomp
  have ec : comp' = comp := Option.some.inj (hcomp'.symm.trans hcomp2)
  subst ec
  obtain ⟨c0, hf0, hc0⟩ := Cond.classLink_spec hown hcl e.platform hpl
  have hnA2 : s.vm.findClass "[[I" = some cA := hnameA
  cases hnA2.symm.trans hf0
  obtain ⟨hg₁, hwarm₁, hready₁⟩ := State.classEntry (e := e) X.warmed hc0
  generalize T.vm.noted m.cls z (.cls cA) = vm₁ at hg₁ hwarm₁ hready₁
  have hal : s.vm.Alike vm₁ := hwarm₁.alike
  obtain ⟨kA₁, hkA₁, heA⟩ := hal.2.2 _ _ hkA
  obtain ⟨kI₁, hkI₁, heI⟩ := hal.2.2 _ _ hkI
  have X₁ := X.noted hwarm₁
  have hm := m_ms_mi (cA := cA) (cI := comp') (K := k.toNatClampNeg) X₁ n.toNatClampNeg (Nat.le_refl _)
  have go := fun (E : CtlPost) (d : Bool) (acts : List Action) (f : JFrame) (Q : Addr → Pre) => m_mi_go (E := E) (d := d) (acts := acts) (f := f) (Q := Q) (kA := kA₁) (kI := kI₁) (cc := ci) (n := n) (k := k) X₁ hkA₁ (by rw [heA]; exact hkindA) hkI₁ (by rw [heI]; exact hkindI) hn hk hN hK h1 h2
  generalize m_ms (T.setVm vm₁) cA comp' n.toNatClampNeg k.toNatClampNeg n.toNatClampNeg = T' at hm go
  obtain ⟨⟨ls1, XT, hls⟩, hv, hz, ho, hr, hq⟩ := hm
  obtain ⟨t, a1, b1⟩ := kk cA comp' T'.heap ls1 hnA2 hcomp2 hls hz ho hr hq T' rfl XT
  refine ⟨t, ?_, b1⟩
  jvm_step X.here [hexec, hdg]
  simp only [multianewarray.sem, wp_bind', W.resolveClassAt_links (State.method?_setTop (F0 m pc ls (.int k :: .int n :: rest)) X.here.top) hg₁]
  rw [W.popN, if_neg (by decide)]
  refine ⟨F0 m pc ls (.int k :: .int n :: rest), State.topJava?_setTop' (s := T.setVm vm₁) _ X.here.top, [.int n, .int k], rest, rfl, rfl, ?_⟩
  simp only [List.mapM_cons, List.mapM_nil, wp_bind', wp_pure']
  have eS : ((T.setTop (F0 m pc ls (.int k :: .int n :: rest))).setVm vm₁).setTop { F0 m pc ls (.int k :: .int n :: rest) with stack := rest } = (T.setVm vm₁).setTop { F0 m pc ls (.int k :: .int n :: rest) with stack := rest } := by
    show ((T.setVm vm₁).setTop _).setTop _ = _
    rw [State.setTop_setTop]
  rw [eS]
  refine go _ _ _ _ _ fun d' acts' => ?_
  simp only [wp_bind', W.mark, W.pushRef, State.topJava?_setTop' _ XT.here.top, Option.some.injEq, exists_eq_left', State.setTop_setTop, State.heap_setTop]
  intro acts
  simp [jvm, XT.here.top]
  exact a1
end MU
/-! THE INSTRUCTIONS THAT MAKE CELLS -/
theorem m_cl_tn : ∀ (c : Nat) (C : String) (T : u_T) (N : Nat), m_cl[c]? = some (C, T, N) → ∀ j, j < N → (m_num (m_ty c j) || m_isR (m_ty c j)) = true
  | 0, _, _, _, h => by cases h; decide +kernel
  | 1, _, _, _, h => by cases h; decide +kernel
  | 2, _, _, _, h => by cases h; decide +kernel
  | 3, _, _, _, h => by cases h; decide +kernel
  | 4, _, _, _, h => by cases h; decide +kernel
  | 5, _, _, _, h => by cases h; decide +kernel
  | 6, _, _, _, h => by cases h; decide +kernel
  | 7, _, _, _, h => by cases h; decide +kernel
  | 8, _, _, _, h => by cases h; decide +kernel
  | 9, _, _, _, h => by cases h; decide +kernel
  | 10, _, _, _, h => by cases h; decide +kernel
  | 11, _, _, _, h => by cases h; decide +kernel
  | 12, _, _, _, h => by cases h; decide +kernel
  | n + 13, _, _, _, h => by simp [m_cl] at h
theorem m_ws_push {dA : Nat → ClassId} {ad : Nat → Nat} {h : mH} {r : mR} : m_ws dA ad (m_new h r) = m_ws dA ad h ++ [(ad h.1.length, m_cel dA ad (fun _ => 0) r)] := by
  have e : (m_new h r).1.length = h.1.length + 1 := by simp [m_new]
  unfold m_ws
  rw [e, List.range_succ, List.map_append]
  congr 1
  · apply List.map_congr_left
    intro i hi
    have hl := List.mem_range.mp hi
    have e1 : (m_new h r).2 i = h.2 i := by funext b; simp [m_new, m_row, Nat.ne_of_lt hl]
    have e2 : m_at (m_new h r) i = m_at h i := by simp [m_at, m_new, List.getElem?_append_left hl]
    rw [e1, e2]
  · have e1 : (m_new h r).2 h.1.length = fun _ => 0 := by funext b; simp [m_new, m_row]
    have e2 : m_at (m_new h r) h.1.length = r := by simp [m_at, m_new]
    simp only [List.map_cons, List.map_nil, e1, e2]
theorem m_sz_new (h : mH) (c n : Nat) (rs : List (Option Nat)) : m_sz (m_new h (c, n, rs)) = m_sz h + n := by simp [m_sz, m_new]
/-- the room that is left -/
def m_Rm (R : Room) (N0 S0 : Nat) (h : mH) : Prop := h.1.length ≤ N0 + R.cells ∧ m_sz h ≤ S0 + R.slots ∧ h.1.length ≤ m_str0
def m_AOA (U : State) : Prop := (Cond.arrayOver (.array .int)).before #[] U = true
/-- words that aren't moved by the tables alone: arrays over rows and watchmen, who is a watchman, nest mates -/
def m_nest : List (String × Nat × MethodName × String) := [(RX11, 9, yX9_init, RX11), (RX9, 45, yX5_init, RX11), (RX11, 25, yX6_init, RX11), (RX6, 21, yX5_init, RX11), (RX11, 79, yX8_init, RX11), (RX5, 34, yX11_isUnder, RX11)]
def m_Ex (U : State) : Prop := va_AO RX10 U ∧ m_AOA U ∧ (∀ C ∈ [RX1, RX2, RX3, RX4, RX7], va_Nw (.castable C RX10) U) ∧ ∀ q ∈ m_nest, va_Nw (.methodLinkNest q.1 q.2.1 q.2.2.1 q.2.2.2) U
theorem m_at_mul {h : mH} {n k i : Nat} : m_at (m_mul h n k) i = if i < h.1.length then m_at h i else if i = h.1.length then (104, n, (List.range n).map fun i => some (h.1.length + 1 + i)) else if i < h.1.length + 1 + n then (100, k, []) else (0, 0, []) := by
  unfold m_at m_mul
  by_cases h1 : i < h.1.length
  · rw [if_pos h1, List.getElem?_append_left h1]
  · rw [if_neg h1, List.getElem?_append_right (Nat.le_of_not_lt h1)]
    by_cases h2 : i = h.1.length
    · subst h2
      rw [if_pos rfl, Nat.sub_self]
      rfl
    · rw [if_neg h2]
      obtain ⟨d, rfl⟩ : ∃ d, i = h.1.length + 1 + d := ⟨i - (h.1.length + 1), by omega⟩
      rw [show h.1.length + 1 + d - h.1.length = d + 1 by omega, List.getElem?_cons_succ]
      by_cases h3 : d < n
      · rw [if_pos (by omega), List.getElem?_map, List.getElem?_range h3]
        rfl
      · rw [if_neg (by omega), List.getElem?_map, List.getElem?_eq_none (by simp; omega)]
        rfl
theorem m_arrC {cI : ClassId} {N : Nat} {f g : Nat → Value} (h : ∀ j, j < N → f j = g j) : arrV cI N f = arrV cI N g := by
  have e : (Array.ofFn (n := N) fun j => f j.val) = Array.ofFn (n := N) fun j => g j.val := congrArg _ (funext fun j => h j.val j.isLt)
  unfold arrV
  rw [e]
theorem m_len_mul (h : mH) (n k : Nat) : (m_mul h n k).1.length = h.1.length + 1 + n := by simp [m_mul]; omega
theorem m_sz_mul (h : mH) (n k : Nat) : m_sz (m_mul h n k) = m_sz h + n + n * k := by
  simp only [m_sz, m_mul, List.map_append, List.sum_append, List.map_cons, List.sum_cons, List.map_map]
  have : ∀ (l : List Nat), (l.map ((fun r : mR => r.2.1) ∘ fun _ => (100, k, []))).sum = l.length * k := by
    intro l
    induction l with
    | nil => simp
    | cons x l ih => simp only [List.map_cons, List.sum_cons, ih, List.length_cons, Nat.succ_mul, Function.comp]; omega
  rw [this, List.length_range]
  omega
theorem m_ws_mem {dA : Nat → ClassId} {ad : Nat → Nat} {h : mH} {i : Nat} {q : Nat × va_E} (hq : (m_ws dA ad h)[i]? = some q) : i < h.1.length ∧ q = (ad i, m_cel dA ad (h.2 i) (m_at h i)) := by
  unfold m_ws at hq
  rw [List.getElem?_map] at hq
  by_cases hl : i < h.1.length
  · rw [List.getElem?_range hl] at hq
    exact ⟨hl, (Option.some.inj hq).symm⟩
  · rw [List.getElem?_eq_none (by simp; omega)] at hq
    cases hq
section MM
variable {p : Program} {l : Launch} {e : Env} {R : Room} {s : State} {m : MethodId} {args : Array Value} {below : List Frame} {meth : Method} {c : Code} {Q : State → Prop} {cc : ByteArray} {own nm : String} {nL : Nat} {D : va_G} {dA : Nat → ClassId} {ad : Nat → Nat} {A : Nat → Prop} {B N0 S0 : Nat} {sc : mS} {pc n : Nat} {v : Int32 × Int64} {ds : List (List Nat)} {lo lo' : mL} {os os' : List Value} {h h' : mH}
/-- a cell has been made -/
theorem m_Nw_new {H H1 : Heap} {locs : List Loc} {cells slots : Nat} {ls : Array Slot} {ci k : Nat} {rs : List (Option Nat)} (hA : ∀ q, s.heap.size ≤ q → A q) (hB : ∀ i, i < m_str0 → ad i = B + i) (hlt : h.1.length < m_str0) (hN : m_Nw s nL D dA ad A B N0 S0 lo h H locs cells slots ls) (z1 : H1.size = H.size + 1) (o1 : ∀ q, q < H.size → H1[q]? = H[q]?) (e1 : va_at D m_cl (H.size, m_cel dA ad (fun _ => 0) (ci, k, rs)) H1) : m_Nw s nL D dA ad A B N0 S0 lo (m_new h (ci, k, rs)) H1 locs (cells + 1) (slots + k) ls ∧ ad h.1.length = H.size := by
  obtain ⟨hP, hD, hS, hZ, hC, hL, hl⟩ := hN
  have hq : ad h.1.length = H.size := by rw [hB _ hlt, hZ]
  have hk : ∀ (k : Nat) (x : Nat × va_E), (m_ws dA ad h)[k]? = some x → H1[x.1]? = H[x.1]? := fun k x hx => o1 x.1 ((hP k x hx).lt)
  refine ⟨⟨?_, ?_, ⟨Nat.le_trans hS.1 (by omega), fun x h1 h2 => (o1 x (Nat.lt_of_lt_of_le h1 hS.1)).trans (hS.2.1 x h1 h2), hS.2.2⟩, ?_, ?_, ?_, hl⟩, hq⟩
  · rw [m_ws_push, hq]
    refine (hP.kept hk).app (fun k x hx => ?_)
    have hz : k < 1 := (List.getElem?_eq_some_iff.mp hx).1
    rw [show k = 0 by omega] at hx
    cases hx
    exact e1
  · rw [m_ws_push, hq]
    exact hD.push hP rfl (hA _ hS.1)
  · rw [z1, hZ]; simp [m_new]; omega
  · simp only [m_new, List.length_append, List.length_cons, List.length_nil]; omega
  · rw [m_sz_new]; omega
theorem m_ok_new {z : Nat} (hF : m_Fx p s m args meth c cc own nm nL D dA ad A B) (hRm : m_Rm R N0 S0 h') (hdg : decode cc pc = .ok (.new z, n)) (hk : m_ck own nm nL (.new z) n v ds = true) (hr : m_1 sc (.new z) v ds lo os h = some (lo', os', h')) (kk : m_W p l e R s m args below meth c Q nL D dA ad A B N0 S0 (pc + n) lo' os' h') : m_W p l e R s m args below meth c Q nL D dA ad A B N0 S0 pc lo os h := by
  obtain ⟨hx, hb, hml, hown, hts, hK, hA, hnm, hB⟩ := hF
  simp only [m_ck, Bool.and_eq_true, decide_eq_true_eq] at hk
  obtain ⟨rfl, h1⟩ := hk
  simp only [m_1] at hr
  cases hr
  split at h1
  · cases h1
  · rename_i C T N hc
    simp only [Bool.and_eq_true, decide_eq_true_eq] at h1
    obtain ⟨⟨⟨hNk, w1⟩, w2⟩, w3⟩ := h1
    obtain ⟨hin, hty, hap⟩ := m_cl_ok _ _ _ _ hc
    have hKn := hK.1 _ _ hc
    intro H locs cells slots ls hN
    obtain ⟨r1, r2, r3⟩ := hRm
    rw [m_sz_new] at r2
    simp only [m_new, List.length_append, List.length_cons, List.length_nil] at r1 r3
    have g1 := hN.2.2.2.2.1
    have g2 := hN.2.2.2.2.2.1
    refine W.newcK hx hb hown (hts _ (m_w_in w1)) (hts _ (m_w_in w2)) (hts _ (m_w_in w3)) rfl hdg (by omega) (by omega) hKn.2.1 rfl fun H1 kC hkC e1 z1 o1 => ?_
    obtain ⟨hN1, hq⟩ := m_Nw_new (H1 := H1) (ci := m_d (m_hd ds) 0) (k := m_d (m_hd ds) 1) (rs := List.replicate (m_d (m_hd ds) 1) none) hA hB (by omega) hN z1 o1 (by
      rw [m_cel_o dA ad _ (m_cl_lt hc)]
      refine ⟨_, hc, (u_born (m_ty (m_d (m_hd ds) 0)) hts hin hKn hkC e1 hty).to fun j hj => ?_⟩
      rw [hNk] at hj
      show _ = vp_V (List.map _ _) j
      have e2 : vp_V (List.map (m_fld ad (fun _ => 0) (m_d (m_hd ds) 0) (List.replicate (m_d (m_hd ds) 1) none)) (List.range (m_d (m_hd ds) 1))) j = m_fld ad (fun _ => 0) (m_d (m_hd ds) 0) (List.replicate (m_d (m_hd ds) 1) none) j := by
        unfold vp_V
        rw [List.getD_eq_getElem?_getD, m_fs_get _ hj]
        rfl
      rw [e2]
      have e3 : m_ri (List.replicate (m_d (m_hd ds) 1) none) j = none := by
        unfold m_ri
        rw [List.getElem?_replicate]
        split <;> rfl
      have ht := m_cl_tn _ _ _ _ hc j (by rw [hNk]; exact hj)
      unfold m_fld
      rw [e3]
      generalize m_ty (m_d (m_hd ds) 0) j = ty at ht
      cases ty <;> simp [m_num, m_isR] at ht <;> rfl)
    rw [hNk]
    have k2 := kk H1 locs _ _ ls hN1
    rw [List.map_cons] at k2
    have e9 : m_v ad (.ref h.1.length) = .ref H.size := by rw [← hq]; rfl
    rw [e9] at k2
    exact k2
theorem m_ok_newarray {z : ArrayType} (hF : m_Fx p s m args meth c cc own nm nL D dA ad A B) (hRm : m_Rm R N0 S0 h') (hdg : decode cc pc = .ok (.newarray z, n)) (hk : m_ck own nm nL (.newarray z) n v ds = true) (hr : m_1 sc (.newarray z) v ds lo os h = some (lo', os', h')) (kk : m_W p l e R s m args below meth c Q nL D dA ad A B N0 S0 (pc + n) lo' os' h') : m_W p l e R s m args below meth c Q nL D dA ad A B N0 S0 pc lo os h := by
  obtain ⟨hx, hb, hml, hown, hts, hK, hA, hnm, hB⟩ := hF
  simp only [m_ck, Bool.and_eq_true, decide_eq_true_eq, Bool.or_eq_true] at hk
  obtain ⟨⟨rfl, hz⟩, h1⟩ := hk
  simp only [m_1] at hr
  split at hr
  · rename_i x os0
    split at hr
    · cases hr
    · rename_i hn
      cases hr
      have hn1 : ¬ x < 0 := fun q => hn (Or.inl q)
      have hn2 : x.toNatClampNeg < 100000 := Nat.not_le.mp fun q => hn (Or.inr q)
      intro H locs cells slots ls hN
      obtain ⟨r1, r2, r3⟩ := hRm
      rw [m_sz_new] at r2
      simp only [m_new, List.length_append, List.length_cons, List.length_nil] at r1 r3
      have g1 := hN.2.2.2.2.1
      have g2 := hN.2.2.2.2.2.1
      refine va_newaK hx hb (hts _ (m_w_in h1)) rfl hdg rfl hn1 rfl (by rcases hz with (rfl | rfl) | rfl <;> simp [newarray.typeOf, componentBytes] <;> omega) (by omega) (by omega) rfl fun H1 cA e1 z1 o1 hAr hNm => ?_
      obtain ⟨hN1, hq⟩ := m_Nw_new (H1 := H1) (ci := m_aty z) (k := x.toNatClampNeg) (rs := []) hA hB (by omega) hN z1 o1 (by
        rcases hz with (rfl | rfl) | rfl
        · have hc : cA = dA 100 := Option.some.inj (hNm.symm.trans (hK.2 0 _ rfl).2)
          rw [show m_aty .int = 100 from rfl, m_cel_a dA ad _ (by omega) (by omega), ← hc]
          exact e1
        · have hc : cA = dA 101 := Option.some.inj (hNm.symm.trans (hK.2 1 _ rfl).2)
          rw [show m_aty .byte = 101 from rfl, m_cel_a dA ad _ (by omega) (by omega), ← hc]
          exact e1
        · have hc : cA = dA 102 := Option.some.inj (hNm.symm.trans (hK.2 2 _ rfl).2)
          rw [show m_aty .boolean = 102 from rfl, m_cel_a dA ad _ (by omega) (by omega), ← hc]
          exact e1)
      have k2 := kk H1 locs _ _ ls hN1
      rw [List.map_cons] at k2
      have e9 : m_v ad (.ref h.1.length) = .ref H.size := by rw [← hq]; rfl
      rw [e9] at k2
      exact k2
  · cases hr
theorem m_ok_anewarray {z : Nat} (hF : m_Fx p s m args meth c cc own nm nL D dA ad A B) (hE : m_Ex s) (hRm : m_Rm R N0 S0 h') (hdg : decode cc pc = .ok (.anewarray z, n)) (hk : m_ck own nm nL (.anewarray z) n v ds = true) (hr : m_1 sc (.anewarray z) v ds lo os h = some (lo', os', h')) (kk : m_W p l e R s m args below meth c Q nL D dA ad A B N0 S0 (pc + n) lo' os' h') : m_W p l e R s m args below meth c Q nL D dA ad A B N0 S0 pc lo os h := by
  obtain ⟨hx, hb, hml, hown, hts, hK, hA, hnm, hB⟩ := hF
  simp only [m_ck, Bool.and_eq_true, decide_eq_true_eq] at hk
  obtain ⟨rfl, h1⟩ := hk
  simp only [m_1] at hr
  split at hr
  · rename_i x os0
    split at hr
    · cases hr
    · rename_i hn
      cases hr
      have hn1 : ¬ x < 0 := fun q => hn (Or.inl q)
      have hn2 : x.toNatClampNeg < 100000 := Nat.not_le.mp fun q => hn (Or.inr q)
      intro H locs cells slots ls hN
      obtain ⟨r1, r2, r3⟩ := hRm
      rw [m_sz_new] at r2
      simp only [m_new, List.length_append, List.length_cons, List.length_nil] at r1 r3
      have g1 := hN.2.2.2.2.1
      have g2 := hN.2.2.2.2.2.1
      refine W.anew hx hb hown (hts _ (m_w_in h1)) (va_AO.use hE.1) rfl hdg rfl hn1 (by omega) (by omega) (by omega) fun cA kA comp f1 f2 f3 f4 => ?_
      generalize hH1 : H.push ({ cls := cA, slots := Array.replicate x.toNatClampNeg .null, vm := .none } : Cell) = H1
      have z1 : H1.size = H.size + 1 := by rw [← hH1, Array.size_push]
      have e1 : H1[H.size]? = some (arrV cA x.toNatClampNeg (fun _ => .null)) := by rw [← hH1, Array.getElem?_push_size, ← arrV_new]
      have o1 : ∀ q : Nat, q < H.size → H1[q]? = H[q]? := fun q hq => by rw [← hH1, Array.getElem?_push, if_neg (Nat.ne_of_lt hq)]
      obtain ⟨hN1, hq⟩ := m_Nw_new (H1 := H1) (ci := 105) (k := x.toNatClampNeg) (rs := List.replicate x.toNatClampNeg none) hA hB (by omega) hN z1 o1 (by
        obtain ⟨kA', comp', -, -, -, hf⟩ := (hK.2 4 _ rfl).2
        have hc : cA = dA 105 := Option.some.inj (f1.symm.trans hf)
        rw [m_cel_q dA ad _ (by omega), ← hc]
        show H1[H.size]? = some (vp_cell _ _)
        rw [vp_cell_q, e1]
        refine congrArg some (congrArg (arrV cA x.toNatClampNeg) (funext fun j => ?_))
        have e3 : m_ri (List.replicate x.toNatClampNeg none) j = none := by
          unfold m_ri
          rw [List.getElem?_replicate]
          split <;> rfl
        rw [e3]
        rfl)
      have k2 := kk H1 locs _ _ ls hN1
      rw [List.map_cons] at k2
      have e9 : m_v ad (.ref h.1.length) = .ref H.size := by rw [← hq]; rfl
      rw [e9] at k2
      exact k2
  · cases hr
theorem m_asg (hE : m_Ex s) {ci : Nat} (hc : ci ∈ [1, 2, 3, 4, 7, 10]) : ∃ (C : String) (T : u_T) (N : Nat), m_cl[ci]? = some (C, T, N) ∧ ∀ comp c0 : ClassId, s.vm.findClass RX10 = some comp → s.vm.findClass C = some c0 → s.vm.assignable c0 comp = true := by
  have hca := hE.2.2.1
  simp only [List.mem_cons, List.not_mem_nil, or_false] at hc
  rcases hc with rfl | rfl | rfl | rfl | rfl | rfl
  · exact ⟨_, _, _, rfl, fun comp c0 h1 h2 => vb_asgC (hca _ (by simp)) comp c0 h1 h2⟩
  · exact ⟨_, _, _, rfl, fun comp c0 h1 h2 => vb_asgC (hca _ (by simp)) comp c0 h1 h2⟩
  · exact ⟨_, _, _, rfl, fun comp c0 h1 h2 => vb_asgC (hca _ (by simp)) comp c0 h1 h2⟩
  · exact ⟨_, _, _, rfl, fun comp c0 h1 h2 => vb_asgC (hca _ (by simp)) comp c0 h1 h2⟩
  · exact ⟨_, _, _, rfl, fun comp c0 h1 h2 => vb_asgC (hca _ (by simp)) comp c0 h1 h2⟩
  · exact ⟨_, _, _, rfl, fun comp c0 h1 h2 => by cases h1.symm.trans h2; exact va_asg _ _⟩
theorem m_aqs_spec {i : Nat} {j : Int32} {a : Nat} (hg : m_aqs h i j a = some h') : ∃ (n : Nat) (rs : List (Option Nat)) (c1 n1 : Nat) (rs1 : List (Option Nat)), h.1[i]? = some (105, n, rs) ∧ vp_in j n ∧ h.1[a]? = some (c1, n1, rs1) ∧ c1 ∈ [1, 2, 3, 4, 7, 10] ∧ j.toNatClampNeg < rs.length ∧ h' = (h.1.set i (105, n, rs.set j.toNatClampNeg (some a)), h.2) := by
  unfold m_aqs at hg
  split at hg
  · rename_i c n rs hi
    cases h1 : Nat.beq c 105 with
    | false => rw [h1] at hg; cases hg
    | true =>
      rw [h1, cond_true] at hg
      have := Nat.eq_of_beq_eq_true h1
      subst this
      split at hg
      · cases hg
      · rename_i h2
        split at hg
        · rename_i c1 n1 rs1 ha
          cases h3 : ([1, 2, 3, 4, 7, 10].elem c1 && Nat.blt j.toNatClampNeg rs.length) with
          | false => rw [h3] at hg; cases hg
          | true =>
            rw [h3, cond_true] at hg
            cases hg
            simp only [Bool.and_eq_true] at h3
            exact ⟨n, rs, c1, n1, rs1, hi, h2, ha, List.elem_iff.mp h3.1, Nat.blt_eq.mp h3.2, rfl⟩
        · cases hg
  · cases hg
theorem m_ok_aastore (hF : m_Fx p s m args meth c cc own nm nL D dA ad A B) (hE : m_Ex s) (hdg : decode cc pc = .ok (.aastore, n)) (hk : m_ck own nm nL .aastore n v ds = true) (hr : m_1 sc .aastore v ds lo os h = some (lo', os', h')) (kk : m_W p l e R s m args below meth c Q nL D dA ad A B N0 S0 (pc + n) lo' os' h') : m_W p l e R s m args below meth c Q nL D dA ad A B N0 S0 pc lo os h := by
  obtain ⟨hx, hb, hml, hown, hts, hK, hA, hnm, hB⟩ := hF
  simp only [m_ck, decide_eq_true_eq] at hk
  obtain rfl := hk
  simp only [m_1] at hr
  split at hr
  · rename_i x j a os0
    split at hr
    · rename_i h2 hg
      cases hr
      obtain ⟨k, rs, c1, n1, rs1, hi, hin, ha, hc1, hjr, rfl⟩ := m_aqs_spec hg
      obtain ⟨C, T, N, hc, hasg⟩ := m_asg hE hc1
      intro H locs cells slots ls hN
      have hlt : j.toNatClampNeg < k := Nat.not_le.mp fun q => hin (Or.inr q)
      have h0 : ¬ j < 0 := fun q => hin (Or.inl q)
      have he := m_ws_get (dA := dA) (ad := ad) hi
      have he' := he
      rw [m_cel_q dA ad (h.2 a) (by omega)] at he
      have hv := m_ws_get (dA := dA) (ad := ad) ha
      rw [m_cel_o dA ad (h.2 x) (m_cl_lt hc)] at hv
      obtain ⟨cellV, g1, g3, ⟨kC, hkC⟩, hasg2⟩ := va_rAny (E := RX10) hK hN.1 hv hc hasg
      obtain ⟨kA, comp, k1, k2, k3, -⟩ := (hK.2 4 _ rfl).2
      obtain ⟨kE, hkE, -⟩ := Vm.findClass_spec k3
      refine W.aast hx hb (hN.1 a _ he) (fun q h => by cases h) (fun h => by cases h) k1 k2 rfl hkE ⟨h0, by show _ < (arrV _ _ _).slots.size; rw [arrV_size]; exact hlt⟩ g1 (fun q h => by rw [h] at g3; cases g3) hkC (hasg2 _ k3) rfl rfl hdg fun H1 e z oq => ?_
      have e1 : va_at D m_cl (ad a, m_cel dA ad (h.2 a) (105, k, rs.set j.toNatClampNeg (some x))) H1 := by
        rw [m_cel_q dA ad _ (by omega)]
        show H1[ad a]? = some (vp_cell _ _)
        rw [e]
        show some ((vp_cell _ _).setSlot _ _) = _
        rw [vp_cell_q, vp_cell_q, arrV_store]
        refine congrArg some (congrArg (arrV (dA 105) k) (funext fun q => ?_))
        by_cases hq : q = j.toNatClampNeg
        · subst hq
          simp [updV, m_ri, hjr, va_rf]
        · simp [updV, hq, m_ri, List.getElem?_set_ne (Ne.symm hq)]
      have hP := hN.1.set hN.2.1 he' e1 oq
      have hD := hN.2.1.set he' (e := m_cel dA ad (h.2 a) (105, k, rs.set j.toNatClampNeg (some x)))
      rw [m_ws_set _ hi, m_row_self] at hP hD
      exact kk H1 _ cells slots ls ⟨hP, hD, hN.2.2.1.put z oq (hN.2.1.2 a _ he'), by rw [z, hN.2.2.2.1]; simp, by rw [hN.2.2.2.2.1]; simp, by rw [hN.2.2.2.2.2.1]; exact (m_sz_set _ _ hi).symm, hN.2.2.2.2.2.2⟩
    · cases hr
  · cases hr
theorem m_ok_multianewarray {z y : Nat} (hF : m_Fx p s m args meth c cc own nm nL D dA ad A B) (hE : m_Ex s) (hRm : m_Rm R N0 S0 h') (hdg : decode cc pc = .ok (.multianewarray z y, n)) (hk : m_ck own nm nL (.multianewarray z y) n v ds = true) (hr : m_1 sc (.multianewarray z y) v ds lo os h = some (lo', os', h')) (kk : m_W p l e R s m args below meth c Q nL D dA ad A B N0 S0 (pc + n) lo' os' h') : m_W p l e R s m args below meth c Q nL D dA ad A B N0 S0 pc lo os h := by
  obtain ⟨hx, hb, hml, hown, hts, hK, hA, hnm, hB⟩ := hF
  simp only [m_ck, Bool.and_eq_true, decide_eq_true_eq] at hk
  obtain ⟨⟨⟨rfl, rfl⟩, w1⟩, w2⟩ := hk
  simp only [m_1] at hr
  split at hr
  · rename_i x y os0
    split at hr
    · cases hr
    · rename_i hn
      cases hr
      have n1 : ¬ y < 0 := fun q => hn (Or.inl q)
      have n2 : ¬ x < 0 := fun q => hn (Or.inr (Or.inl q))
      have n3 : y.toNatClampNeg < 100000 := Nat.not_le.mp fun q => hn (Or.inr (Or.inr (Or.inl q)))
      have n4 : x.toNatClampNeg < 100000 := Nat.not_le.mp fun q => hn (Or.inr (Or.inr (Or.inr q)))
      intro H locs cells slots ls hN
      obtain ⟨r1, r2, r3⟩ := hRm
      rw [m_sz_mul] at r2
      rw [m_len_mul] at r1 r3
      obtain ⟨hP, hD, hS, hZ, hC, hL, hl⟩ := hN
      refine m_mna hx hb hown (hts _ (m_w_in w1)) hE.2.1 (hts _ (m_w_in w2)) n1 n2 n3 n4 (by omega) (by omega) hdg fun cA cI H1 locs1 f1 f2 hl1 z1 o1 o2 o3 => ?_
      have hc1 : cA = dA 104 := Option.some.inj (f1.symm.trans (hK.2 3 _ rfl).2)
      have hc2 : cI = dA 100 := Option.some.inj (f2.symm.trans (hK.2 0 _ rfl).2)
      have hq : ad h.1.length = H.size := by rw [hB _ (by omega), hZ]
      have k2 := kk H1 locs1 (cells + 1 + y.toNatClampNeg) (slots + y.toNatClampNeg + y.toNatClampNeg * x.toNatClampNeg) ls ⟨?_, ?_, ?_, ?_, ?_, ?_, hl⟩
      · rw [List.map_cons] at k2
        have e9 : m_v ad (.ref h.1.length) = .ref H.size := by rw [← hq]; rfl
        rw [e9] at k2
        exact k2
      · intro i q hi
        obtain ⟨g1, rfl⟩ := m_ws_mem hi
        rw [m_len_mul] at g1
        rw [m_at_mul]
        by_cases h1 : i < h.1.length
        · rw [if_pos h1]
          have e1 : (m_mul h y.toNatClampNeg x.toNatClampNeg).2 i = h.2 i := by funext b; simp [m_mul, Nat.not_le.mpr h1]
          rw [e1]
          have hw : (m_ws dA ad h)[i]? = some (ad i, m_cel dA ad (h.2 i) (m_at h i)) := by
            unfold m_ws
            rw [List.getElem?_map, List.getElem?_range h1]
            rfl
          exact (hP i _ hw).kept (o3 _ (hP i _ hw).lt)
        · rw [if_neg h1]
          have e1 : (m_mul h y.toNatClampNeg x.toNatClampNeg).2 i = fun _ => 0 := by funext b; simp [m_mul, Nat.le_of_not_lt h1]
          rw [e1]
          by_cases h2 : i = h.1.length
          · subst h2
            rw [if_pos rfl, hq, m_cel_q dA ad _ (by omega), ← hc1]
            show H1[H.size]? = some (vp_cell _ _)
            rw [vp_cell_q, o1]
            refine congrArg some (m_arrC fun j hj => ?_)
            rw [if_pos hj]
            have e3 : m_ri ((List.range y.toNatClampNeg).map fun i => some (h.1.length + 1 + i)) j = some (h.1.length + 1 + j) := by
              unfold m_ri
              rw [List.getElem?_map, List.getElem?_range hj]
              rfl
            rw [e3]
            show _ = va_rf (some (ad (h.1.length + 1 + j)))
            have e5 : ad (h.1.length + 1 + j) = H.size + 1 + j := by rw [hB _ (by omega), hZ]; omega
            rw [e5]
            rfl
          · rw [if_neg h2, if_pos g1, m_cel_a dA ad _ (by omega) (by omega), ← hc2]
            obtain ⟨d, rfl⟩ : ∃ d, i = h.1.length + 1 + d := ⟨i - (h.1.length + 1), by omega⟩
            have e4 : ad (h.1.length + 1 + d) = H.size + 1 + d := by rw [hB _ (by omega), hZ]; omega
            rw [e4]
            exact o2 d (by omega)
      · constructor
        · intro i j p q hi hj he
          obtain ⟨g1, rfl⟩ := m_ws_mem hi
          obtain ⟨g2, rfl⟩ := m_ws_mem hj
          rw [m_len_mul] at g1 g2
          simp only at he
          rw [hB _ (by omega), hB _ (by omega)] at he
          omega
        · intro i q hi
          obtain ⟨g1, rfl⟩ := m_ws_mem hi
          rw [m_len_mul] at g1
          by_cases h1 : i < h.1.length
          · have hw : (m_ws dA ad h)[i]? = some (ad i, m_cel dA ad (h.2 i) (m_at h i)) := by
              unfold m_ws
              rw [List.getElem?_map, List.getElem?_range h1]
              rfl
            exact hD.2 i (ad i, m_cel dA ad (h.2 i) (m_at h i)) hw
          · refine hA _ ?_
            show _ ≤ ad i
            rw [hB _ (by omega)]
            have := hS.1
            omega
      · refine ⟨Nat.le_trans hS.1 (by omega), fun q h1 h2 => (o3 q (Nat.lt_of_lt_of_le h1 hS.1)).trans (hS.2.1 q h1 h2), fun q hq2 => ?_⟩
        rcases hl1 q hq2 with h1 | h1
        · exact hS.2.2 q h1
        · rw [h1]
          exact hA _ hS.1
      · rw [z1, hZ, m_len_mul]; omega
      · rw [m_len_mul]; omega
      · rw [m_sz_mul]; omega
  · cases hr
end MM
