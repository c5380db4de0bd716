/-! THE TEXT CONSTANTS' OWN METHODS -/
abbrev jL : MethodName := ⟨"java/lang/String", "length", "()I"⟩
abbrev jC : MethodName := ⟨"java/lang/String", "charAt", "(I)C"⟩
abbrev jO : MethodName := ⟨"java/lang/String", "coder", "()B"⟩
abbrev jI : MethodName := ⟨"java/lang/String", "isLatin1", "()Z"⟩
abbrev jA : MethodName := ⟨"java/lang/StringLatin1", "charAt", "([BI)C"⟩
abbrev jK : MethodName := ⟨"java/lang/String", "checkIndex", "(II)V"⟩
abbrev jP : MethodName := ⟨"jdk/internal/util/Preconditions", "checkIndex", "(IILjava/util/function/BiFunction;)I"⟩
def j_ws (y : MethodName) (bs : ByteArray) (mx : Nat) (rt : Option FieldType) : List Cond := Cond.code y bs mx rt :: mTT
def j_M (l : Launch) (y : MethodName) (bs : ByteArray) (mx : Nat) (rt : Option FieldType) (d : Nat) (as : List Value) (P : State → Prop) (r : Option Value) : Prop :=
  Met l y (j_ws y bs mx rt) (m_rm d 0 0) (va_Pc as P) (fun _ st oc t => oc = .returned r ∧ t.heap = st.heap) 0 0 (fun _ => False)
theorem j_good {y : MethodName} {bs : ByteArray} {mx : Nat} {rt : Option FieldType} (h : Cond.code y bs mx rt ∈ mTT) : GoodIn mTT (j_ws y bs mx rt) := by
  intro w hw
  rcases List.mem_cons.mp hw with rfl | hw
  · exact ⟨h, good_of_word (m_goodTT _ h)⟩
  · exact ⟨hw, good_of_word (m_goodTT _ hw)⟩
section MJ
variable {p : Program} {l : Launch} {e : Env} {R : Room} {s : State} {m : MethodId} {args : Array Value} {below : List Frame} {meth : Method} {c : Code} {H : Heap} {locs : List Loc} {cells slots : Nat} {Q : State → Prop} {cc : ByteArray} {pc index nL d : Nat} {ls : Array Slot} {rest as : List Value} {own C : String} {y : MethodName} {bs : ByteArray} {mx : Nat} {rt : Option FieldType} {P : State → Prop} {r : Option Value} {b : Nat}
theorem j_after {st0 : List Value} (hr : va_Run p l e R s m args below meth c H locs cells slots 0 0 (F0 m pc ls st0) rest (fun st oc t => oc = .returned r ∧ t.heap = st.heap) (fun _ => False)) (kk : W p l e R s m args below meth c H locs cells slots Q (F0 m (pc + 3) ls (r.toList ++ rest))) : W p l e R s m args below meth c H locs cells slots Q (F0 m pc ls st0) := by
  intro T hT X
  obtain ⟨v, st₀, t, T', L, h0, X', hL, e1, e2, ⟨hv, hh⟩, st⟩ := hr T hT X
  have hvw : v = r := by simpa using hv
  subst hvw
  have hL0 : L = [] := by
    cases L with
    | nil => rfl
    | cons q L => exact absurd (hL q (List.mem_cons_self)) (by simp)
  subst hL0
  rw [List.append_nil] at X'
  obtain ⟨t2, a1, b1⟩ := kk T' (by rw [e1, hh, h0]) X'
  exact ⟨t2, st t2 a1, b1⟩
theorem j_static (S : CallFix p m c cc nL s args mTT own) (hM : j_M l y bs mx rt d as P r) (hR : d + 1 + 1 ≤ R.frames ∧ 8 + (mx + 11) + 40 * (d + 1) ≤ R.locals) (w0 : Cond.code y bs mx rt ∈ mTT) (w1 : Cond.methodLink own index y ∈ mTT) (w2 : Cond.static y ∈ mTT) (w3 : Cond.initialized y.cls ∈ mTT) (n1 : y.cls ≠ "java/lang/invoke/MethodHandle") (n2 : y.cls ≠ "java/lang/invoke/VarHandle") (hna : m_na y as.length = true) (hbl : FrameBlind (va_Pc as P)) (hP : ∀ U : State, U.heap = H → s.WarmedH U.vm → P U) (hsize : ls.size = nL) (hcat : (rest.map fun v => v.category).sum ≤ 8) (hdg : decode cc pc = .ok (.invokestatic index, 3)) (hc : cells ≤ R.cells ∧ slots ≤ R.slots) (kk : W p l e R s m args below meth c H locs cells slots Q (F0 m (pc + 3) ls (r.toList ++ rest))) {st0 : List Value} (hst : st0 = as.reverse ++ rest) : W p l e R s m args below meth c H locs cells slots Q (F0 m pc ls st0) := by
  have hts := S.2.2.2.2
  exact j_after (va_runS (n := as.length) (rest := rest) S hM ⟨⟨rfl, rfl, hR.1, hR.2, pay_in hts (j_good w0), List.mem_cons_self, hts _ w0, hts _ w3, ⟨n1, n2⟩, m_na_spec hna, hts _ w1⟩, hts _ w2⟩ ⟨hbl, fun U hU hW => ⟨rfl, hP U hU hW⟩⟩ rfl rfl hsize hst (lv_room hcat) hdg hc) kk
theorem j_virt (S : CallFix p m c cc nL s args mTT own) (hM : j_M l y bs mx rt d (.ref b :: as) P r) (hR : d + 1 + 1 ≤ R.frames ∧ 8 + (mx + 11) + 40 * (d + 1) ≤ R.locals) (w0 : Cond.code y bs mx rt ∈ mTT) (w1 : Cond.methodLink own index y ∈ mTT) (w2 : Cond.instanceMethod y ∈ mTT) (w4 : Cond.selects C y y ∈ mTT) (w3 : Cond.initialized y.cls ∈ mTT) (n1 : y.cls ≠ "java/lang/invoke/MethodHandle") (n2 : y.cls ≠ "java/lang/invoke/VarHandle") (hna : m_na y as.length = true) (hbl : FrameBlind (va_Pc (.ref b :: as) P)) (hrec : ∃ cellB : Cell, H[b]? = some cellB ∧ cellB.vm.isStatics = false ∧ s.vm.findClass C = some cellB.cls) (hP : ∀ U : State, U.heap = H → s.WarmedH U.vm → P U) (hsize : ls.size = nL) (hcat : (rest.map fun v => v.category).sum ≤ 8) (hdg : decode cc pc = .ok (.invokevirtual index, 3)) (hc : cells ≤ R.cells ∧ slots ≤ R.slots) (kk : W p l e R s m args below meth c H locs cells slots Q (F0 m (pc + 3) ls (r.toList ++ rest))) {st0 : List Value} (hst : st0 = as.reverse ++ .ref b :: rest) : W p l e R s m args below meth c H locs cells slots Q (F0 m pc ls st0) := by
  have hts := S.2.2.2.2
  exact j_after (va_runV (C := C) (n := as.length) (rest := rest) S hM ⟨⟨rfl, rfl, hR.1, hR.2, pay_in hts (j_good w0), List.mem_cons_self, hts _ w0, hts _ w3, ⟨n1, n2⟩, m_na_spec hna, hts _ w1⟩, hts _ w2, hts _ w4⟩ ⟨hbl, hrec, fun U hU hW => ⟨rfl, hP U hU hW⟩⟩ rfl rfl hsize hst (lv_room hcat) hdg hc) kk
end MJ
/-- the index is looked at -/
theorem j_P (l : Launch) {i n : Int32} (v : Value) (hv : v.category = 1) (hi : ¬ i < 0) (hin : i < n) : j_M l jP prog_22_method_11_code 3 (some .int) 0 [.int i, .int n, v] (fun _ => True) (some (.int i)) := by
  refine Met.ofW (cc := prog_22_method_11_code) (maxL := 3) (ret := some .int) (by decide +kernel) rfl ?_
  intro p e s m args below meth c s₁ Bd hml hpre
  obtain ⟨rfl, -⟩ := hpre
  have hx := Bd.exec
  have hb := Bd.bytes
  have hrt := Bd.returns
  have hlocks := Bd.notSynchronized
  rw [lg_entry_eq]
  have hE := lv_entry [.int i, .int n, v] (n := 3) (by cases v <;> simp [lg_sl, Value.category] at hv ⊢)
  generalize ((lg_sl [.int i, .int n, v] ++ List.replicate (3 - (lg_sl [.int i, .int n, v]).length) Slot.unset).toArray) = ls at hE
  have h0 := lv_at hE 0 rfl
  have h1 := lv_at hE 1 rfl
  refine lv_iload_n (k := 0) hx hb (by decide +kernel) rfl h0 ?_
  refine lv_if_lt (off := 8) (tgt := 9) hx hb (by decide +kernel) rfl (fun h => absurd h hi) fun _ => ?_
  refine lv_iload_n (k := 0) hx hb (by decide +kernel) rfl h0 ?_
  refine lv_iload_n (k := 1) hx hb (by decide +kernel) rfl h1 ?_
  refine lv_icmp_lt (off := 10) (tgt := 16) hx hb (by decide +kernel) rfl (fun _ => ?_) fun h => absurd hin h
  refine lv_iload_n (k := 0) hx hb (by decide +kernel) rfl h0 ?_
  exact W.iret hx hb hrt (fun t ht hW => ⟨rfl, ht⟩) (fun q h => by cases h) (by decide +kernel) hlocks
theorem j_own {l : Launch} {y : MethodName} {ws : List Cond} {rm : Room} {bs : ByteArray} {mx : Nat} {rt : Option FieldType} {p : Program} {e : Env} {s : State} {m : MethodId} {args : Array Value} {below : List Frame} {meth : Method} {c : Code} {s₁ : State} (Bd : BodyLoose p l y (headSpec (Cond.code y bs mx rt :: mTT) rm) bs mx rt e s m args below meth c s₁) (hml : c.maxLocals = mx) : CallFix p m c bs mx s args mTT y.cls :=
  ⟨Bd.exec, Bd.bytes, hml, findClass_of_methodNamed Bd.named, fun w hw => atoms_spec (ws := Cond.code y bs mx rt :: mTT) Bd.pre w (List.mem_cons_of_mem _ hw)⟩
/-- the field SIOOBE_FORMATTER -/
def j_Z (v : Value) (A : Nat → Prop) (U : State) : Prop := va_Z "jdk/internal/util/Preconditions" "SIOOBE_FORMATTER" "Ljava/util/function/BiFunction;" v A U U.heap
theorem j_Z.warm {v : Value} {A : Nat → Prop} {s U : State} (h : j_Z v A s) (hU : U.heap = s.heap) (hW : s.WarmedH U.vm) : j_Z v A U := by
  unfold j_Z at h ⊢
  rw [hU]
  exact h.moved hW.alike
theorem j_K (l : Launch) {A : Nat → Prop} {i n : Int32} (v : Value) (hv : v.category = 1) (hi : ¬ i < 0) (hin : i < n) : j_M l jK prog_17_method_155_code 2 none 1 [.int i, .int n] (j_Z v A) none := by
  refine Met.ofW (cc := prog_17_method_155_code) (maxL := 2) (ret := none) (by decide +kernel) rfl ?_
  intro p e s m args below meth c s₁ Bd hml hpre
  obtain ⟨rfl, hZ⟩ := hpre
  have S := j_own (ws := mTT) Bd hml
  obtain ⟨hx, hb, -, hown, hts⟩ := id S
  have hrt := Bd.returns
  have hlocks := Bd.notSynchronized
  rw [lg_entry_eq]
  have hE := lv_entry [.int i, .int n] (n := 2) (by simp [lg_sl, Value.category])
  generalize ((lg_sl [.int i, .int n] ++ List.replicate (2 - (lg_sl [.int i, .int n]).length) Slot.unset).toArray) = ls at hE
  have h0 := lv_at hE 0 rfl
  have h1 := lv_at hE 1 rfl
  refine lv_iload_n (k := 0) hx hb (by decide +kernel) rfl h0 ?_
  refine lv_iload_n (k := 1) hx hb (by decide +kernel) rfl h1 ?_
  refine va_gets (index := 1053) (ref := "jdk/internal/util/Preconditions") hx hb hZ va_S.rf hown (hts _ (m_w_in (q := 3050) (by decide +kernel))) (fun _ h => h) (by decide +kernel) ?_
  refine j_static (index := 1059) (d := 0) S (j_P l v hv hi hin) ⟨by decide, by decide⟩ (m_w_in (q := 3054) (by decide +kernel)) (m_w_in (q := 3052) (by decide +kernel)) (m_w_in (q := 3053) (by decide +kernel)) (m_w_in (q := 1016) (by decide +kernel)) (by decide) (by decide) (show m_na jP 3 = true by decide +kernel) (fun _ _ _ _ h => h) (fun _ _ _ => trivial) hE.1 (rest := []) (by decide) (by decide +kernel) ⟨Nat.zero_le _, Nat.zero_le _⟩ ?_ rfl
  refine lv_pop hx hb (by decide +kernel) rfl ?_
  exact W.vret hx hb hrt (fun t ht hW => ⟨rfl, ht⟩) (fun q h => by cases h) (by decide +kernel) hlocks
/-- a byte of the text -/
def j_T (v : Value) (A : Nat → Prop) (t N : Nat) (f : Nat → Value) (U : State) : Prop := va_T .byte t N f A U U.heap ∧ j_Z v A U
theorem j_A (l : Launch) {A : Nat → Prop} {t N : Nat} {f : Nat → Value} {i x : Int32} (v : Value) (hv : v.category = 1) (hin : vp_in i N) (hi2 : i < Int32.ofNat N) (hf : f i.toNatClampNeg = .int x) (hx1 : ((x &&& 255).toUInt32 % 65536).toInt32 = x) (hx2 : narrow .char (.int x) = .int x) : j_M l jA prog_18_method_2_code 2 (some .char) 2 [.ref t, .int i] (j_T v A t N f) (some (.int x)) := by
  refine Met.ofW (cc := prog_18_method_2_code) (maxL := 2) (ret := some .char) (by decide +kernel) rfl ?_
  intro p e s m args below meth c s₁ Bd hml hpre
  obtain ⟨rfl, hT, hZ⟩ := hpre
  have S := j_own (ws := mTT) Bd hml
  obtain ⟨hx, hb, -, hown, hts⟩ := id S
  have hrt := Bd.returns
  have hlocks := Bd.notSynchronized
  rw [lg_entry_eq]
  have hE := lv_entry [.ref t, .int i] (n := 2) (by simp [lg_sl, Value.category])
  generalize ((lg_sl [.ref t, .int i] ++ List.replicate (2 - (lg_sl [.ref t, .int i]).length) Slot.unset).toArray) = ls at hE
  have h0 := lv_at hE 0 rfl
  have h1 := lv_at hE 1 rfl
  refine lv_iload_n (k := 1) hx hb (by decide +kernel) rfl h1 ?_
  refine lv_aload_n (k := 0) hx hb (by decide +kernel) rfl h0 ?_
  refine va_tlen hx hb hT va_S.rf rfl (by decide +kernel) ?_
  refine j_static (index := 9) (d := 1) S (j_K l (A := A) v hv (fun q => hin (Or.inl q)) hi2) ⟨by decide, by decide⟩ (m_w_in (q := 3049) (by decide +kernel)) (m_w_in (q := 3047) (by decide +kernel)) (m_w_in (q := 3048) (by decide +kernel)) (m_w_in (q := 1014) (by decide +kernel)) (by decide) (by decide) (show m_na jK 2 = true by decide +kernel) (fun a U g mk h => ⟨h.1, va_Z.moved (u := U) (Vm.Alike.refl U.vm) h.2⟩) (fun U hU hW => hZ.warm hU hW) hE.1 (rest := []) (by decide) (by decide +kernel) ⟨Nat.zero_le _, Nat.zero_le _⟩ ?_ rfl
  refine lv_aload_n (k := 0) hx hb (by decide +kernel) rfl h0 ?_
  refine lv_iload_n (k := 1) hx hb (by decide +kernel) rfl h1 ?_
  refine va_tb hx hb hT va_S.rf hin hf (by decide +kernel) ?_
  refine lv_sipush (n := 255) (v := 255) hx hb (by decide +kernel) (by decide +kernel) ?_
  refine lv_iand hx hb (by decide +kernel) ?_
  refine lv_i2c (v := x) hx hb (by decide +kernel) hx1 ?_
  exact W.zret (ty := .char) hx hb hrt hx2 (fun t ht hW => ⟨rfl, ht⟩) (fun q h => by cases h) (by decide +kernel) hlocks
/-- a text constant's fields -/
def j_S (A : Nat → Prop) (a : Nat) (U : State) : Prop := va_OF "java/lang/String" "coder" "B" (.int 0) a A U U.heap ∧ va_Z "java/lang/String" "COMPACT_STRINGS" "Z" (.int 1) A U U.heap
theorem j_S.warm {A : Nat → Prop} {a : Nat} {s U : State} (h : j_S A a s) (hU : U.heap = s.heap) (hW : s.WarmedH U.vm) : j_S A a U := by
  unfold j_S at h ⊢
  rw [hU]
  exact ⟨va_OF.moved hW.alike h.1, h.2.moved hW.alike⟩
theorem j_S.blind {A : Nat → Prop} {a : Nat} {as : List Value} : FrameBlind (va_Pc as (j_S A a)) := fun a U g mk h => ⟨h.1, va_OF.moved (u := U) (Vm.Alike.refl U.vm) h.2.1, va_Z.moved (u := U) (Vm.Alike.refl U.vm) h.2.2⟩
theorem j_O (l : Launch) {A : Nat → Prop} {a : Nat} : j_M l jO prog_17_method_152_code 1 (some .byte) 0 [.ref a] (j_S A a) (some (.int 0)) := by
  refine Met.ofW (cc := prog_17_method_152_code) (maxL := 1) (ret := some .byte) (by decide +kernel) rfl ?_
  intro p e s m args below meth c s₁ Bd hml hpre
  obtain ⟨rfl, hC, hZ⟩ := hpre
  have S := j_own (ws := mTT) Bd hml
  obtain ⟨hx, hb, -, hown, hts⟩ := id S
  have hrt := Bd.returns
  have hlocks := Bd.notSynchronized
  rw [lg_entry_eq]
  have hE := lv_entry [.ref a] (n := 1) (by simp [lg_sl, Value.category])
  generalize ((lg_sl [.ref a] ++ List.replicate (1 - (lg_sl [.ref a]).length) Slot.unset).toArray) = ls at hE
  have h0 := lv_at hE 0 rfl
  refine va_gets (index := 38) (ref := "java/lang/String") hx hb hZ va_S.rf hown (hts _ (m_w_in (q := 3034) (by decide +kernel))) (fun _ h => h) (by decide +kernel) ?_
  refine lv_if_eq (off := 10) (tgt := 13) hx hb (by decide +kernel) rfl (fun h => absurd h (by decide)) fun _ => ?_
  refine lv_aload_n (k := 0) hx hb (by decide +kernel) rfl h0 ?_
  refine vk_getf (index := 15) (ref := "java/lang/String") hx hb hC va_S.rf hown (hts _ (m_w_in (q := 7225) (by decide +kernel))) (fun _ h => h) (by decide +kernel) ?_
  refine lv_goto (off := 4) (tgt := 14) hx hb (by decide +kernel) rfl ?_
  exact W.zret (ty := .byte) hx hb hrt (by decide +kernel) (fun t ht hW => ⟨rfl, ht⟩) (fun q h => by cases h) (by decide +kernel) hlocks
theorem j_I (l : Launch) {A : Nat → Prop} {a : Nat} : j_M l jI prog_17_method_154_code 1 (some .boolean) 0 [.ref a] (j_S A a) (some (.int 1)) := by
  refine Met.ofW (cc := prog_17_method_154_code) (maxL := 1) (ret := some .boolean) (by decide +kernel) rfl ?_
  intro p e s m args below meth c s₁ Bd hml hpre
  obtain ⟨rfl, hC, hZ⟩ := hpre
  have S := j_own (ws := mTT) Bd hml
  obtain ⟨hx, hb, -, hown, hts⟩ := id S
  have hrt := Bd.returns
  have hlocks := Bd.notSynchronized
  rw [lg_entry_eq]
  have hE := lv_entry [.ref a] (n := 1) (by simp [lg_sl, Value.category])
  generalize ((lg_sl [.ref a] ++ List.replicate (1 - (lg_sl [.ref a]).length) Slot.unset).toArray) = ls at hE
  have h0 := lv_at hE 0 rfl
  refine va_gets (index := 38) (ref := "java/lang/String") hx hb hZ va_S.rf hown (hts _ (m_w_in (q := 3034) (by decide +kernel))) (fun _ h => h) (by decide +kernel) ?_
  refine lv_if_eq (off := 14) (tgt := 17) hx hb (by decide +kernel) rfl (fun h => absurd h (by decide)) fun _ => ?_
  refine lv_aload_n (k := 0) hx hb (by decide +kernel) rfl h0 ?_
  refine vk_getf (index := 15) (ref := "java/lang/String") hx hb hC va_S.rf hown (hts _ (m_w_in (q := 7225) (by decide +kernel))) (fun _ h => h) (by decide +kernel) ?_
  refine lv_if_ne (off := 7) (tgt := 17) hx hb (by decide +kernel) rfl (fun h => absurd rfl h) fun _ => ?_
  refine lv_iconst (n := 1) (v := 1) hx hb (by decide +kernel) (by decide) ?_
  refine lv_goto (off := 4) (tgt := 18) hx hb (by decide +kernel) rfl ?_
  exact W.zret (ty := .boolean) hx hb hrt (by decide +kernel) (fun t ht hW => ⟨rfl, ht⟩) (fun q h => by cases h) (by decide +kernel) hlocks
theorem j_lt {j : Int32} {N : Nat} (h1 : ¬ j < 0) (h2 : j.toNatClampNeg < N) (hN : N < 2 ^ 31) : j < Int32.ofNat N := by
  have e0 : j.toNatClampNeg = j.toInt.toNat := rfl
  have h3 : (0 : Int) ≤ j.toInt := by
    have := Int32.not_lt.mp h1
    simpa using Int32.le_iff_toInt_le.mp this
  rw [Int32.lt_iff_toInt_lt, Int32.toInt_ofNat_of_lt hN]
  omega
theorem j_txt : ∀ q ∈ m_txt, q.length < 100 ∧ ∀ x ∈ q, ((x &&& 255).toUInt32 % 65536).toInt32 = x ∧ narrow .char (.int x) = .int x := by decide +kernel
/-- what holds of a text constant where the machine's contracts are called -/
theorem j_pre {D : va_G} {dA : Nat → ClassId} {ad : Nat → Nat} {B : Nat} {h : mH} {a : Nat} {q : List Int32} {U : State} (ha : m_str0 ≤ a) (hq : m_txt[a - m_str0]? = some q) (hv : m_Pre D dA ad B h U) :
    j_S (m_Fr dA ad B h) (ad a) U ∧ (∃ cellB : Cell, U.heap[ad a]? = some cellB ∧ cellB.vm.isStatics = false ∧ U.vm.findClass "java/lang/String" = some cellB.cls) ∧ ∃ t v, v.category = 1 ∧ va_OF "java/lang/String" "value" "[B" (.ref t) (ad a) (m_Fr dA ad B h) U U.heap ∧ j_T v (m_Fr dA ad B h) t q.length (fun j => .int (q.getD j 0)) U := by
  obtain ⟨hsz, hP, hK, hD0, hE, -, ⟨adV, hS⟩, hZ, v, hv1, hv2⟩ := hv
  have hi : a - m_str0 < 6 := (List.getElem?_eq_some_iff.mp hq).1
  have e : ad (m_str0 + (a - m_str0)) = ad a := by rw [show m_str0 + (a - m_str0) = a by omega]
  obtain ⟨h1, h2, h3, h4⟩ := hS.1 (a - m_str0) hi
  have e1 : m_tln.getD (a - m_str0) 0 = q.length := by
    rw [List.getD_eq_getElem?_getD, m_tln, List.getElem?_map, hq]
    rfl
  have e2 : m_txt.getD (a - m_str0) [] = q := by
    rw [List.getD_eq_getElem?_getD, hq]
    rfl
  have h5 := vk_recv hS hi va_S.rf
  simp only at h1 h2 h3 h4 h5
  rw [e] at h1 h2 h3 h5
  rw [e1, e2] at h4
  exact ⟨⟨h2, hZ⟩, h5, adV (a - m_str0), v, hv1, h3, h4, hv2⟩
theorem j_end {D : va_G} {dA : Nat → ClassId} {ad : Nat → Nat} {B : Nat} {h : mH} {s t : State} {a : Array Value} {r : Option Value} (hv : m_Pre D dA ad B h s) (ht : t.heap = s.heap) : m_Q D dA ad B h r h a s (.returned r) t := by
  obtain ⟨hsz, hP, hK, hD0, hE, hT⟩ := hv
  refine ⟨⟨rfl, by rw [ht]; exact hsz, by rw [ht]; exact hP, hD0.self⟩, va_S.rf.F ht⟩
theorem m_len_met (l : Launch) (D : va_G) (dA : Nat → ClassId) (ad : Nat → Nat) (B : Nat) {a : Nat} {q : List Int32} {h : mH} (ha : m_str0 ≤ a) (hq : m_txt[a - m_str0]? = some q) : m_Met l D dA ad B 4 900 [.ref a] h (some (.int (Int32.ofNat q.length))) h := by
  unfold m_Met
  rw [Nat.sub_self, Nat.sub_self]
  show Met l jL (j_ws jL prog_17_method_54_code 1 (some .int)) (m_rm 4 0 0) (va_Pc [.ref (ad a)] (m_Pre D dA ad B h)) (m_Q D dA ad B h (some (.int (Int32.ofNat q.length))) h) 0 0 (m_Fr dA ad B h)
  refine Met.ofW (cc := prog_17_method_54_code) (maxL := 1) (ret := some .int) (by decide +kernel) rfl ?_
  intro p e s m args below meth c s₁ Bd hml hpre
  obtain ⟨rfl, hv⟩ := hpre
  obtain ⟨g1, g2, t, v, hv1, g3, g4⟩ := j_pre ha hq hv
  have S := j_own (ws := mTT) Bd hml
  obtain ⟨hx, hb, -, hown, hts⟩ := id S
  have hrt := Bd.returns
  have hlocks := Bd.notSynchronized
  rw [lg_entry_eq]
  have hE := lv_entry [.ref (ad a)] (n := 1) (by simp [lg_sl, Value.category])
  generalize ((lg_sl [.ref (ad a)] ++ List.replicate (1 - (lg_sl [.ref (ad a)]).length) Slot.unset).toArray) = ls at hE
  have h0 := lv_at hE 0 rfl
  refine lv_aload_n (k := 0) hx hb (by decide +kernel) rfl h0 ?_
  refine vk_getf (index := 9) (ref := "java/lang/String") hx hb g3 va_S.rf hown (hts _ (m_w_in (q := 7224) (by decide +kernel))) (fun _ h => h) (by decide +kernel) ?_
  refine va_tlen hx hb g4.1 va_S.rf rfl (by decide +kernel) ?_
  refine lv_aload_n (k := 0) hx hb (by decide +kernel) rfl h0 ?_
  refine j_virt (index := 335) (C := "java/lang/String") (d := 0) (as := []) S (j_O l (A := m_Fr dA ad B h)) ⟨by decide, by decide⟩ (m_w_in (q := 3033) (by decide +kernel)) (m_w_in (q := 3030) (by decide +kernel)) (m_w_in (q := 3031) (by decide +kernel)) (m_w_in (q := 3032) (by decide +kernel)) (m_w_in (q := 1014) (by decide +kernel)) (by decide) (by decide) (show m_na jO 0 = true by decide +kernel) j_S.blind g2 (fun U hU hW => g1.warm hU hW) hE.1 (rest := [.int (Int32.ofNat q.length)]) (by simp [Value.category]) (by decide +kernel) ⟨Nat.zero_le _, Nat.zero_le _⟩ ?_ rfl
  refine lv_ishr hx hb (by decide +kernel) ?_
  have e9 : Int32.ofNat q.length >>> (0 &&& 31) = Int32.ofNat q.length := by simp
  rw [e9]
  exact W.iret hx hb hrt (fun t ht hW => j_end hv ht) (fun q h => by cases h) (by decide +kernel) hlocks
theorem m_char_met (l : Launch) (D : va_G) (dA : Nat → ClassId) (ad : Nat → Nat) (B : Nat) {a : Nat} {j : Int32} {q : List Int32} {h : mH} (ha : m_str0 ≤ a) (hq : m_txt[a - m_str0]? = some q) (hj : ¬ (j < 0 ∨ q.length ≤ j.toNatClampNeg)) : m_Met l D dA ad B 4 901 [.ref a, .int j] h (some (.int ((q[j.toNatClampNeg]?).getD 0))) h := by
  unfold m_Met
  rw [Nat.sub_self, Nat.sub_self]
  show Met l jC (j_ws jC prog_17_method_56_code 2 (some .char)) (m_rm 4 0 0) (va_Pc [.ref (ad a), .int j] (m_Pre D dA ad B h)) (m_Q D dA ad B h (some (.int ((q[j.toNatClampNeg]?).getD 0))) h) 0 0 (m_Fr dA ad B h)
  refine Met.ofW (cc := prog_17_method_56_code) (maxL := 2) (ret := some .char) (by decide +kernel) rfl ?_
  intro p e s m args below meth c s₁ Bd hml hpre
  obtain ⟨rfl, hv⟩ := hpre
  obtain ⟨g1, g2, t, v, hv1, g3, g4⟩ := j_pre ha hq hv
  have S := j_own (ws := mTT) Bd hml
  obtain ⟨hx, hb, -, hown, hts⟩ := id S
  have hrt := Bd.returns
  have hlocks := Bd.notSynchronized
  rw [lg_entry_eq]
  have hE := lv_entry [.ref (ad a), .int j] (n := 2) (by simp [lg_sl, Value.category])
  generalize ((lg_sl [.ref (ad a), .int j] ++ List.replicate (2 - (lg_sl [.ref (ad a), .int j]).length) Slot.unset).toArray) = ls at hE
  have h0 := lv_at hE 0 rfl
  have h1 := lv_at hE 1 rfl
  have hlt : j.toNatClampNeg < q.length := Nat.not_le.mp fun z => hj (Or.inr z)
  obtain ⟨hq1, hq2⟩ := j_txt q (List.mem_of_getElem? hq)
  have hget : q[j.toNatClampNeg]? = some q[j.toNatClampNeg] := List.getElem?_eq_getElem hlt
  obtain ⟨x1, x2⟩ := hq2 _ (List.getElem_mem hlt)
  rw [hget]
  generalize hxx : q[j.toNatClampNeg] = x at x1 x2 hget
  have hf : (fun i => Value.int (q.getD i 0)) j.toNatClampNeg = .int x := by
    show Value.int (q.getD j.toNatClampNeg 0) = _
    rw [List.getD_eq_getElem?_getD, hget]
    rfl
  refine lv_aload_n (k := 0) hx hb (by decide +kernel) rfl h0 ?_
  refine j_virt (index := 492) (C := "java/lang/String") (d := 0) (as := []) S (j_I l (A := m_Fr dA ad B h)) ⟨by decide, by decide⟩ (m_w_in (q := 3043) (by decide +kernel)) (m_w_in (q := 3040) (by decide +kernel)) (m_w_in (q := 3041) (by decide +kernel)) (m_w_in (q := 3042) (by decide +kernel)) (m_w_in (q := 1014) (by decide +kernel)) (by decide) (by decide) (show m_na jI 0 = true by decide +kernel) j_S.blind g2 (fun U hU hW => g1.warm hU hW) hE.1 (rest := []) (by decide) (by decide +kernel) ⟨Nat.zero_le _, Nat.zero_le _⟩ ?_ rfl
  refine lv_if_eq (off := 12) (tgt := 16) hx hb (by decide +kernel) rfl (fun h => absurd h (by decide)) fun _ => ?_
  refine lv_aload_n (k := 0) hx hb (by decide +kernel) rfl h0 ?_
  refine vk_getf (index := 9) (ref := "java/lang/String") hx hb g3 va_S.rf hown (hts _ (m_w_in (q := 7224) (by decide +kernel))) (fun _ h => h) (by decide +kernel) ?_
  refine lv_iload_n (k := 1) hx hb (by decide +kernel) rfl h1 ?_
  refine j_static (index := 495) (d := 2) S (j_A l v hv1 hj (j_lt (fun z => hj (Or.inl z)) hlt (by omega)) hf x1 x2) ⟨by decide, by decide⟩ (m_w_in (q := 3046) (by decide +kernel)) (m_w_in (q := 3044) (by decide +kernel)) (m_w_in (q := 3045) (by decide +kernel)) (m_w_in (q := 1015) (by decide +kernel)) (by decide) (by decide) (show m_na jA 2 = true by decide +kernel) (fun a U g mk h => ⟨h.1, va_T.moved (u := U) (Vm.Alike.refl U.vm) h.2.1, va_Z.moved (u := U) (Vm.Alike.refl U.vm) h.2.2⟩) (fun U hU hW => ⟨by rw [hU]; exact va_T.moved hW.alike g4.1, g4.2.warm hU hW⟩) hE.1 (rest := []) (by decide) (by decide +kernel) ⟨Nat.zero_le _, Nat.zero_le _⟩ ?_ rfl
  exact W.zret (ty := .char) hx hb hrt x2 (fun t ht hW => j_end hv ht) (fun q h => by cases h) (by decide +kernel) hlocks
/-- a text constant's length() and charAt() -/
theorem m_bi_met (l : Launch) (D : va_G) (dA : Nat → ClassId) (ad : Nat → Nat) (B : Nat) {k : Nat} {as : List Value} {h h' : mH} {r : Option Value} (hr : m_bi k as h = some (r, h')) : m_Met l D dA ad B 4 k as h r h' := by
  unfold m_bi at hr
  cases h9 : Nat.beq k 900 with
  | true =>
    obtain rfl := Nat.eq_of_beq_eq_true h9
    rw [h9, cond_true] at hr
    split at hr
    · rename_i a
      cases hb : Nat.ble m_str0 a with
      | false => rw [hb, cond_false] at hr; cases hr
      | true =>
        rw [hb, cond_true] at hr
        split at hr
        · rename_i q hq
          cases hr
          exact m_len_met l D dA ad B (Nat.le_of_ble_eq_true hb) hq
        · cases hr
    · cases hr
  | false =>
    rw [h9, cond_false] at hr
    cases h8 : Nat.beq k 901 with
    | false => rw [h8, cond_false] at hr; cases hr
    | true =>
      obtain rfl := Nat.eq_of_beq_eq_true h8
      rw [h8, cond_true] at hr
      split at hr
      · rename_i a j
        cases hb : Nat.ble m_str0 a with
        | false => rw [hb, cond_false] at hr; cases hr
        | true =>
          rw [hb, cond_true] at hr
          split at hr
          · rename_i q hq
            split at hr
            · cases hr
            · rename_i hj
              cases hr
              exact m_char_met l D dA ad B (Nat.le_of_ble_eq_true hb) hq hj
          · cases hr
      · cases hr
