/-! CALLS, THE OTHER KINDS; branches, switches; blocks; methods -/
section MC2
variable {p : Program} {l : Launch} {e : Env} {R : Room} {s : State} {m : MethodId} {args : Array Value} {below : List Frame} {meth : Method} {c : Code} {Q : State → Prop} {cc : ByteArray} {own nm : String} {nL : Nat} {D : va_G} {dA : Nat → ClassId} {ad : Nat → Nat} {A : Nat → Prop} {B N0 S0 : Nat} {pc n d : Nat} {ds : List (List Nat)} {lo lo' : mL} {os os' : List Value} {h h1 : mH} {w : Option Value} {k : Nat} {H : Heap} {locs : List Loc} {cells slots : Nat} {ls : Array Slot}
theorem m_ok_static {cal : mK} {z : Nat} (hF : m_Fx p s m args meth c cc own nm nL D dA ad A B) (hE : m_Ex s) (hT : m_TX ad A s s.heap) (hDp : m_Dp R d) (hcal : m_Cal l D dA ad B cal d) (hdg : decode cc pc = .ok (.invokestatic z, 3)) (hck : m_ckS own z ds = true) (hn : Nat.ble 995 (m_d (m_hd ds) 1) = false) (hr : cal (m_d (m_hd ds) 1) (os.take (m_d (m_hd ds) 0)).reverse h = some (w, h1)) (hlen0 : m_d (m_hd ds) 0 ≤ os.length) (hct : m_cat (os.drop (m_d (m_hd ds) 0)) ≤ 8) (hRm : m_Rm R N0 S0 h1) (kk : m_W p l e R s m args below meth c Q nL D dA ad A B N0 S0 (pc + 3) lo (w.toList ++ os.drop (m_d (m_hd ds) 0)) h1) : m_W p l e R s m args below meth c Q nL D dA ad A B N0 S0 pc lo os h := by
  intro H locs cells slots ls hN
  obtain ⟨hle, hnr, hm⟩ := hcal _ _ _ _ _ hr
  obtain ⟨d', hd', hM⟩ := hm hRm.2.2
  obtain ⟨hx, hb, hml, hown, hts, hK, hA, hnm, hB⟩ := id hF
  have hst : (os.map (m_v ad)) = (((os.take (m_d (m_hd ds) 0)).reverse).map (m_v ad)).reverse ++ (os.drop (m_d (m_hd ds) 0)).map (m_v ad) := m_stk ad os _
  have hroom : 2 * (F0 m pc ls (os.map (m_v ad))).monitorRoom + (((os.drop (m_d (m_hd ds) 0)).map (m_v ad)).map fun v => v.category).sum ≤ 8 := lv_room (by rw [m_cat_map]; exact hct)
  have hlen : ((((os.take (m_d (m_hd ds) 0)).reverse).map (m_v ad))).length = m_d (m_hd ds) 0 := by
    rw [List.length_map, List.length_reverse, List.length_take]; omega
  have hpre : PreS s H (va_Pc (((os.take (m_d (m_hd ds) 0)).reverse).map (m_v ad)) (m_Pre D dA ad B h)) (((os.take (m_d (m_hd ds) 0)).reverse).map (m_v ad)) := ⟨m_blind, m_pre_of hF hE hT hN _⟩
  have S : CallFix p m c cc nL s args mTT own := ⟨hx, hb, hml, hown, hts⟩
  have hlt : m_d (m_hd ds) 1 < 995 := by
    rcases Nat.lt_or_ge (m_d (m_hd ds) 1) 995 with q | q
    · exact q
    · rw [Nat.ble_eq_true_of_le q] at hn; cases hn
  have hbq : ∀ j, 995 ≤ j → Nat.beq (m_d (m_hd ds) 1) j = false := fun j hj => by
    cases hb : Nat.beq (m_d (m_hd ds) 1) j with
    | false => rfl
    | true => have := Nat.eq_of_beq_eq_true hb; omega
  unfold m_ckS at hck
  rw [hbq 998 (by omega), hbq 995 (by omega), hbq 996 (by omega), hbq 997 (by omega), cond_false, cond_false, cond_false, cond_false] at hck
  simp only [Bool.and_eq_true] at hck
  obtain ⟨⟨⟨hok, w1⟩, w2⟩, h3⟩ := hck
  obtain ⟨g1, g2, g3, g4, g5⟩ := m_okk_spec hok hts
  obtain ⟨b1, b2, b3, b4, b5, b6⟩ := m_callB (mc := h1.1.length - h.1.length) (ms := m_sz h1 - m_sz h) hF hok hDp hd'
  refine m_after (a := (((os.take (m_d (m_hd ds) 0)).reverse).map (m_v ad)).toArray) hF hN hle hnr ?_ kk
  split at h3
  · exact va_runS (n := m_d (m_hd ds) 0) (rest := (os.drop (m_d (m_hd ds) 0)).map (m_v ad)) S hM ⟨⟨b1, b2, b3, b4, b5, b6, g1, g2, ⟨g3, g4⟩, m_na_spec w2, hts _ (m_w_in h3)⟩, hts _ (m_w_in w1)⟩ hpre rfl hlen hN.2.2.2.2.2.2.1 hst hroom hdg (m_cells hN hle hRm)
  · split at h3
    · cases h3
    · rename_i q hq
      simp only [Bool.and_eq_true, decide_eq_true_eq] at h3
      obtain ⟨⟨e1, e2⟩, e3⟩ := h3
      have hz := hE.2.2.2 q (List.mem_of_getElem? hq)
      rw [e1, e2, e3] at hz
      exact va_runSN (n := m_d (m_hd ds) 0) (rest := (os.drop (m_d (m_hd ds) 0)).map (m_v ad)) S hM ⟨⟨⟨b1, b2, b3, b4, b5, b6⟩, g1, g2, ⟨g3, g4⟩, m_na_spec w2, va_Nw.use rfl hz⟩, hts _ (m_w_in w1), trivial⟩ hpre rfl hlen hN.2.2.2.2.2.2.1 hst hroom hdg (m_cells hN hle hRm)
/-- super.m(..) of a method that the superclass may have inherited -/
theorem m_runSU {x y : MethodName} {bytes : ByteArray} {maxL mc ms index : Nat} {ret : Option FieldType} {ws : List Jvm.Cond} {rm : Room} {Pc : Array Value → State → Prop} {Qc : Array Value → State → Outcome → State → Prop} {free : Addr → Prop} {Ts : List Jvm.Cond} {C : String} {cC : ClassId} {b : Addr} {As rest : List Value} {g : JFrame}
    (hat : ClassAt s C cC) (S : CallFix p m c cc nL s args Ts own) (hM : Met l y ws rm Pc Qc mc ms free)
    (cw : rm.cells = mc ∧ rm.slots = ms ∧ rm.frames + 1 ≤ R.frames ∧ 8 + (maxL + 11) + rm.locals ≤ R.locals ∧ (∀ w ∈ ws, ∀ (a' : Array Value) (U : State), s.WarmedH U.vm → w.before a' U = true) ∧ Cond.code y bytes maxL ret ∈ ws) (hxn : x.name = y.name) (hxd : x.desc = y.desc)
    (hlink : (Cond.methodLink own index x).before args s = true) (hsame : (Cond.sameMethod x.cls y.cls x.name x.desc).before args s = true) (hsup : (Cond.superclass own x.cls).before args s = true) (hsup2 : x.cls = y.cls ∨ (Cond.superclass x.cls y.cls).before args s = true) (hinst : (Cond.instanceMethod y).before args s = true) (hini : (Cond.initialized y.cls).before args s = true) (hcode : (Cond.code y bytes maxL ret).before args s = true) (hno : y.name ≠ "<init>") (hlen : ∀ sig, parseMethodDescriptor y.desc = some sig → n = sig.parameters.length) (hp : PreV s H C b Pc As)
    (hg : g.method = m) (hn : As.length = n) (hsize : g.locals.size = nL) (hstack : g.stack = As.reverse ++ .ref b :: rest) (hW : 2 * g.monitorRoom + (rest.map fun v => v.category).sum ≤ 8) (hdg : decode cc g.pc = .ok (.invokespecial index, 3)) (hf : cells + mc ≤ R.cells ∧ slots + ms ≤ R.slots) :
    va_Run p l e R s m args below meth c H locs cells slots mc ms g rest (Qc (Value.ref b :: As).toArray) (free) := by
  obtain ⟨hrc, hrs, hfr, hlo, hws, hcw⟩ := cw
  have hK : Back l R p e below s args y 3 8 (PreOf R mc ms Pc) (PostOf Qc mc ms free) := back_of (bytes := bytes) (maxL := maxL) (ret := ret) hM hp.1 hrc hrs hfr hlo hws hcw (fun a' U hW => word_at hW (Or.inl (by first | rfl | simp [Cond.onTables, Cond.keeps, Cond.steady])) hini)
  obtain ⟨hx, hb, hml, ho, -⟩ := S
  obtain ⟨-, ⟨cellB, hcB, hoB, hclB⟩, hPc⟩ := hp
  obtain ⟨hfc, kB, hkB, -⟩ := hat
  cases hfc.symm.trans hclB
  obtain ⟨mk, methM, hnamed, hmethM, hstM, habM⟩ := Cond.instanceMethod_spec hinst
  obtain ⟨methM', cM, hmethM', -, -, -, -, -, -, hsigM⟩ := Cond.code_spec hnamed hcode
  cases hmethM.symm.trans hmethM'
  obtain ⟨ps, dk, kp, hps, hdk, hkp, hsuper, -, -, hnid⟩ := Cond.superclass_spec ho hsup
  have hnm : s.methodNamed? ⟨y.cls, x.name, x.desc⟩ = some mk := by rw [hxn, hxd]; exact hnamed
  have hmk := findClass_of_methodNamed hnamed
  have hsub : s.vm.isSubclass ps mk.cls = true := by
    rcases hsup2 with hq | hq
    · have : ps = mk.cls := Option.some.inj (hps.symm.trans (by rw [hq]; exact hmk))
      rw [this]; simp [Vm.isSubclass, Vm.isSubclassAux]
    · obtain ⟨p2, k2, kp2, hp2, hk2, hkp2, hs2, -, -, -⟩ := Cond.superclass_spec hps hq
      have e2 : p2 = mk.cls := Option.some.inj (hp2.symm.trans hmk)
      have hpos : 0 < s.vm.classes.size := Nat.lt_of_le_of_lt (Nat.zero_le _) (Array.getElem?_eq_some_iff.mp hk2).1
      obtain ⟨z, hz⟩ : ∃ z, s.vm.classes.size = z + 1 := ⟨s.vm.classes.size - 1, by omega⟩
      unfold Vm.isSubclass
      rw [hz]
      unfold Vm.isSubclassAux
      rw [hk2]
      simp only [hs2]
      unfold Vm.isSubclassAux
      simp [e2]
  intro T hT X
  obtain ⟨vm₁, X₁, hstep₁⟩ := X.invokespecialUp hx ho hlink hsame hnm hmethM hstM habM (by rw [hxn]; exact hno) hdk hnid hps hsuper hsub (a := b) (cell := cellB) (by rw [hT]; exact hcB)
    (fun z h => by rw [h] at hoB; cases hoB) hkB (g := g) hg (argsL := As) (rest := rest) (hn.trans (hlen _ hsigM)) hstack (by rw [hb]; exact hdg)
  obtain ⟨v, BB, X', ⟨g', mk', t, L, e1, e2, hq, h1, hL, h2, h3⟩, hsteps⟩ := hK m meth c ⟨T.setVm vm₁, locs, cells, slots⟩ { g with stack := rest } (.invokespecial index) mk (Value.ref b :: As).toArray X₁ hg (hsize.trans hml.symm) (by rw [hb]; exact hdg) hW (X₁.named hnamed) ⟨hf.1, hf.2, hPc (T.setVm vm₁) hT X₁.warmed⟩
  obtain ⟨U', l2, c2, s2⟩ := BB
  dsimp only [Pt.U, Pt.locs, Pt.cells, Pt.slots] at X' e1 e2 h1 h2 h3 hsteps
  subst h1; subst h2; subst h3
  exact ⟨v, (T.setVm vm₁).calling g' mk' (Value.ref b :: As).toArray, t, U', L, hT, X', hL, e1, e2, hq, fun target h => hstep₁ _ (by rw [doInvoke_state]; exact hsteps.trans h)⟩
theorem m_ok_objInit {z a : Nat} {os1 : List Value} (hF : m_Fx p s m args meth c cc own nm nL D dA ad A B) (hDp : m_Dp R d) (hdg : decode cc pc = .ok (.invokespecial z, 3)) (hck : m_ckI own z ds = true) (hn : Nat.beq (m_d (m_hd ds) 1) 999 = true) (hd : os.drop (m_d (m_hd ds) 0) = .ref a :: os1) (hct : m_cat os1 ≤ 8) (kk : m_W p l e R s m args below meth c Q nL D dA ad A B N0 S0 (pc + 3) lo os1 h) : m_W p l e R s m args below meth c Q nL D dA ad A B N0 S0 pc lo os h := by
  intro H locs cells slots ls hN
  obtain ⟨hx, hb, hml, hown, hts, hK, hA, hnm, hB⟩ := id hF
  unfold m_ckI at hck
  rw [hn, cond_true] at hck
  simp only [Bool.and_eq_true, decide_eq_true_eq] at hck
  obtain ⟨⟨⟨w1, w2⟩, w3⟩, w4⟩ := hck
  rw [w4, List.drop_zero] at hd
  subst hd
  have hroom : 2 * (F0 m pc ls ((Value.ref a :: os1).map (m_v ad))).monitorRoom + ((os1.map (m_v ad)).map fun v => v.category).sum ≤ 8 := lv_room (by rw [m_cat_map]; exact hct)
  refine W.objInit hx hb hown (hts _ (m_w_in w1)) (hts _ (m_w_in w2)) (hts _ (m_w_in w3)) rfl (hN.2.2.2.2.2.2.1.trans hml.symm) rfl hdg (by have := hDp.1; omega) (by have := hDp.2; omega) (kk H locs cells slots ls hN)
theorem m_ok_special {cal : mK} {z a : Nat} {os1 : List Value} (hF : m_Fx p s m args meth c cc own nm nL D dA ad A B) (hE : m_Ex s) (hT : m_TX ad A s s.heap) (hDp : m_Dp R d) (hcal : m_Cal l D dA ad B cal d) (hdg : decode cc pc = .ok (.invokespecial z, 3)) (hck : m_ckI own z ds = true) (hn : Nat.beq (m_d (m_hd ds) 1) 999 = false) (hd : os.drop (m_d (m_hd ds) 0) = .ref a :: os1) (hct : m_cat os1 ≤ 8) (hr : cal (m_d (m_hd ds) 1) (.ref a :: (os.take (m_d (m_hd ds) 0)).reverse) h = some (w, h1)) (ha : ∃ (ci nn : Nat) (rs : List (Option Nat)), h.1[a]? = some (ci, nn, rs) ∧ ci < 13) (hRm : m_Rm R N0 S0 h1) (kk : m_W p l e R s m args below meth c Q nL D dA ad A B N0 S0 (pc + 3) lo (w.toList ++ os1) h1) : m_W p l e R s m args below meth c Q nL D dA ad A B N0 S0 pc lo os h := by
  intro H locs cells slots ls hN
  obtain ⟨hle, hnr, hm⟩ := hcal _ _ _ _ _ hr
  obtain ⟨d', hd', hM⟩ := hm hRm.2.2
  obtain ⟨hx, hb, hml, hown, hts, hK, hA, hnm, hB⟩ := id hF
  have hst : (os.map (m_v ad)) = (((os.take (m_d (m_hd ds) 0)).reverse).map (m_v ad)).reverse ++ .ref (ad a) :: os1.map (m_v ad) := by
    rw [m_stk ad os (m_d (m_hd ds) 0), hd]; rfl
  have hroom : 2 * (F0 m pc ls (os.map (m_v ad))).monitorRoom + ((os1.map (m_v ad)).map fun v => v.category).sum ≤ 8 := lv_room (by rw [m_cat_map]; exact hct)
  have hlen : ((((os.take (m_d (m_hd ds) 0)).reverse).map (m_v ad))).length = m_d (m_hd ds) 0 := by
    rw [List.length_map, List.length_reverse]; exact m_take_len hd
  have hpre0 : FrameBlind (va_Pc ((Value.ref a :: (os.take (m_d (m_hd ds) 0)).reverse).map (m_v ad)) (m_Pre D dA ad B h)) ∧ ∀ U : State, U.heap = H → s.WarmedH U.vm → va_Pc ((Value.ref a :: (os.take (m_d (m_hd ds) 0)).reverse).map (m_v ad)) (m_Pre D dA ad B h) (Value.ref (ad a) :: ((os.take (m_d (m_hd ds) 0)).reverse).map (m_v ad)).toArray U := ⟨m_blind, m_pre_of hF hE hT hN _⟩
  have S : CallFix p m c cc nL s args mTT own := ⟨hx, hb, hml, hown, hts⟩
  unfold m_ckI at hck
  rw [hn, cond_false] at hck
  simp only [Bool.and_eq_true] at hck
  obtain ⟨⟨⟨hok, w1⟩, w2⟩, h3⟩ := hck
  obtain ⟨g1, g2, g3, g4, g5⟩ := m_okk_spec hok hts
  obtain ⟨b1, b2, b3, b4, b5, b6⟩ := m_callB (mc := h1.1.length - h.1.length) (ms := m_sz h1 - m_sz h) hF hok hDp hd'
  refine m_after (a := (Value.ref (ad a) :: ((os.take (m_d (m_hd ds) 0)).reverse).map (m_v ad)).toArray) hF hN hle hnr ?_ kk
  split at h3
  · simp only [Bool.and_eq_true, decide_eq_true_eq] at h3
    obtain ⟨⟨w3, e1⟩, e2⟩ := h3
    rw [e2] at g1 b6
    exact va_runI (n := m_d (m_hd ds) 0) (rest := os1.map (m_v ad)) S hM ⟨⟨b1, b2, b3, b4, b5, b6, g1, g2, ⟨g3, g4⟩, m_na_spec w2, hts _ (m_w_in w3)⟩, e1, hts _ (m_w_in w1)⟩ hpre0 rfl hlen hN.2.2.2.2.2.2.1 hst hroom hdg (m_cells hN hle hRm)
  · simp only [Bool.and_eq_true, decide_eq_true_eq] at h3
    obtain ⟨⟨e1, e2⟩, h3⟩ := h3
    split at h3
    · cases h3
    · rename_i q hq
      simp only [Bool.and_eq_true, decide_eq_true_eq] at h3
      obtain ⟨⟨f1, f2⟩, f3⟩ := h3
      have hz := hE.2.2.2 q (List.mem_of_getElem? hq)
      rw [f1, f2, f3] at hz
      rw [e2] at g1 b6
      exact va_runIN (n := m_d (m_hd ds) 0) (rest := os1.map (m_v ad)) S hM ⟨⟨⟨b1, b2, b3, b4, b5, b6⟩, g1, g2, ⟨g3, g4⟩, m_na_spec w2, va_Nw.use rfl hz⟩, e1, hts _ (m_w_in w1)⟩ hpre0 rfl hlen hN.2.2.2.2.2.2.1 hst hroom hdg (m_cells hN hle hRm)
  · simp only [Bool.and_eq_true, decide_eq_true_eq] at h3
    obtain ⟨hno, h3⟩ := h3
    split at h3
    · rename_i o i x hq
      simp only [Bool.and_eq_true, decide_eq_true_eq] at h3
      obtain ⟨⟨⟨⟨⟨⟨rfl, rfl⟩, e1⟩, e2⟩, w3⟩, w4⟩, h4⟩ := h3
      obtain ⟨ci, nn, rs, hi, hlt⟩ := ha
      obtain ⟨q, hq2⟩ : ∃ q, m_cl[ci]? = some q := ⟨_, List.getElem?_eq_getElem (show ci < m_cl.length from hlt)⟩
      have hcn : m_cn ci = some q.1 := by
        unfold m_cn
        have : Nat.beq ci 300 = false := by
          cases hb : Nat.beq ci 300 with
          | false => rfl
          | true => have := Nat.eq_of_beq_eq_true hb; omega
        rw [this, cond_false, hq2]; rfl
      obtain ⟨hrc, cC, hat⟩ := m_recvO hF hN hi (by omega) hcn
      refine m_runSU (x := x) (n := m_d (m_hd ds) 0) (rest := os1.map (m_v ad)) hat S hM ⟨b1, b2, b3, b4, b5, b6⟩ e1 e2 (hts _ (m_tw_in hq rfl)) (hts _ (m_w_in w3)) (hts _ (m_w_in w4)) ?_ (hts _ (m_w_in w1)) g2 g1 hno (m_na_spec w2) ⟨hpre0.1, hrc, hpre0.2⟩ rfl hlen hN.2.2.2.2.2.2.1 hst hroom hdg (m_cells hN hle hRm)
      split at h4
      · simp only [decide_eq_true_eq] at h4
        exact Or.inl h4
      · exact Or.inr (hts _ (m_w_in h4))
    · cases h3
theorem m_cpy_spec {a b : Nat} {sp dp x : Int32} (hg : m_cpy h a sp b dp x = some h1) : ∃ (N M : Nat) (rs rs' : List (Option Nat)), h.1[a]? = some (100, N, rs) ∧ h.1[b]? = some (100, M, rs') ∧ ¬ sp < 0 ∧ ¬ dp < 0 ∧ ¬ x < 0 ∧ sp.toNatClampNeg + x.toNatClampNeg ≤ N ∧ dp.toNatClampNeg + x.toNatClampNeg ≤ M ∧ h1 = (h.1, m_row h.2 b (va_cpy (h.2 a) (h.2 b) sp.toNatClampNeg dp.toNatClampNeg x.toNatClampNeg)) := by
  unfold m_cpy at hg
  split at hg
  · rename_i c1 N rs d1 M rs' h1 h2
    cases hb : (Nat.beq c1 100 && Nat.beq d1 100) with
    | false => rw [hb] at hg; cases hg
    | true =>
      rw [hb, cond_true] at hg
      simp only [Bool.and_eq_true] at hb
      have e1 := Nat.eq_of_beq_eq_true hb.1
      have e2 := Nat.eq_of_beq_eq_true hb.2
      subst e1; subst e2
      split at hg
      · cases hg
      · rename_i hn
        split at hg
        · rename_i hq
          cases hg
          exact ⟨N, M, rs, rs', h1, h2, fun q => hn (Or.inl q), fun q => hn (Or.inr (Or.inl q)), fun q => hn (Or.inr (Or.inr q)), hq.1, hq.2, rfl⟩
        · cases hg
  · cases hg
theorem m_nat0 {z : Int32} (hz : ¬ z < 0) : z.toInt = (z.toNatClampNeg : Int) := by
  have hz0 : (0 : Int) ≤ z.toInt := by
    have := Int32.not_lt.mp hz
    simpa using Int32.le_iff_toInt_le.mp this
  show z.toInt = ((z.toInt.toNat : Nat) : Int)
  omega
theorem m_ok_copy {z a b : Nat} {sp dp x : Int32} {os1 : List Value} (hF : m_Fx p s m args meth c cc own nm nL D dA ad A B) (hDp : m_Dp R d) (hdg : decode cc pc = .ok (.invokestatic z, 3)) (hck : m_ckS own z ds = true) (hn : Nat.beq (m_d (m_hd ds) 1) 998 = true) (hct : m_cat os1 ≤ 8) (hg : m_cpy h a sp b dp x = some h1) (kk : m_W p l e R s m args below meth c Q nL D dA ad A B N0 S0 (pc + 3) lo os1 h1) : m_W p l e R s m args below meth c Q nL D dA ad A B N0 S0 pc lo (.int x :: .int dp :: .ref b :: .int sp :: .ref a :: os1) h := by
  intro H locs cells slots ls hN
  obtain ⟨hx, hb, hml, hown, hts, hK, hA, hnm, hB⟩ := id hF
  obtain ⟨N, M, rs, rs', ha0, hb0, q1, q2, q3, q4, q5, rfl⟩ := m_cpy_spec hg
  unfold m_ckS at hck
  rw [hn, cond_true] at hck
  simp only [Bool.and_eq_true] at hck
  obtain ⟨⟨⟨w1, w2⟩, w3⟩, w4⟩ := hck
  have hea := m_ws_get (dA := dA) (ad := ad) ha0
  have heb := m_ws_get (dA := dA) (ad := ad) hb0
  rw [m_cel_a dA ad (h.2 a) (by omega) (by omega)] at hea
  rw [m_cel_a dA ad (h.2 b) (by omega) (by omega)] at heb
  intro T hT X
  have hc0 : H[ad a]? = some (vp_cell (dA 100) (N, .inl (h.2 a))) := hN.1 a _ hea
  have hc1 : H[ad b]? = some (vp_cell (dA 100) (M, .inl (h.2 b))) := hN.1 b _ heb
  obtain ⟨-, k0, hk0, cm0, hkk0⟩ := (hK.2 0 _ rfl).1 N (fun j => .int (h.2 a j))
  obtain ⟨-, k1, hk1, cm1, hkk1⟩ := (hK.2 0 _ rfl).1 M (fun j => .int (h.2 b j))
  have hW8 : ((os1.map (m_v ad)).map fun v => v.category).sum ≤ 8 := by rw [m_cat_map]; exact hct
  have hfr := hDp.1
  have hlo := hDp.2
  have hnw : nativeFrameWords "java/lang/System" "arraycopy" 5 + 11 ≤ 32 := by decide
  obtain ⟨vm', X', step⟩ := X.arraycopy hx hown (hts _ (m_w_in w1)) (hts _ (m_w_in w2)) (hts _ (m_w_in w3)) (hts _ (m_w_in w4)) (src := ad a) (dst := ad b) (cs := vp_cell (dA 100) (N, .inl (h.2 a))) (cd := vp_cell (dA 100) (M, .inl (h.2 b))) (srcPos := sp) (destPos := dp) (n := x) (by rw [hT]; exact hc0) (by rw [hT]; exact hc1)
    (fun _ h => by cases h) (fun _ h => by cases h) (fun h => by cases h) (fun h => by cases h) hk0 hk1 hkk0 hkk1 (by simp [refKind]) q1 q2 q3
    (by rw [m_nat0 q1, m_nat0 q3]; show ¬ _ > ((arrV (dA 100) N (fun j => .int (h.2 a j))).slots.size : Int); rw [arrV_size]; omega)
    (by rw [m_nat0 q2, m_nat0 q3]; show ¬ _ > ((arrV (dA 100) M (fun j => .int (h.2 b j))).slots.size : Int); rw [arrV_size]; omega)
    (fun vm₁ _ i hi => by
      have e : (vp_cell (dA 100) (N, .inl (h.2 a))).slots.getD (sp.toNatClampNeg + i) .null = .int (h.2 a (sp.toNatClampNeg + i)) := by
        show (arrV (dA 100) N (fun j => .int (h.2 a j))).slots.getD _ _ = _
        rw [Array.getD_eq_getD_getElem?, arrV_read _ _ (by omega)]
        rfl
      refine ⟨?_, ?_⟩
      · rw [e]
        rfl
      · rw [e]
        exact trivial)
    (g := F0 m pc ls (.int x :: .int dp :: .ref (ad b) :: .int sp :: .ref (ad a) :: os1.map (m_v ad))) rfl (by rw [hml]; exact hN.2.2.2.2.2.2.1) (rest := os1.map (m_v ad)) rfl (by rw [hb]; exact hdg) (by omega) (by show 2 * 0 + _ + _ ≤ _; omega)
  have e1 : copied (vp_cell (dA 100) (N, .inl (h.2 a))) (vp_cell (dA 100) (M, .inl (h.2 b))) sp dp x = vp_cell (dA 100) (M, .inl (va_cpy (h.2 a) (h.2 b) sp.toNatClampNeg dp.toNatClampNeg x.toNatClampNeg)) := va_copied (fun z => .int z) (dA 100) (dA 100) (h.2 a) (h.2 b) q4
  rw [e1] at X' step
  have hl : ad b < H.size := (Array.getElem?_eq_some_iff.mp hc1).1
  have hheap : ((T.setVm vm').setCell (ad b) (vp_cell (dA 100) (M, .inl (va_cpy (h.2 a) (h.2 b) sp.toNatClampNeg dp.toNatClampNeg x.toNatClampNeg)))).heap = H.setIfInBounds (ad b) (vp_cell (dA 100) (M, .inl (va_cpy (h.2 a) (h.2 b) sp.toNatClampNeg dp.toNatClampNeg x.toNatClampNeg))) := by rw [← hT]; rfl
  have oq : ∀ q : Nat, q ≠ ad b → (H.setIfInBounds (ad b) (vp_cell (dA 100) (M, .inl (va_cpy (h.2 a) (h.2 b) sp.toNatClampNeg dp.toNatClampNeg x.toNatClampNeg))))[q]? = H[q]? := fun q hq => by simp [Array.getElem?_setIfInBounds, Ne.symm hq]
  have hP := hN.1.set hN.2.1 heb (e := .inl (dA 100, M, .inl (va_cpy (h.2 a) (h.2 b) sp.toNatClampNeg dp.toNatClampNeg x.toNatClampNeg))) (show (H.setIfInBounds (ad b) _)[ad b]? = some _ by simp [Array.getElem?_setIfInBounds, hl]) oq
  have hD := hN.2.1.set heb (e := .inl (dA 100, M, .inl (va_cpy (h.2 a) (h.2 b) sp.toNatClampNeg dp.toNatClampNeg x.toNatClampNeg)))
  rw [← m_cel_a dA ad _ (rs := rs') (by omega) (by omega), m_ws_set _ hb0, m_set_self hb0] at hP hD
  have hbD := hN.2.1.2 b _ heb
  obtain ⟨t, a1, b1⟩ := kk _ _ cells slots ls ⟨hP, hD, ⟨by simp; exact hN.2.2.1.1, fun q g1 g2 => by
      rw [oq q (fun e => g2 (by rw [e]; exact hbD))]
      exact hN.2.2.1.2.1 q g1 g2, fun q hq => by
      rcases List.mem_append.mp hq with h | h
      · exact hN.2.2.1.2.2 q h
      · obtain ⟨z, -, hz⟩ := List.mem_map.mp h
        rw [← hz]
        exact hbD⟩, by simp; exact hN.2.2.2.1, hN.2.2.2.2.1, hN.2.2.2.2.2.1, hN.2.2.2.2.2.2⟩ _ hheap X'
  exact ⟨t, step t a1, b1⟩
theorem m_spc_le {os1 : List Value} (hs : m_spc k os h = some (os1, h1)) : m_le h h1 := by
  unfold m_spc at hs
  cases b8 : Nat.beq k 998 with
  | true =>
    rw [b8, cond_true] at hs
    split at hs
    · cases hc : Nat.ble (m_cat _) 8 with
      | false => rw [hc, cond_false] at hs; cases hs
      | true =>
        rw [hc, cond_true] at hs
        split at hs
        · rename_i h2 hg
          cases hs
          obtain ⟨N, M, rs, rs', -, -, -, -, -, -, -, rfl⟩ := m_cpy_spec hg
          exact ⟨Nat.le_refl _, Nat.le_refl _⟩
        · cases hs
    · cases hs
  | false =>
    rw [b8, cond_false] at hs
    cases b5 : Nat.beq k 995 with
    | true =>
      rw [b5, cond_true] at hs
      split at hs
      · cases hc : Nat.ble (m_cat _) 8 with
        | false => rw [hc, cond_false] at hs; cases hs
        | true => rw [hc, cond_true] at hs; cases hs; exact m_le.rf
      · cases hs
    | false =>
      rw [b5, cond_false] at hs
      cases b6 : Nat.beq k 996 with
      | true =>
        rw [b6, cond_true] at hs
        split at hs
        · cases hc : Nat.ble (m_cat _) 8 with
          | false => rw [hc, cond_false] at hs; cases hs
          | true => rw [hc, cond_true] at hs; cases hs; exact m_le.rf
        · cases hs
      | false =>
        rw [b6, cond_false] at hs
        cases b7 : Nat.beq k 997 with
        | true =>
          rw [b7, cond_true] at hs
          split at hs
          · cases hc : Nat.ble (m_cat _) 8 with
            | false => rw [hc, cond_false] at hs; cases hs
            | true => rw [hc, cond_true] at hs; cases hs; exact m_le.rf
          · cases hs
        | false => rw [b7, cond_false] at hs; cases hs
theorem m_ok_spc {z : Nat} {os1 : List Value} (hF : m_Fx p s m args meth c cc own nm nL D dA ad A B) (hDp : m_Dp R d) (hRm : m_Rm R N0 S0 h) (hdg : decode cc pc = .ok (.invokestatic z, 3)) (hck : m_ckS own z ds = true) (hs : m_spc (m_d (m_hd ds) 1) os h = some (os1, h1)) (kk : m_W p l e R s m args below meth c Q nL D dA ad A B N0 S0 (pc + 3) lo os1 h1) : m_W p l e R s m args below meth c Q nL D dA ad A B N0 S0 pc lo os h := by
  have hfr := hDp.1
  have hlo := hDp.2
  unfold m_spc at hs
  cases b8 : Nat.beq (m_d (m_hd ds) 1) 998 with
  | true =>
    rw [b8, cond_true] at hs
    split at hs
    · cases hc : Nat.ble (m_cat _) 8 with
      | false => rw [hc, cond_false] at hs; cases hs
      | true =>
        rw [hc, cond_true] at hs
        split at hs
        · rename_i h2 hg
          cases hs
          exact m_ok_copy hF hDp hdg hck b8 (Nat.le_of_ble_eq_true hc) hg kk
        · cases hs
    · cases hs
  | false =>
    rw [b8, cond_false] at hs
    unfold m_ckS at hck
    rw [b8, cond_false] at hck
    obtain ⟨hx, hb, hml, hown, hts, hK, hA, hnm, hB⟩ := hF
    cases b5 : Nat.beq (m_d (m_hd ds) 1) 995 with
    | true =>
      rw [b5, cond_true] at hs hck
      simp only [Bool.and_eq_true] at hck
      obtain ⟨⟨⟨w1, w2⟩, w3⟩, w4⟩ := hck
      split at hs
      · cases hc : Nat.ble (m_cat _) 8 with
        | false => rw [hc, cond_false] at hs; cases hs
        | true =>
          rw [hc, cond_true] at hs
          cases hs
          intro H locs cells slots ls hN
          have g1 := hN.2.2.2.2.1
          have g2 := hN.2.2.2.2.2.1
          have g3 := hRm.1
          have g4 := hRm.2.1
          have h8 := Nat.le_of_ble_eq_true hc
          exact va_mmax hx hb (hml.trans hN.2.2.2.2.2.2.1.symm) hown (hts _ (m_w_in w1)) (hts _ (m_w_in w2)) (hts _ (m_w_in w3)) (hts _ (m_w_in w4)) (by omega) (by rw [m_cat_map]; omega) (by omega) (by omega) hdg (kk H locs cells slots ls hN)
      · cases hs
    | false =>
      rw [b5, cond_false] at hs hck
      cases b6 : Nat.beq (m_d (m_hd ds) 1) 996 with
      | true =>
        rw [b6, cond_true] at hs hck
        simp only [Bool.and_eq_true] at hck
        obtain ⟨⟨⟨w1, w2⟩, w3⟩, w4⟩ := hck
        split at hs
        · cases hc : Nat.ble (m_cat _) 8 with
          | false => rw [hc, cond_false] at hs; cases hs
          | true =>
            rw [hc, cond_true] at hs
            cases hs
            intro H locs cells slots ls hN
            have g1 := hN.2.2.2.2.1
            have g2 := hN.2.2.2.2.2.1
            have g3 := hRm.1
            have g4 := hRm.2.1
            have h8 := Nat.le_of_ble_eq_true hc
            exact va_mmin hx hb (hml.trans hN.2.2.2.2.2.2.1.symm) hown (hts _ (m_w_in w1)) (hts _ (m_w_in w2)) (hts _ (m_w_in w3)) (hts _ (m_w_in w4)) (by omega) (by rw [m_cat_map]; omega) (by omega) (by omega) hdg (kk H locs cells slots ls hN)
        · cases hs
      | false =>
        rw [b6, cond_false] at hs hck
        cases b7 : Nat.beq (m_d (m_hd ds) 1) 997 with
        | true =>
          rw [b7, cond_true] at hs hck
          simp only [Bool.and_eq_true] at hck
          obtain ⟨⟨⟨w1, w2⟩, w3⟩, w4⟩ := hck
          split at hs
          · cases hc : Nat.ble (m_cat _) 8 with
            | false => rw [hc, cond_false] at hs; cases hs
            | true =>
              rw [hc, cond_true] at hs
              cases hs
              intro H locs cells slots ls hN
              have g1 := hN.2.2.2.2.1
              have g2 := hN.2.2.2.2.2.1
              have g3 := hRm.1
              have g4 := hRm.2.1
              have h8 := Nat.le_of_ble_eq_true hc
              exact va_mabs hx hb (hml.trans hN.2.2.2.2.2.2.1.symm) hown (hts _ (m_w_in w1)) (hts _ (m_w_in w2)) (hts _ (m_w_in w3)) (hts _ (m_w_in w4)) (by omega) (by rw [m_cat_map]; omega) (by omega) (by omega) hdg (kk H locs cells slots ls hN)
          · cases hs
        | false => rw [b7, cond_false] at hs; cases hs
/-! branches -/
def m_tg (pc : Nat) (off : Int) (t : Nat) : Bool := decide ((pc : Int) + off = (t : Int))
theorem m_ok_if {i : Jvm.ClassFile.Cond} {o : Int} {x : Int32} {t : Nat} {os1 : List Value} (hF : m_Fx p s m args meth c cc own nm nL D dA ad A B) (hdg : decode cc pc = .ok (.ifCond i o, 3)) (ht : (pc : Int) + o = (t : Int)) {α : Type} {a b out : α} (hab : m_br i x 0 a b = out) (k1 : a = out → m_W p l e R s m args below meth c Q nL D dA ad A B N0 S0 t lo os1 h) (k2 : b = out → m_W p l e R s m args below meth c Q nL D dA ad A B N0 S0 (pc + 3) lo os1 h) : m_W p l e R s m args below meth c Q nL D dA ad A B N0 S0 pc lo (.int x :: os1) h := by
  intro H locs cells slots ls hN
  obtain ⟨hx, hb, hml, hown, hts, hK, hA, hnm, hB⟩ := hF
  cases i <;> simp only [m_br] at hab
  · exact lv_if_eq hx hb hdg ht (fun q => k1 (by rw [if_pos q] at hab; exact hab) H locs cells slots ls hN) (fun q => k2 (by rw [if_neg q] at hab; exact hab) H locs cells slots ls hN)
  · exact lv_if_ne hx hb hdg ht (fun q => k1 (by rw [if_neg q] at hab; exact hab) H locs cells slots ls hN) (fun q => k2 (by rw [if_pos q] at hab; exact hab) H locs cells slots ls hN)
  · exact lv_if_lt hx hb hdg ht (fun q => k1 (by rw [if_pos q] at hab; exact hab) H locs cells slots ls hN) (fun q => k2 (by rw [if_neg q] at hab; exact hab) H locs cells slots ls hN)
  · exact lv_if_ge hx hb hdg ht (fun q => k1 (by rw [if_neg (Int32.not_lt.mpr q)] at hab; exact hab) H locs cells slots ls hN) (fun q => k2 (by rw [if_pos (Int32.not_le.mp q)] at hab; exact hab) H locs cells slots ls hN)
  · exact lv_if_gt hx hb hdg ht (fun q => k1 (by rw [if_pos q] at hab; exact hab) H locs cells slots ls hN) (fun q => k2 (by rw [if_neg q] at hab; exact hab) H locs cells slots ls hN)
  · exact lv_if_le hx hb hdg ht (fun q => k1 (by rw [if_neg (Int32.not_lt.mpr q)] at hab; exact hab) H locs cells slots ls hN) (fun q => k2 (by rw [if_pos (Int32.not_le.mp q)] at hab; exact hab) H locs cells slots ls hN)
theorem m_ok_icmp {i : Jvm.ClassFile.Cond} {o : Int} {x y : Int32} {t : Nat} {os1 : List Value} (hF : m_Fx p s m args meth c cc own nm nL D dA ad A B) (hdg : decode cc pc = .ok (.if_icmp i o, 3)) (ht : (pc : Int) + o = (t : Int)) {α : Type} {a b out : α} (hab : m_br i x y a b = out) (k1 : a = out → m_W p l e R s m args below meth c Q nL D dA ad A B N0 S0 t lo os1 h) (k2 : b = out → m_W p l e R s m args below meth c Q nL D dA ad A B N0 S0 (pc + 3) lo os1 h) : m_W p l e R s m args below meth c Q nL D dA ad A B N0 S0 pc lo (.int y :: .int x :: os1) h := by
  intro H locs cells slots ls hN
  obtain ⟨hx, hb, hml, hown, hts, hK, hA, hnm, hB⟩ := hF
  cases i <;> simp only [m_br] at hab
  · exact lv_icmp_eq hx hb hdg ht (fun q => k1 (by rw [if_pos q] at hab; exact hab) H locs cells slots ls hN) (fun q => k2 (by rw [if_neg q] at hab; exact hab) H locs cells slots ls hN)
  · exact lv_icmp_ne hx hb hdg ht (fun q => k1 (by rw [if_neg q] at hab; exact hab) H locs cells slots ls hN) (fun q => k2 (by rw [if_pos q] at hab; exact hab) H locs cells slots ls hN)
  · exact lv_icmp_lt hx hb hdg ht (fun q => k1 (by rw [if_pos q] at hab; exact hab) H locs cells slots ls hN) (fun q => k2 (by rw [if_neg q] at hab; exact hab) H locs cells slots ls hN)
  · exact lv_icmp_ge hx hb hdg ht (fun q => k1 (by rw [if_neg (Int32.not_lt.mpr q)] at hab; exact hab) H locs cells slots ls hN) (fun q => k2 (by rw [if_pos (Int32.not_le.mp q)] at hab; exact hab) H locs cells slots ls hN)
  · exact lv_icmp_gt hx hb hdg ht (fun q => k1 (by rw [if_pos q] at hab; exact hab) H locs cells slots ls hN) (fun q => k2 (by rw [if_neg q] at hab; exact hab) H locs cells slots ls hN)
  · exact lv_icmp_le hx hb hdg ht (fun q => k1 (by rw [if_neg (Int32.not_lt.mpr q)] at hab; exact hab) H locs cells slots ls hN) (fun q => k2 (by rw [if_pos (Int32.not_le.mp q)] at hab; exact hab) H locs cells slots ls hN)
/-- a switch's rows and the program's -/
def m_ckT (pc : Nat) : Int → List Int → List (List Nat) → Bool
  | _, [], [] => true
  | lo, o :: offs, [k, t] :: l => decide ((Int32.ofNat k).toInt = lo) && m_tg pc o t && m_ckT pc (lo + 1) offs l
  | _, _, _ => false
def m_ckL (pc : Nat) : List (Int × Int) → List (List Nat) → Bool
  | [], [] => true
  | (a, o) :: ps, [k, t] :: l => decide ((Int32.ofNat k).toInt = a) && m_tg pc o t && m_ckL pc ps l
  | _, _ => false
theorem m_case_T (x : Int32) (dflt : Nat) : ∀ (offs : List Int) (l : List (List Nat)) (lo : Int), m_ckT pc lo offs l = true → (m_case x l dflt = dflt ∧ (x.toInt < lo ∨ lo + offs.length ≤ x.toInt)) ∨ ∃ (j : Nat) (o : Int), offs[j]? = some o ∧ x.toInt = lo + j ∧ (pc : Int) + o = (m_case x l dflt : Int)
  | [], [], lo, _ => Or.inl ⟨rfl, by simp; omega⟩
  | o :: offs, [k, t] :: l, lo, h => by
    simp only [m_ckT, m_tg, Bool.and_eq_true, decide_eq_true_eq] at h
    obtain ⟨⟨h1, h2⟩, h3⟩ := h
    by_cases hx : x = Int32.ofNat k
    · refine Or.inr ⟨0, o, rfl, by rw [hx, h1]; simp, ?_⟩
      rw [show m_case x ([k, t] :: l) dflt = t by rw [m_case, if_pos hx]]
      exact h2
    · have e : m_case x ([k, t] :: l) dflt = m_case x l dflt := by rw [m_case, if_neg hx]
      have hne : x.toInt ≠ lo := fun q => hx (Int32.toInt_inj.mp (q.trans h1.symm))
      rw [e]
      rcases m_case_T x dflt offs l (lo + 1) h3 with ⟨g1, g2⟩ | ⟨j, o2, g1, g2, g3⟩
      · exact Or.inl ⟨g1, by simp only [List.length_cons]; omega⟩
      · exact Or.inr ⟨j + 1, o2, by simpa using g1, by rw [g2]; omega, g3⟩
  | [], _ :: _, lo, h => by simp [m_ckT] at h
  | o :: offs, [], lo, h => by simp [m_ckT] at h
  | o :: offs, [] :: l, lo, h => by simp [m_ckT] at h
  | o :: offs, [k] :: l, lo, h => by simp [m_ckT] at h
  | o :: offs, (k :: t :: u :: v) :: l, lo, h => by simp [m_ckT] at h
theorem m_case_L (x : Int32) (dflt : Nat) (d0 : Int) (hd0 : (pc : Int) + d0 = (dflt : Int)) : ∀ (ps : List (Int × Int)) (l : List (List Nat)), m_ckL pc ps l = true → (pc : Int) + Op.lookupswitch.offset ps d0 x.toInt = (m_case x l dflt : Int)
  | [], [], _ => by
    rw [show m_case x [] dflt = dflt from rfl, ← hd0]
    first | rfl | simp [Op.lookupswitch.offset]
  | (a, o) :: ps, [k, t] :: l, h => by
    simp only [m_ckL, m_tg, Bool.and_eq_true, decide_eq_true_eq] at h
    obtain ⟨⟨h1, h2⟩, h3⟩ := h
    rw [Op.lookupswitch.offset_cons]
    by_cases hx : x = Int32.ofNat k
    · rw [if_pos (by rw [hx, h1]), m_case, if_pos hx]
      exact h2
    · rw [if_neg (fun q => hx (Int32.toInt_inj.mp (by rw [h1]; exact q.symm))), m_case, if_neg hx]
      exact m_case_L x dflt d0 hd0 ps l h3
  | [], _ :: _, h => by simp [m_ckL] at h
  | o :: offs, [], h => by simp [m_ckL] at h
  | o :: offs, [] :: l, h => by simp [m_ckL] at h
  | o :: offs, [k] :: l, h => by simp [m_ckL] at h
  | o :: offs, (k :: t :: u :: v) :: l, h => by simp [m_ckL] at h
theorem m_ok_table {df lw hg : Int} {offs : Array Int} {x : Int32} {t : Nat} {os1 : List Value} (hF : m_Fx p s m args meth c cc own nm nL D dA ad A B) (hdg : decode cc pc = .ok (.tableswitch df lw hg offs, n)) (hd : (pc : Int) + df = (t : Int)) {l0 : List (List Nat)} (hk : m_ckT pc lw offs.toList l0 = true) (hh : hg = lw + (offs.toList.length : Int) - 1) (kk : m_W p l e R s m args below meth c Q nL D dA ad A B N0 S0 (m_case x l0 t) lo os1 h) : m_W p l e R s m args below meth c Q nL D dA ad A B N0 S0 pc lo (.int x :: os1) h := by
  intro H locs cells slots ls hN
  obtain ⟨hx, hb, hml, hown, hts, hK, hA, hnm, hB⟩ := hF
  rcases m_case_T x t offs.toList l0 lw hk with ⟨g1, g2⟩ | ⟨j, o, g1, g2, g3⟩
  · refine lv_tableOut hx hb hdg (by omega) (by rw [hd]) ?_
    rw [g1] at kk
    exact kk H locs cells slots ls hN
  · have hj := (List.getElem?_eq_some_iff.mp g1).1
    refine lv_tableIn hx hb hdg (by omega) (by omega) (off := o) ?_ g3 (kk H locs cells slots ls hN)
    rw [g2, show (lw + (j : Int) - lw).toNat = j by omega, ← Array.getElem?_toList]
    exact g1
theorem m_ok_lookup {df : Int} {ps : Array (Int × Int)} {x : Int32} {t : Nat} {os1 : List Value} (hF : m_Fx p s m args meth c cc own nm nL D dA ad A B) (hdg : decode cc pc = .ok (.lookupswitch df ps, n)) (hd : (pc : Int) + df = (t : Int)) {l0 : List (List Nat)} (hk : m_ckL pc ps.toList l0 = true) (hso : (ps.toList.zip (ps.toList.drop 1)).all (fun (a, next) => a.1 < next.1) = true) (kk : m_W p l e R s m args below meth c Q nL D dA ad A B N0 S0 (m_case x l0 t) lo os1 h) : m_W p l e R s m args below meth c Q nL D dA ad A B N0 S0 pc lo (.int x :: os1) h := by
  intro H locs cells slots ls hN
  obtain ⟨hx, hb, hml, hown, hts, hK, hA, hnm, hB⟩ := hF
  exact lv_lookup hx hb hdg hso rfl (m_case_L x t df hd ps.toList l0 hk) (kk H locs cells slots ls hN)
end MC2
