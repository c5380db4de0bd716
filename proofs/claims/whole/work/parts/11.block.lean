/-! BLOCKS, METHODS -/
/-- what a program decides of an instruction -/
def m_ckO (own nm : String) (nL : Nat) (rt : Option FieldType) (pc : Nat) (i : Instr) (n : Nat) (v : Int32 × Int64) (ds : List (List Nat)) : Bool :=
  match i with
  | .goto o => decide (n = 3) && m_tg pc o (m_d (m_hd ds) 0)
  | .ifCond _ o => decide (n = 3) && m_tg pc o (m_d (m_hd ds) 0)
  | .if_icmp _ o => decide (n = 3) && m_tg pc o (m_d (m_hd ds) 0)
  | .tableswitch df lw hg offs => m_tg pc df (m_d (m_hd ds) 0) && m_ckT pc lw offs.toList (ds.drop 1) && decide (hg = lw + (offs.toList.length : Int) - 1)
  | .lookupswitch df ps => m_tg pc df (m_d (m_hd ds) 0) && m_ckL pc ps.toList (ds.drop 1) && (ps.toList.zip (ps.toList.drop 1)).all (fun (a, next) => a.1 < next.1)
  | .ireturn => decide (n = 1) && (decide (rt = some .int) || decide (rt = some .boolean) && Nat.beq (m_d (m_hd ds) 0) 1)
  | .lreturn => decide (n = 1) && decide (rt = some .long)
  | .return_ => decide (n = 1) && decide (rt = none)
  | .invokestatic z => decide (n = 3) && m_ckS own z ds
  | .invokespecial z => decide (n = 3) && m_ckI own z ds
  | .invokevirtual z => decide (n = 3) && m_ckV own z ds
  | i => m_ck own nm nL i n v ds
def m_ckB (own nm : String) (nL : Nat) (rt : Option FieldType) (cc : ByteArray) : List mO → Nat → Bool
  | [], _ => true
  | (i, n, v, ds) :: r, pc => decide (decode cc pc = .ok (i, n)) && m_ckO own nm nL rt pc i n v ds && m_ckB own nm nL rt cc r (pc + n)
def m_oh : mG → mH
  | .inl r => r.2
  | .inr q => q.2.2.2
def m_calM (cal : mK) : Prop := ∀ k as h w h', cal k as h = some (w, h') → m_le h h'
theorem m_B_dflt (sc : mS) (cal : mK) (i : Instr) (n : Nat) (v : Int32 × Int64) (ds : List (List Nat)) (r : List mO) (pc : Nat) (lo : mL) (os : List Value) (h : mH) (out : mG)
    (hi : (∀ o, i ≠ .goto o) ∧ (∀ c o, i ≠ .ifCond c o) ∧ (∀ c o, i ≠ .if_icmp c o) ∧ (∀ a b c d, i ≠ .tableswitch a b c d) ∧ (∀ a b, i ≠ .lookupswitch a b) ∧ i ≠ .ireturn ∧ i ≠ .lreturn ∧ i ≠ .return_ ∧ (∀ z, i ≠ .invokestatic z) ∧ (∀ z, i ≠ .invokespecial z) ∧ ∀ z, i ≠ .invokevirtual z)
    (hr : m_B sc cal ((i, n, v, ds) :: r) pc lo os h = some out) : (∃ lo' os' h', m_1 sc i v ds lo os h = some (lo', os', h') ∧ m_B sc cal r (pc + n) lo' os' h' = some out) ∧ ∀ own nm nL rt, m_ckO own nm nL rt pc i n v ds = m_ck own nm nL i n v ds := by
  obtain ⟨h1, h2, h3, h4, h5, h6, h7, h8, h9, h10, h11⟩ := hi
  cases i
  case goto o => exact absurd rfl (h1 o)
  case ifCond c o => exact absurd rfl (h2 c o)
  case if_icmp c o => exact absurd rfl (h3 c o)
  case tableswitch a b c d => exact absurd rfl (h4 a b c d)
  case lookupswitch a b => exact absurd rfl (h5 a b)
  case ireturn => exact absurd rfl h6
  case lreturn => exact absurd rfl h7
  case return_ => exact absurd rfl h8
  case invokestatic z => exact absurd rfl (h9 z)
  case invokespecial z => exact absurd rfl (h10 z)
  case invokevirtual z => exact absurd rfl (h11 z)
  all_goals
    refine ⟨?_, fun _ _ _ _ => rfl⟩
    simp only [m_B] at hr
    split at hr
    · rename_i lo1 os1 h1 hm
      exact ⟨lo1, os1, h1, hm, hr⟩
    · cases hr
theorem m_br_or {α : Type} {i : Jvm.ClassFile.Cond} {x y : Int32} {a b : α} {P : α → Prop} (h1 : P a) (h2 : P b) : P (m_br i x y a b) := by
  cases i <;> simp only [m_br] <;> split <;> assumption
/-- heaps grow along a block -/
theorem m_B_le {sc : mS} {cal : mK} (hcal : m_calM cal) : ∀ (ops : List mO) (pc : Nat) (lo : mL) (os : List Value) (h : mH) (out : mG), m_B sc cal ops pc lo os h = some out → m_le h (m_oh out)
  | [], pc, lo, os, h, out, hr => by simp only [m_B] at hr; cases hr; exact m_le.rf
  | (i, n, v, ds) :: r, pc, lo, os, h, out, hr => by
    have ih := m_B_le (sc := sc) hcal r
    by_cases hi : (∀ o, i ≠ .goto o) ∧ (∀ c o, i ≠ .ifCond c o) ∧ (∀ c o, i ≠ .if_icmp c o) ∧ (∀ a b c d, i ≠ .tableswitch a b c d) ∧ (∀ a b, i ≠ .lookupswitch a b) ∧ i ≠ .ireturn ∧ i ≠ .lreturn ∧ i ≠ .return_ ∧ (∀ z, i ≠ .invokestatic z) ∧ (∀ z, i ≠ .invokespecial z) ∧ ∀ z, i ≠ .invokevirtual z
    · obtain ⟨⟨lo1, os1, h1, hm, hr1⟩, -⟩ := m_B_dflt sc cal i n v ds r pc lo os h out hi hr
      exact (m_le_1 hm).tr (ih _ _ _ _ _ hr1)
    · cases i
      case goto o => simp only [m_B] at hr; cases hr; exact m_le.rf
      case ifCond c o =>
        simp only [m_B] at hr
        split at hr
        · refine (m_br_or (P := fun z => z = some out → m_le h (m_oh out)) ?_ ?_) hr
          · intro q; cases q; exact m_le.rf
          · intro q; exact ih _ _ _ _ _ q
        · cases hr
      case if_icmp c o =>
        simp only [m_B] at hr
        split at hr
        · refine (m_br_or (P := fun z => z = some out → m_le h (m_oh out)) ?_ ?_) hr
          · intro q; cases q; exact m_le.rf
          · intro q; exact ih _ _ _ _ _ q
        · cases hr
      case tableswitch a b c d =>
        simp only [m_B] at hr
        split at hr
        · cases hr; exact m_le.rf
        · cases hr
      case lookupswitch a b =>
        simp only [m_B] at hr
        split at hr
        · cases hr; exact m_le.rf
        · cases hr
      case ireturn =>
        simp only [m_B] at hr
        split at hr
        · cases hb : Nat.beq (m_d (m_hd ds) 0) 1 with
          | true =>
            rw [hb, cond_true] at hr
            split at hr
            · cases hr; exact m_le.rf
            · cases hr
          | false => rw [hb, cond_false] at hr; cases hr; exact m_le.rf
        · cases hr
      case lreturn =>
        simp only [m_B] at hr
        split at hr
        · cases hr; exact m_le.rf
        · cases hr
      case return_ =>
        simp only [m_B] at hr
        split at hr
        · cases hr; exact m_le.rf
        · cases hr
      case invokestatic z =>
        simp only [m_B] at hr
        cases hb : Nat.ble 995 (m_d (m_hd ds) 1) with
        | true =>
          rw [hb, cond_true] at hr
          split at hr
          · rename_i os2 h2 hg
            exact (m_spc_le hg).tr (ih _ _ _ _ _ hr)
          · cases hr
        | false =>
          rw [hb, cond_false] at hr
          split at hr
          · rename_i w h2 hq
            cases hc : (Nat.ble (m_d (m_hd ds) 0) os.length && Nat.ble (m_cat (os.drop (m_d (m_hd ds) 0))) 8) with
            | false => rw [hc, cond_false] at hr; cases hr
            | true => rw [hc, cond_true] at hr; exact (hcal _ _ _ _ _ hq).tr (ih _ _ _ _ _ hr)
          · cases hr
      case invokespecial z =>
        simp only [m_B] at hr
        split at hr
        · rename_i a os' hd
          cases hc : Nat.ble (m_cat os') 8 with
          | false => rw [hc, cond_false] at hr; cases hr
          | true =>
            rw [hc, cond_true] at hr
            cases hb : Nat.beq (m_d (m_hd ds) 1) 999 with
            | true => rw [hb, cond_true] at hr; exact ih _ _ _ _ _ hr
            | false =>
              rw [hb, cond_false] at hr
              cases ho : m_isO h a with
              | false => rw [ho, cond_false] at hr; cases hr
              | true =>
                rw [ho, cond_true] at hr
                split at hr
                · rename_i w h2 hq
                  exact (hcal _ _ _ _ _ hq).tr (ih _ _ _ _ _ hr)
                · cases hr
        · cases hr
      case invokevirtual z =>
        simp only [m_B] at hr
        split at hr
        · rename_i a os' hd
          cases hc : Nat.ble (m_cat os') 8 with
          | false => rw [hc, cond_false] at hr; cases hr
          | true =>
            rw [hc, cond_true] at hr
            split at hr
            · split at hr
              · rename_i w h2 hq
                exact (hcal _ _ _ _ _ hq).tr (ih _ _ _ _ _ hr)
              · cases hr
            · cases hr
        · cases hr
      all_goals exact absurd ⟨by simp, by simp, by simp, by simp, by simp, by simp, by simp, by simp, by simp, by simp, by simp⟩ hi
/-- how a method ends -/
def m_rok (rt : Option FieldType) (i : Instr) (r : Option Value) : Prop := (i = .ireturn ∧ rt = some .int ∧ ∃ x, r = some (.int x)) ∨ (i = .ireturn ∧ rt = some .boolean ∧ ∃ x, r = some (.int x) ∧ (x = 0 ∨ x = 1)) ∨ (i = .lreturn ∧ rt = some .long ∧ ∃ x, r = some (.long x)) ∨ (i = .return_ ∧ rt = none ∧ r = none)
section MB
variable {p : Program} {l : Launch} {e : Env} {R : Room} {s : State} {m : MethodId} {args : Array Value} {below : List Frame} {meth : Method} {c : Code} {Q : State → Prop} {cc : ByteArray} {own nm : String} {nL : Nat} {D : va_G} {dA : Nat → ClassId} {ad : Nat → Nat} {A : Nat → Prop} {B N0 S0 : Nat} {sc : mS} {d : Nat} {rt : Option FieldType} {cal : mK}
theorem m_Rm_le {h h' : mH} (hle : m_le h h') (hR : m_Rm R N0 S0 h') : m_Rm R N0 S0 h := ⟨Nat.le_trans hle.1 hR.1, Nat.le_trans hle.2 hR.2.1, Nat.le_trans hle.1 hR.2.2⟩
theorem m_B_ok (hF : m_Fx p s m args meth c cc own nm nL D dA ad A B) (hSc : m_Sc s ad A sc) (hE : m_Ex s) (hT : m_TX ad A s s.heap) (hDp : m_Dp R d) (hcal : m_Cal l D dA ad B cal d) : ∀ (ops : List mO) (pc : Nat) (lo : mL) (os : List Value) (h : mH) (out : mG), m_ckB own nm nL rt cc ops pc = true → m_B sc cal ops pc lo os h = some out → m_Rm R N0 S0 (m_oh out) →
    (∀ r h', out = .inl (r, h') → ∀ (i : Instr) (pc' : Nat) (lo' : mL), decode cc pc' = .ok (i, 1) → m_rok rt i r → m_W p l e R s m args below meth c Q nL D dA ad A B N0 S0 pc' lo' r.toList h') →
    (∀ pc' lo' os' h', out = .inr (pc', lo', os', h') → m_W p l e R s m args below meth c Q nL D dA ad A B N0 S0 pc' lo' os' h') →
    m_W p l e R s m args below meth c Q nL D dA ad A B N0 S0 pc lo os h
  | [], pc, lo, os, h, out, hck, hr, hRm, k1, k2 => by
    simp only [m_B] at hr
    cases hr
    exact k2 _ _ _ _ rfl
  | (i, n, v, ds) :: r, pc, lo, os, h, out, hck, hr, hRm, k1, k2 => by
    have ih := fun pc lo os h => m_B_ok hF hSc hE hT hDp hcal r pc lo os h out
    have hM : m_calM cal := fun k as h w h' hq => (hcal k as h w h' hq).1
    simp only [m_ckB, Bool.and_eq_true, decide_eq_true_eq] at hck
    obtain ⟨⟨hdg, hck⟩, hckr⟩ := hck
    by_cases hi : (∀ o, i ≠ .goto o) ∧ (∀ c o, i ≠ .ifCond c o) ∧ (∀ c o, i ≠ .if_icmp c o) ∧ (∀ a b c d, i ≠ .tableswitch a b c d) ∧ (∀ a b, i ≠ .lookupswitch a b) ∧ i ≠ .ireturn ∧ i ≠ .lreturn ∧ i ≠ .return_ ∧ (∀ z, i ≠ .invokestatic z) ∧ (∀ z, i ≠ .invokespecial z) ∧ ∀ z, i ≠ .invokevirtual z
    · obtain ⟨⟨lo1, os1, h1, hm, hr1⟩, hk1⟩ := m_B_dflt sc cal i n v ds r pc lo os h out hi hr
      rw [hk1] at hck
      exact m_ok_1 hF hSc hE hT.1 (m_Rm_le (m_B_le hM r _ _ _ _ _ hr1) hRm) hdg hck hm (ih _ _ _ _ hckr hr1 hRm k1 k2)
    · cases i
      case goto o =>
        simp only [m_ckO, m_tg, Bool.and_eq_true, decide_eq_true_eq] at hck
        obtain ⟨rfl, ht⟩ := hck
        simp only [m_B] at hr
        cases hr
        intro H locs cells slots ls hN
        exact lv_goto hF.1 hF.2.1 hdg ht (k2 _ _ _ _ rfl H locs cells slots ls hN)
      case ifCond c o =>
        simp only [m_ckO, m_tg, Bool.and_eq_true, decide_eq_true_eq] at hck
        obtain ⟨rfl, ht⟩ := hck
        simp only [m_B] at hr
        split at hr
        · exact m_ok_if hF hdg ht hr (fun q => by cases q; exact k2 _ _ _ _ rfl) (fun q => ih _ _ _ _ hckr q hRm k1 k2)
        · cases hr
      case if_icmp c o =>
        simp only [m_ckO, m_tg, Bool.and_eq_true, decide_eq_true_eq] at hck
        obtain ⟨rfl, ht⟩ := hck
        simp only [m_B] at hr
        split at hr
        · exact m_ok_icmp hF hdg ht hr (fun q => by cases q; exact k2 _ _ _ _ rfl) (fun q => ih _ _ _ _ hckr q hRm k1 k2)
        · cases hr
      case tableswitch df lw hg offs =>
        simp only [m_ckO, m_tg, Bool.and_eq_true, decide_eq_true_eq] at hck
        obtain ⟨⟨ht, h2⟩, h3⟩ := hck
        simp only [m_B] at hr
        split at hr
        · cases hr; exact m_ok_table hF hdg ht h2 h3 (k2 _ _ _ _ rfl)
        · cases hr
      case lookupswitch df ps =>
        simp only [m_ckO, m_tg, Bool.and_eq_true, decide_eq_true_eq] at hck
        obtain ⟨⟨ht, h2⟩, h3⟩ := hck
        simp only [m_B] at hr
        split at hr
        · cases hr; exact m_ok_lookup hF hdg ht h2 h3 (k2 _ _ _ _ rfl)
        · cases hr
      case ireturn =>
        simp only [m_ckO, Bool.and_eq_true, decide_eq_true_eq, Bool.or_eq_true] at hck
        obtain ⟨rfl, hrt⟩ := hck
        simp only [m_B] at hr
        split at hr
        · rename_i x
          rcases hrt with hrt | ⟨hrt, hb⟩
          · cases hb : Nat.beq (m_d (m_hd ds) 0) 1 with
            | true =>
              rw [hb, cond_true] at hr
              split at hr
              · cases hr; exact k1 _ _ rfl _ pc lo hdg (Or.inl ⟨rfl, hrt, x, rfl⟩)
              · cases hr
            | false => rw [hb, cond_false] at hr; cases hr; exact k1 _ _ rfl _ pc lo hdg (Or.inl ⟨rfl, hrt, x, rfl⟩)
          · rw [hb, cond_true] at hr
            split at hr
            · rename_i hx; cases hr; exact k1 _ _ rfl _ pc lo hdg (Or.inr (Or.inl ⟨rfl, hrt, x, rfl, hx⟩))
            · cases hr
        · cases hr
      case lreturn =>
        simp only [m_ckO, Bool.and_eq_true, decide_eq_true_eq] at hck
        obtain ⟨rfl, hrt⟩ := hck
        simp only [m_B] at hr
        split at hr
        · rename_i x; cases hr; exact k1 _ _ rfl _ pc lo hdg (Or.inr (Or.inr (Or.inl ⟨rfl, hrt, x, rfl⟩)))
        · cases hr
      case return_ =>
        simp only [m_ckO, Bool.and_eq_true, decide_eq_true_eq] at hck
        obtain ⟨rfl, hrt⟩ := hck
        simp only [m_B] at hr
        split at hr
        · cases hr; exact k1 _ _ rfl _ pc lo hdg (Or.inr (Or.inr (Or.inr ⟨rfl, hrt, rfl⟩)))
        · cases hr
      case invokestatic z =>
        simp only [m_ckO, Bool.and_eq_true, decide_eq_true_eq] at hck
        obtain ⟨rfl, hck⟩ := hck
        simp only [m_B] at hr
        cases hb : Nat.ble 995 (m_d (m_hd ds) 1) with
        | true =>
          rw [hb, cond_true] at hr
          split at hr
          · rename_i os2 h2 hg
            have hle2 := m_B_le hM r _ _ _ _ _ hr
            exact m_ok_spc hF hDp (m_Rm_le ((m_spc_le hg).tr hle2) hRm) hdg hck hg (ih _ _ _ _ hckr hr hRm k1 k2)
          · cases hr
        | false =>
          rw [hb, cond_false] at hr
          split at hr
          · rename_i w h2 hq
            cases hc : (Nat.ble (m_d (m_hd ds) 0) os.length && Nat.ble (m_cat (os.drop (m_d (m_hd ds) 0))) 8) with
            | false => rw [hc, cond_false] at hr; cases hr
            | true =>
              rw [hc, cond_true] at hr
              simp only [Bool.and_eq_true] at hc
              exact m_ok_static hF hE hT hDp hcal hdg hck hb hq (Nat.le_of_ble_eq_true hc.1) (Nat.le_of_ble_eq_true hc.2) (m_Rm_le (m_B_le hM r _ _ _ _ _ hr) hRm) (ih _ _ _ _ hckr hr hRm k1 k2)
          · cases hr
      case invokespecial z =>
        simp only [m_ckO, Bool.and_eq_true, decide_eq_true_eq] at hck
        obtain ⟨rfl, hck⟩ := hck
        simp only [m_B] at hr
        split at hr
        · rename_i a os' hd
          cases hc : Nat.ble (m_cat os') 8 with
          | false => rw [hc, cond_false] at hr; cases hr
          | true =>
            rw [hc, cond_true] at hr
            cases hb : Nat.beq (m_d (m_hd ds) 1) 999 with
            | true =>
              rw [hb, cond_true] at hr
              exact m_ok_objInit hF hDp hdg hck hb hd (Nat.le_of_ble_eq_true hc) (ih _ _ _ _ hckr hr hRm k1 k2)
            | false =>
              rw [hb, cond_false] at hr
              cases ho : m_isO h a with
              | false => rw [ho, cond_false] at hr; cases hr
              | true =>
                rw [ho, cond_true] at hr
                split at hr
                · rename_i w h2 hq
                  refine m_ok_special hF hE hT hDp hcal hdg hck hb hd (Nat.le_of_ble_eq_true hc) hq ?_ (m_Rm_le (m_B_le hM r _ _ _ _ _ hr) hRm) (ih _ _ _ _ hckr hr hRm k1 k2)
                  unfold m_isO at ho
                  split at ho
                  · rename_i ci nn rs hi2
                    exact ⟨ci, nn, rs, hi2, Nat.blt_eq.mp ho⟩
                  · cases ho
                · cases hr
        · cases hr
      case invokevirtual z =>
        simp only [m_ckO, Bool.and_eq_true, decide_eq_true_eq] at hck
        obtain ⟨rfl, hck⟩ := hck
        simp only [m_B] at hr
        split at hr
        · rename_i a os' hd
          cases hc : Nat.ble (m_cat os') 8 with
          | false => rw [hc, cond_false] at hr; cases hr
          | true =>
            rw [hc, cond_true] at hr
            split at hr
            · rename_i k hp
              split at hr
              · rename_i w h2 hq
                exact m_ok_virtual hF hE hT hDp hcal hdg hck hd (Nat.le_of_ble_eq_true hc) hp hq (m_Rm_le (m_B_le hM r _ _ _ _ _ hr) hRm) (ih _ _ _ _ hckr hr hRm k1 k2)
              · cases hr
            · cases hr
        · cases hr
      all_goals exact absurd ⟨by simp, by simp, by simp, by simp, by simp, by simp, by simp, by simp, by simp, by simp, by simp⟩ hi
end MB
