/-! WHAT A RUN SAYS WITH TIME ENOUGH: m_ev, and its equation -/
theorem m_br_b (i : Jvm.ClassFile.Cond) (x y : Int32) : ∃ t : Bool, ∀ (a b : Option mG), m_br i x y a b = bif t then a else b := by
  cases i
  · by_cases q : x = y
    · exact ⟨true, fun a b => by simp only [m_br, if_pos q]; rfl⟩
    · exact ⟨false, fun a b => by simp only [m_br, if_neg q]; rfl⟩
  · by_cases q : x = y
    · exact ⟨false, fun a b => by simp only [m_br, if_pos q]; rfl⟩
    · exact ⟨true, fun a b => by simp only [m_br, if_neg q]; rfl⟩
  · by_cases q : x < y
    · exact ⟨true, fun a b => by simp only [m_br, if_pos q]; rfl⟩
    · exact ⟨false, fun a b => by simp only [m_br, if_neg q]; rfl⟩
  · by_cases q : x < y
    · exact ⟨false, fun a b => by simp only [m_br, if_pos q]; rfl⟩
    · exact ⟨true, fun a b => by simp only [m_br, if_neg q]; rfl⟩
  · by_cases q : y < x
    · exact ⟨true, fun a b => by simp only [m_br, if_pos q]; rfl⟩
    · exact ⟨false, fun a b => by simp only [m_br, if_neg q]; rfl⟩
  · by_cases q : y < x
    · exact ⟨false, fun a b => by simp only [m_br, if_pos q]; rfl⟩
    · exact ⟨true, fun a b => by simp only [m_br, if_neg q]; rfl⟩
theorem m_B_simple (sc : mS) (cal : mK) (i : Instr) (n : Nat) (v : Int32 × Int64) (ds : List (List Nat)) (r : List mO) (pc : Nat) (lo : mL) (os : List Value) (h : mH)
    (hi : (∀ o, i ≠ .goto o) ∧ (∀ c o, i ≠ .ifCond c o) ∧ (∀ c o, i ≠ .if_icmp c o) ∧ (∀ a b c d, i ≠ .tableswitch a b c d) ∧ (∀ a b, i ≠ .lookupswitch a b) ∧ i ≠ .ireturn ∧ i ≠ .lreturn ∧ i ≠ .return_ ∧ (∀ z, i ≠ .invokestatic z) ∧ (∀ z, i ≠ .invokespecial z) ∧ ∀ z, i ≠ .invokevirtual z) :
    m_B sc cal ((i, n, v, ds) :: r) pc lo os h = match m_1 sc i v ds lo os h with
      | some (lo, os, h) => m_B sc cal r (pc + n) lo os h
      | none => none := by
  obtain ⟨h1, h2, h3, h4, h5, h6, h7, h8, h9, h10, h11⟩ := hi
  cases i
  case goto o => exact absurd rfl (h1 o)
  case ifCond c o => exact absurd rfl (h2 c o)
  case if_icmp c o => exact absurd rfl (h3 c o)
  case tableswitch a b c d => exact absurd rfl (h4 a b c d)
  case lookupswitch a b => exact absurd rfl (h5 a b)
  case ireturn => exact absurd rfl h6
  case lreturn => exact absurd rfl h7
  case return_ => exact absurd rfl h8
  case invokestatic z => exact absurd rfl (h9 z)
  case invokespecial z => exact absurd rfl (h10 z)
  case invokevirtual z => exact absurd rfl (h11 z)
  all_goals rfl
/-- calls that say more say more of a block -/
theorem m_B_mono {sc : mS} {ca cb : mK} (hab : ∀ k as h r, ca k as h = some r → cb k as h = some r) : ∀ (ops : List mO) (pc : Nat) (lo : mL) (os : List Value) (h : mH) (out : mG), m_B sc ca ops pc lo os h = some out → m_B sc cb ops pc lo os h = some out
  | [], pc, lo, os, h, out, hr => hr
  | (i, n, v, ds) :: r, pc, lo, os, h, out, hr => by
    have ih := m_B_mono (sc := sc) hab r
    by_cases hi : (∀ o, i ≠ .goto o) ∧ (∀ c o, i ≠ .ifCond c o) ∧ (∀ c o, i ≠ .if_icmp c o) ∧ (∀ a b c d, i ≠ .tableswitch a b c d) ∧ (∀ a b, i ≠ .lookupswitch a b) ∧ i ≠ .ireturn ∧ i ≠ .lreturn ∧ i ≠ .return_ ∧ (∀ z, i ≠ .invokestatic z) ∧ (∀ z, i ≠ .invokespecial z) ∧ ∀ z, i ≠ .invokevirtual z
    · rw [m_B_simple _ _ _ _ _ _ _ _ _ _ _ hi] at hr ⊢
      split at hr
      · exact ih _ _ _ _ _ hr
      · cases hr
    · cases i
      case goto o => exact hr
      case ifCond c o =>
        simp only [m_B] at hr ⊢
        split at hr
        · rename_i x os1
          obtain ⟨t, ht⟩ := m_br_b c x 0
          rw [ht] at hr ⊢
          cases t
          · rw [cond_false] at hr ⊢; exact ih _ _ _ _ _ hr
          · exact hr
        · cases hr
      case if_icmp c o =>
        simp only [m_B] at hr ⊢
        split at hr
        · rename_i y x os1
          obtain ⟨t, ht⟩ := m_br_b c x y
          rw [ht] at hr ⊢
          cases t
          · rw [cond_false] at hr ⊢; exact ih _ _ _ _ _ hr
          · exact hr
        · cases hr
      case tableswitch a b c d => exact hr
      case lookupswitch a b => exact hr
      case ireturn => exact hr
      case lreturn => exact hr
      case return_ => exact hr
      case invokestatic z =>
        simp only [m_B] at hr ⊢
        cases hb : Nat.ble 995 (m_d (m_hd ds) 1) with
        | true =>
          rw [hb, cond_true] at hr
          rw [cond_true]
          split at hr
          · exact ih _ _ _ _ _ hr
          · cases hr
        | false =>
          rw [hb, cond_false] at hr
          rw [cond_false]
          split at hr
          · rename_i w h2 hq
            rw [hab _ _ _ _ hq]
            cases hc : (Nat.ble (m_d (m_hd ds) 0) os.length && Nat.ble (m_cat (os.drop (m_d (m_hd ds) 0))) 8) with
            | false => rw [hc, cond_false] at hr; cases hr
            | true =>
              rw [hc, cond_true] at hr
              exact ih _ _ _ _ _ hr
          · cases hr
      case invokespecial z =>
        simp only [m_B] at hr ⊢
        split at hr
        · rename_i a os' hd
          cases hc : Nat.ble (m_cat os') 8 with
          | false => rw [hc, cond_false] at hr; cases hr
          | true =>
            rw [hc, cond_true] at hr
            rw [cond_true]
            cases hb : Nat.beq (m_d (m_hd ds) 1) 999 with
            | true => rw [hb, cond_true] at hr; rw [cond_true]; exact ih _ _ _ _ _ hr
            | false =>
              rw [hb, cond_false] at hr
              rw [cond_false]
              cases ho : m_isO h a with
              | false => rw [ho, cond_false] at hr; cases hr
              | true =>
                rw [ho, cond_true] at hr
                rw [cond_true]
                split at hr
                · rename_i w h2 hq
                  rw [hab _ _ _ _ hq]
                  exact ih _ _ _ _ _ hr
                · cases hr
        · cases hr
      case invokevirtual z =>
        simp only [m_B] at hr ⊢
        split at hr
        · rename_i a os' hd
          cases hc : Nat.ble (m_cat os') 8 with
          | false => rw [hc, cond_false] at hr; cases hr
          | true =>
            rw [hc, cond_true] at hr
            rw [cond_true]
            split at hr
            · split at hr
              · rename_i w h2 hq
                rw [hab _ _ _ _ hq]
                exact ih _ _ _ _ _ hr
              · cases hr
            · cases hr
        · cases hr
      all_goals exact absurd ⟨by simp, by simp, by simp, by simp, by simp, by simp, by simp, by simp, by simp, by simp, by simp⟩ hi
/-- a block under calls in the limit has been run with time enough -/
theorem m_B_cont {sc : mS} {ci : mK} {c : Nat → mK} (hm : ∀ f g, f ≤ g → ∀ k as h r, c f k as h = some r → c g k as h = some r) (hc : ∀ k as h r, ci k as h = some r → ∃ f, c f k as h = some r) : ∀ (ops : List mO) (pc : Nat) (lo : mL) (os : List Value) (h : mH) (out : mG), m_B sc ci ops pc lo os h = some out → ∃ f, m_B sc (c f) ops pc lo os h = some out
  | [], pc, lo, os, h, out, hr => ⟨0, hr⟩
  | (i, n, v, ds) :: r, pc, lo, os, h, out, hr => by
    have ih := m_B_cont (sc := sc) hm hc r
    by_cases hi : (∀ o, i ≠ .goto o) ∧ (∀ c o, i ≠ .ifCond c o) ∧ (∀ c o, i ≠ .if_icmp c o) ∧ (∀ a b c d, i ≠ .tableswitch a b c d) ∧ (∀ a b, i ≠ .lookupswitch a b) ∧ i ≠ .ireturn ∧ i ≠ .lreturn ∧ i ≠ .return_ ∧ (∀ z, i ≠ .invokestatic z) ∧ (∀ z, i ≠ .invokespecial z) ∧ ∀ z, i ≠ .invokevirtual z
    · rw [m_B_simple _ _ _ _ _ _ _ _ _ _ _ hi] at hr
      split at hr
      · rename_i lo1 os1 h1 hm1
        obtain ⟨f, hf⟩ := ih _ _ _ _ _ hr
        refine ⟨f, ?_⟩
        rw [m_B_simple _ _ _ _ _ _ _ _ _ _ _ hi, hm1]
        exact hf
      · cases hr
    · cases i
      case goto o => exact ⟨0, hr⟩
      case ifCond cc o =>
        simp only [m_B] at hr ⊢
        split at hr
        · rename_i x os1
          obtain ⟨t, ht⟩ := m_br_b cc x 0
          rw [ht] at hr
          cases t
          · rw [cond_false] at hr
            obtain ⟨f, hf⟩ := ih _ _ _ _ _ hr
            exact ⟨f, by rw [ht, cond_false]; exact hf⟩
          · exact ⟨0, by rw [ht]; exact hr⟩
        · cases hr
      case if_icmp cc o =>
        simp only [m_B] at hr ⊢
        split at hr
        · rename_i y x os1
          obtain ⟨t, ht⟩ := m_br_b cc x y
          rw [ht] at hr
          cases t
          · rw [cond_false] at hr
            obtain ⟨f, hf⟩ := ih _ _ _ _ _ hr
            exact ⟨f, by rw [ht, cond_false]; exact hf⟩
          · exact ⟨0, by rw [ht]; exact hr⟩
        · cases hr
      case tableswitch a b c d => exact ⟨0, hr⟩
      case lookupswitch a b => exact ⟨0, hr⟩
      case ireturn => exact ⟨0, hr⟩
      case lreturn => exact ⟨0, hr⟩
      case return_ => exact ⟨0, hr⟩
      case invokestatic z =>
        simp only [m_B] at hr ⊢
        cases hb : Nat.ble 995 (m_d (m_hd ds) 1) with
        | true =>
          rw [hb, cond_true] at hr
          split at hr
          · rename_i os2 h2 hs
            obtain ⟨f, hf⟩ := ih _ _ _ _ _ hr
            exact ⟨f, by rw [cond_true]; exact hf⟩
          · cases hr
        | false =>
          rw [hb, cond_false] at hr
          split at hr
          · rename_i w h2 hq
            cases hcc : (Nat.ble (m_d (m_hd ds) 0) os.length && Nat.ble (m_cat (os.drop (m_d (m_hd ds) 0))) 8) with
            | false => rw [hcc, cond_false] at hr; cases hr
            | true =>
              rw [hcc, cond_true] at hr
              obtain ⟨f1, hf1⟩ := hc _ _ _ _ hq
              obtain ⟨f2, hf2⟩ := ih _ _ _ _ _ hr
              refine ⟨max f1 f2, ?_⟩
              rw [cond_false, hm f1 _ (Nat.le_max_left _ _) _ _ _ _ hf1]
              exact m_B_mono (fun k as h r => hm f2 _ (Nat.le_max_right _ _) k as h r) _ _ _ _ _ _ hf2
          · cases hr
      case invokespecial z =>
        simp only [m_B] at hr ⊢
        split at hr
        · rename_i a os' hd
          cases hcc : Nat.ble (m_cat os') 8 with
          | false => rw [hcc, cond_false] at hr; cases hr
          | true =>
            rw [hcc, cond_true] at hr
            cases hb : Nat.beq (m_d (m_hd ds) 1) 999 with
            | true =>
              rw [hb, cond_true] at hr
              obtain ⟨f, hf⟩ := ih _ _ _ _ _ hr
              exact ⟨f, by rw [cond_true, cond_true]; exact hf⟩
            | false =>
              rw [hb, cond_false] at hr
              cases ho : m_isO h a with
              | false => rw [ho, cond_false] at hr; cases hr
              | true =>
                rw [ho, cond_true] at hr
                split at hr
                · rename_i w h2 hq
                  obtain ⟨f1, hf1⟩ := hc _ _ _ _ hq
                  obtain ⟨f2, hf2⟩ := ih _ _ _ _ _ hr
                  refine ⟨max f1 f2, ?_⟩
                  rw [cond_true, cond_false, cond_true, hm f1 _ (Nat.le_max_left _ _) _ _ _ _ hf1]
                  exact m_B_mono (fun k as h r => hm f2 _ (Nat.le_max_right _ _) k as h r) _ _ _ _ _ _ hf2
                · cases hr
        · cases hr
      case invokevirtual z =>
        simp only [m_B] at hr ⊢
        split at hr
        · rename_i a os' hd
          cases hcc : Nat.ble (m_cat os') 8 with
          | false => rw [hcc, cond_false] at hr; cases hr
          | true =>
            rw [hcc, cond_true] at hr
            split at hr
            · rename_i k hp
              split at hr
              · rename_i w h2 hq
                obtain ⟨f1, hf1⟩ := hc _ _ _ _ hq
                obtain ⟨f2, hf2⟩ := ih _ _ _ _ _ hr
                refine ⟨max f1 f2, ?_⟩
                rw [cond_true]
                rw [hm f1 _ (Nat.le_max_left _ _) _ _ _ _ hf1]
                exact m_B_mono (fun k as h r => hm f2 _ (Nat.le_max_right _ _) k as h r) _ _ _ _ _ _ hf2
              · cases hr
            · cases hr
        · cases hr
      all_goals exact absurd ⟨by simp, by simp, by simp, by simp, by simp, by simp, by simp, by simp, by simp, by simp, by simp⟩ hi
theorem m_run_mono : ∀ (f : Nat) (sc : mS) (d k pc : Nat) (lo : mL) (os : List Value) (h : mH) (r : mF), m_run mP mX f sc d k pc lo os h = some r → m_run mP mX (f + 1) sc d k pc lo os h = some r
  | 0, sc, d, k, pc, lo, os, h, r, hr => by cases hr
  | f + 1, sc, d, k, pc, lo, os, h, r, hr => by
    have hab : ∀ k as h r, m_cal f d k as h = some r → m_cal (f + 1) d k as h = some r := by
      intro k as h r hq
      unfold m_cal at hq ⊢
      split at hq
      · cases hq
      · rename_i d'
        cases hb : Nat.ble 900 k with
        | true => rw [hb, cond_true] at hq; rw [cond_true]; exact hq
        | false =>
          rw [hb, cond_false] at hq
          rw [cond_false]
          cases h5 : (Nat.blt k 268 && Nat.ble (m_lay as).length (mX k)) with
          | false => rw [h5, cond_false] at hq; cases hq
          | true => rw [h5, cond_true] at hq; rw [cond_true]; exact m_run_mono f _ _ _ _ _ _ _ _ hq
    rw [m_run_s] at hr ⊢
    split at hr
    · rename_i r1 hB
      rw [m_B_mono hab _ _ _ _ _ _ hB]
      exact hr
    · rename_i pc' lo' os' h1 hB
      rw [m_B_mono hab _ _ _ _ _ _ hB]
      exact m_run_mono f _ _ _ _ _ _ _ _ hr
    · cases hr
theorem m_run_le2 {f g : Nat} (hfg : f ≤ g) {sc : mS} {d k pc : Nat} {lo : mL} {os : List Value} {h : mH} {r : mF} (hr : m_run mP mX f sc d k pc lo os h = some r) : m_run mP mX g sc d k pc lo os h = some r := by
  induction hfg with
  | refl => exact hr
  | step _ ih => exact m_run_mono _ _ _ _ _ _ _ _ _ ih
/-- a run with time enough -/
noncomputable def m_ev (sc : mS) (d k pc : Nat) (lo : mL) (os : List Value) (h : mH) : Option mF :=
  @dite _ (∃ r, ∃ f, m_run mP mX f sc d k pc lo os h = some r) (Classical.propDecidable _) (fun H => some (Classical.choose H)) (fun _ => none)
theorem m_ev_of {f : Nat} {sc : mS} {d k pc : Nat} {lo : mL} {os : List Value} {h : mH} {r : mF} (hr : m_run mP mX f sc d k pc lo os h = some r) : m_ev sc d k pc lo os h = some r := by
  have H : ∃ r, ∃ f, m_run mP mX f sc d k pc lo os h = some r := ⟨r, f, hr⟩
  unfold m_ev
  rw [dif_pos H]
  obtain ⟨g, hg⟩ := Classical.choose_spec H
  have h1 := m_run_le2 (Nat.le_max_left f g) hr
  have h2 := m_run_le2 (Nat.le_max_right f g) hg
  rw [h1] at h2
  exact h2.symm
theorem m_ev_run {sc : mS} {d k pc : Nat} {lo : mL} {os : List Value} {h : mH} {r : mF} (hr : m_ev sc d k pc lo os h = some r) : ∃ f, m_run mP mX f sc d k pc lo os h = some r := by
  unfold m_ev at hr
  split at hr
  · rename_i H
    cases hr
    exact Classical.choose_spec H
  · cases hr
/-- a call with time enough -/
noncomputable def m_evc (d : Nat) : mK := fun k' as h' => match d with
  | 0 => none
  | d' + 1 => bif Nat.ble 900 k' then (bif Nat.ble 4 d' then m_bi k' as h' else none) else bif Nat.blt k' 268 && Nat.ble (m_lay as).length (mX k') then m_ev none d' k' 0 (m_lo (mX k') as) [] h' else none
theorem m_evc_cal {d k : Nat} {as : List Value} {h : mH} {r : mF} (hq : m_evc d k as h = some r) : ∃ f, m_cal f d k as h = some r := by
  unfold m_evc at hq
  split at hq
  · cases hq
  · rename_i d'
    cases hb : Nat.ble 900 k with
    | true =>
      rw [hb, cond_true] at hq
      refine ⟨0, ?_⟩
      unfold m_cal
      simp only [hb, cond_true]
      exact hq
    | false =>
      rw [hb, cond_false] at hq
      cases h5 : (Nat.blt k 268 && Nat.ble (m_lay as).length (mX k)) with
      | false => rw [h5, cond_false] at hq; cases hq
      | true =>
        rw [h5, cond_true] at hq
        obtain ⟨f, hf⟩ := m_ev_run hq
        refine ⟨f, ?_⟩
        unfold m_cal
        simp only [hb, cond_false, h5, cond_true]
        exact hf
theorem m_cal_mono {d f g : Nat} (hfg : f ≤ g) (k : Nat) (as : List Value) (h : mH) (r : mF) (hq : m_cal f d k as h = some r) : m_cal g d k as h = some r := by
  unfold m_cal at hq ⊢
  split at hq
  · cases hq
  · rename_i d'
    cases hb : Nat.ble 900 k with
    | true => rw [hb, cond_true] at hq; rw [cond_true]; exact hq
    | false =>
      rw [hb, cond_false] at hq
      rw [cond_false]
      cases h5 : (Nat.blt k 268 && Nat.ble (m_lay as).length (mX k)) with
      | false => rw [h5, cond_false] at hq; cases hq
      | true => rw [h5, cond_true] at hq; rw [cond_true]; exact m_run_le2 hfg hq
/-- one block, then what comes behind it -/
theorem m_ev_goto {sc : mS} {d k pc : Nat} {lo : mL} {os : List Value} {h : mH} {pc' : Nat} {lo' : mL} {os' : List Value} {h' : mH} {r : mF} (hB : m_B sc (m_evc d) (mP k pc) pc lo os h = some (.inr (pc', lo', os', h'))) (hr : m_ev sc d k pc' lo' os' h' = some r) : m_ev sc d k pc lo os h = some r := by
  obtain ⟨f1, hf1⟩ := m_B_cont (c := fun f => m_cal f d) (fun f g hfg k as h r => m_cal_mono hfg k as h r) (fun k as h r => m_evc_cal) _ _ _ _ _ _ hB
  obtain ⟨f2, hf2⟩ := m_ev_run hr
  refine m_ev_of (f := max f1 f2 + 1) ?_
  rw [m_run_s, m_B_mono (fun k as h r => m_cal_mono (Nat.le_max_left f1 f2) k as h r) _ _ _ _ _ _ hf1]
  exact m_run_le2 (Nat.le_max_right f1 f2) hf2
theorem m_ev_ret {sc : mS} {d k pc : Nat} {lo : mL} {os : List Value} {h : mH} {r : mF} (hB : m_B sc (m_evc d) (mP k pc) pc lo os h = some (.inl r)) (hn : m_isN r.1 = true) : m_ev sc d k pc lo os h = some r := by
  obtain ⟨f1, hf1⟩ := m_B_cont (c := fun f => m_cal f d) (fun f g hfg k as h r => m_cal_mono hfg k as h r) (fun k as h r => m_evc_cal) _ _ _ _ _ _ hB
  refine m_ev_of (f := f1 + 1) ?_
  rw [m_run_s, hf1]
  show (bif m_isN r.1 then some r else none) = _
  rw [hn]
  rfl
theorem m_evc_s {d k : Nat} {as : List Value} {h : mH} {r : mF} (hk : Nat.blt k 268 = true) (hl : Nat.ble (m_lay as).length (mX k) = true) (hr : m_ev none d k 0 (m_lo (mX k) as) [] h = some r) : m_evc (d + 1) k as h = some r := by
  unfold m_evc
  have h9 : Nat.ble 900 k = false := by
    cases hb : Nat.ble 900 k with
    | false => rfl
    | true => have := Nat.le_of_ble_eq_true hb; have := Nat.blt_eq.mp hk; omega
  simp only [h9, cond_false, hk, hl, Bool.and_self, cond_true]
  exact hr
