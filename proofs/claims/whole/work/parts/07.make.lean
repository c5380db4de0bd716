/-! THE INSTRUCTIONS THAT MAKE CELLS -/
theorem m_cl_tn : ∀ (c : Nat) (C : String) (T : u_T) (N : Nat), m_cl[c]? = some (C, T, N) → ∀ j, j < N → (m_num (m_ty c j) || m_isR (m_ty c j)) = true
  | 0, _, _, _, h => by cases h; decide +kernel
  | 1, _, _, _, h => by cases h; decide +kernel
  | 2, _, _, _, h => by cases h; decide +kernel
  | 3, _, _, _, h => by cases h; decide +kernel
  | 4, _, _, _, h => by cases h; decide +kernel
  | 5, _, _, _, h => by cases h; decide +kernel
  | 6, _, _, _, h => by cases h; decide +kernel
  | 7, _, _, _, h => by cases h; decide +kernel
  | 8, _, _, _, h => by cases h; decide +kernel
  | 9, _, _, _, h => by cases h; decide +kernel
  | 10, _, _, _, h => by cases h; decide +kernel
  | 11, _, _, _, h => by cases h; decide +kernel
  | 12, _, _, _, h => by cases h; decide +kernel
  | n + 13, _, _, _, h => by simp [m_cl] at h
theorem m_ws_push {dA : Nat → ClassId} {ad : Nat → Nat} {h : mH} {r : mR} : m_ws dA ad (m_new h r) = m_ws dA ad h ++ [(ad h.1.length, m_cel dA ad (fun _ => 0) r)] := by
  have e : (m_new h r).1.length = h.1.length + 1 := by simp [m_new]
  unfold m_ws
  rw [e, List.range_succ, List.map_append]
  congr 1
  · apply List.map_congr_left
    intro i hi
    have hl := List.mem_range.mp hi
    have e1 : (m_new h r).2 i = h.2 i := by funext b; simp [m_new, m_row, Nat.ne_of_lt hl]
    have e2 : m_at (m_new h r) i = m_at h i := by simp [m_at, m_new, List.getElem?_append_left hl]
    rw [e1, e2]
  · have e1 : (m_new h r).2 h.1.length = fun _ => 0 := by funext b; simp [m_new, m_row]
    have e2 : m_at (m_new h r) h.1.length = r := by simp [m_at, m_new]
    simp only [List.map_cons, List.map_nil, e1, e2]
theorem m_sz_new (h : mH) (c n : Nat) (rs : List (Option Nat)) : m_sz (m_new h (c, n, rs)) = m_sz h + n := by simp [m_sz, m_new]
/-- the room that is left -/
def m_Rm (R : Room) (N0 S0 : Nat) (h : mH) : Prop := h.1.length ≤ N0 + R.cells ∧ m_sz h ≤ S0 + R.slots ∧ h.1.length ≤ m_str0
def m_AOA (U : State) : Prop := (Cond.arrayOver (.array .int)).before #[] U = true
/-- words that aren't moved by the tables alone: arrays over rows and watchmen, who is a watchman, nest mates -/
def m_nest : List (String × Nat × MethodName × String) := [(RX11, 9, yX9_init, RX11), (RX9, 45, yX5_init, RX11), (RX11, 25, yX6_init, RX11), (RX6, 21, yX5_init, RX11), (RX11, 79, yX8_init, RX11), (RX5, 34, yX11_isUnder, RX11)]
def m_Ex (U : State) : Prop := va_AO RX10 U ∧ m_AOA U ∧ (∀ C ∈ [RX1, RX2, RX3, RX4, RX7], va_Nw (.castable C RX10) U) ∧ ∀ q ∈ m_nest, va_Nw (.methodLinkNest q.1 q.2.1 q.2.2.1 q.2.2.2) U
section MM
variable {p : Program} {l : Launch} {e : Env} {R : Room} {s : State} {m : MethodId} {args : Array Value} {below : List Frame} {meth : Method} {c : Code} {Q : State → Prop} {cc : ByteArray} {own nm : String} {nL : Nat} {D : va_G} {dA : Nat → ClassId} {ad : Nat → Nat} {A : Nat → Prop} {B N0 S0 : Nat} {sc : mS} {pc n : Nat} {v : Int32 × Int64} {ds : List (List Nat)} {lo lo' : mL} {os os' : List Value} {h h' : mH}
/-- a cell has been made -/
theorem m_Nw_new {H H1 : Heap} {locs : List Loc} {cells slots : Nat} {ls : Array Slot} {ci k : Nat} {rs : List (Option Nat)} (hA : ∀ q, s.heap.size ≤ q → A q) (hB : ∀ i, i < m_str0 → ad i = B + i) (hlt : h.1.length < m_str0) (hN : m_Nw s nL D dA ad A B N0 S0 lo h H locs cells slots ls) (z1 : H1.size = H.size + 1) (o1 : ∀ q, q < H.size → H1[q]? = H[q]?) (e1 : va_at D m_cl (H.size, m_cel dA ad (fun _ => 0) (ci, k, rs)) H1) : m_Nw s nL D dA ad A B N0 S0 lo (m_new h (ci, k, rs)) H1 locs (cells + 1) (slots + k) ls ∧ ad h.1.length = H.size := by
  obtain ⟨hP, hD, hS, hZ, hC, hL, hl⟩ := hN
  have hq : ad h.1.length = H.size := by rw [hB _ hlt, hZ]
  have hk : ∀ (k : Nat) (x : Nat × va_E), (m_ws dA ad h)[k]? = some x → H1[x.1]? = H[x.1]? := fun k x hx => o1 x.1 ((hP k x hx).lt)
  refine ⟨⟨?_, ?_, ⟨Nat.le_trans hS.1 (by omega), fun x h1 h2 => (o1 x (Nat.lt_of_lt_of_le h1 hS.1)).trans (hS.2.1 x h1 h2), hS.2.2⟩, ?_, ?_, ?_, hl⟩, hq⟩
  · rw [m_ws_push, hq]
    refine (hP.kept hk).app (fun k x hx => ?_)
    have hz : k < 1 := (List.getElem?_eq_some_iff.mp hx).1
    rw [show k = 0 by omega] at hx
    cases hx
    exact e1
  · rw [m_ws_push, hq]
    exact hD.push hP rfl (hA _ hS.1)
  · rw [z1, hZ]; simp [m_new]; omega
  · simp only [m_new, List.length_append, List.length_cons, List.length_nil]; omega
  · rw [m_sz_new]; omega
theorem m_ok_new {z : Nat} (hF : m_Fx p s m args meth c cc own nm nL D dA ad A B) (hRm : m_Rm R N0 S0 h') (hdg : decode cc pc = .ok (.new z, n)) (hk : m_ck own nm nL (.new z) n v ds = true) (hr : m_1 sc (.new z) v ds lo os h = some (lo', os', h')) (kk : m_W p l e R s m args below meth c Q nL D dA ad A B N0 S0 (pc + n) lo' os' h') : m_W p l e R s m args below meth c Q nL D dA ad A B N0 S0 pc lo os h := by
  obtain ⟨hx, hb, hml, hown, hts, hK, hA, hnm, hB⟩ := hF
  simp only [m_ck, Bool.and_eq_true, decide_eq_true_eq] at hk
  obtain ⟨rfl, h1⟩ := hk
  simp only [m_1] at hr
  cases hr
  split at h1
  · cases h1
  · rename_i C T N hc
    simp only [Bool.and_eq_true, decide_eq_true_eq] at h1
    obtain ⟨⟨⟨hNk, w1⟩, w2⟩, w3⟩ := h1
    obtain ⟨hin, hty, hap⟩ := m_cl_ok _ _ _ _ hc
    have hKn := hK.1 _ _ hc
    intro H locs cells slots ls hN
    obtain ⟨r1, r2, r3⟩ := hRm
    rw [m_sz_new] at r2
    simp only [m_new, List.length_append, List.length_cons, List.length_nil] at r1 r3
    have g1 := hN.2.2.2.2.1
    have g2 := hN.2.2.2.2.2.1
    refine W.newcK hx hb hown (hts _ (m_w_in w1)) (hts _ (m_w_in w2)) (hts _ (m_w_in w3)) rfl hdg (by omega) (by omega) hKn.2.1 rfl fun H1 kC hkC e1 z1 o1 => ?_
    obtain ⟨hN1, hq⟩ := m_Nw_new (H1 := H1) (ci := m_d (m_hd ds) 0) (k := m_d (m_hd ds) 1) (rs := List.replicate (m_d (m_hd ds) 1) none) hA hB (by omega) hN z1 o1 (by
      rw [m_cel_o dA ad _ (m_cl_lt hc)]
      refine ⟨_, hc, (u_born (m_ty (m_d (m_hd ds) 0)) hts hin hKn hkC e1 hty).to fun j hj => ?_⟩
      rw [hNk] at hj
      show _ = vp_V (List.map _ _) j
      have e2 : vp_V (List.map (m_fld ad (fun _ => 0) (m_d (m_hd ds) 0) (List.replicate (m_d (m_hd ds) 1) none)) (List.range (m_d (m_hd ds) 1))) j = m_fld ad (fun _ => 0) (m_d (m_hd ds) 0) (List.replicate (m_d (m_hd ds) 1) none) j := by
        unfold vp_V
        rw [List.getD_eq_getElem?_getD, m_fs_get _ hj]
        rfl
      rw [e2]
      have e3 : m_ri (List.replicate (m_d (m_hd ds) 1) none) j = none := by
        unfold m_ri
        rw [List.getElem?_replicate]
        split <;> rfl
      have ht := m_cl_tn _ _ _ _ hc j (by rw [hNk]; exact hj)
      unfold m_fld
      rw [e3]
      generalize m_ty (m_d (m_hd ds) 0) j = ty at ht
      cases ty <;> simp [m_num, m_isR] at ht <;> rfl)
    rw [hNk]
    have k2 := kk H1 locs _ _ ls hN1
    rw [List.map_cons] at k2
    have e9 : m_v ad (.ref h.1.length) = .ref H.size := by rw [← hq]; rfl
    rw [e9] at k2
    exact k2
theorem m_ok_newarray {z : ArrayType} (hF : m_Fx p s m args meth c cc own nm nL D dA ad A B) (hRm : m_Rm R N0 S0 h') (hdg : decode cc pc = .ok (.newarray z, n)) (hk : m_ck own nm nL (.newarray z) n v ds = true) (hr : m_1 sc (.newarray z) v ds lo os h = some (lo', os', h')) (kk : m_W p l e R s m args below meth c Q nL D dA ad A B N0 S0 (pc + n) lo' os' h') : m_W p l e R s m args below meth c Q nL D dA ad A B N0 S0 pc lo os h := by
  obtain ⟨hx, hb, hml, hown, hts, hK, hA, hnm, hB⟩ := hF
  simp only [m_ck, Bool.and_eq_true, decide_eq_true_eq, Bool.or_eq_true] at hk
  obtain ⟨⟨rfl, hz⟩, h1⟩ := hk
  simp only [m_1] at hr
  split at hr
  · rename_i x os0
    split at hr
    · cases hr
    · rename_i hn
      cases hr
      have hn1 : ¬ x < 0 := fun q => hn (Or.inl q)
      have hn2 : x.toNatClampNeg < 100000 := Nat.not_le.mp fun q => hn (Or.inr q)
      intro H locs cells slots ls hN
      obtain ⟨r1, r2, r3⟩ := hRm
      rw [m_sz_new] at r2
      simp only [m_new, List.length_append, List.length_cons, List.length_nil] at r1 r3
      have g1 := hN.2.2.2.2.1
      have g2 := hN.2.2.2.2.2.1
      refine va_newaK hx hb (hts _ (m_w_in h1)) rfl hdg rfl hn1 rfl (by rcases hz with (rfl | rfl) | rfl <;> simp [newarray.typeOf, componentBytes] <;> omega) (by omega) (by omega) rfl fun H1 cA e1 z1 o1 hAr hNm => ?_
      obtain ⟨hN1, hq⟩ := m_Nw_new (H1 := H1) (ci := m_aty z) (k := x.toNatClampNeg) (rs := []) hA hB (by omega) hN z1 o1 (by
        rcases hz with (rfl | rfl) | rfl
        · have hc : cA = dA 100 := Option.some.inj (hNm.symm.trans (hK.2 0 _ rfl).2)
          rw [show m_aty .int = 100 from rfl, m_cel_a dA ad _ (by omega) (by omega), ← hc]
          exact e1
        · have hc : cA = dA 101 := Option.some.inj (hNm.symm.trans (hK.2 1 _ rfl).2)
          rw [show m_aty .byte = 101 from rfl, m_cel_a dA ad _ (by omega) (by omega), ← hc]
          exact e1
        · have hc : cA = dA 102 := Option.some.inj (hNm.symm.trans (hK.2 2 _ rfl).2)
          rw [show m_aty .boolean = 102 from rfl, m_cel_a dA ad _ (by omega) (by omega), ← hc]
          exact e1)
      have k2 := kk H1 locs _ _ ls hN1
      rw [List.map_cons] at k2
      have e9 : m_v ad (.ref h.1.length) = .ref H.size := by rw [← hq]; rfl
      rw [e9] at k2
      exact k2
  · cases hr
theorem m_ok_anewarray {z : Nat} (hF : m_Fx p s m args meth c cc own nm nL D dA ad A B) (hE : m_Ex s) (hRm : m_Rm R N0 S0 h') (hdg : decode cc pc = .ok (.anewarray z, n)) (hk : m_ck own nm nL (.anewarray z) n v ds = true) (hr : m_1 sc (.anewarray z) v ds lo os h = some (lo', os', h')) (kk : m_W p l e R s m args below meth c Q nL D dA ad A B N0 S0 (pc + n) lo' os' h') : m_W p l e R s m args below meth c Q nL D dA ad A B N0 S0 pc lo os h := by
  obtain ⟨hx, hb, hml, hown, hts, hK, hA, hnm, hB⟩ := hF
  simp only [m_ck, Bool.and_eq_true, decide_eq_true_eq] at hk
  obtain ⟨rfl, h1⟩ := hk
  simp only [m_1] at hr
  split at hr
  · rename_i x os0
    split at hr
    · cases hr
    · rename_i hn
      cases hr
      have hn1 : ¬ x < 0 := fun q => hn (Or.inl q)
      have hn2 : x.toNatClampNeg < 100000 := Nat.not_le.mp fun q => hn (Or.inr q)
      intro H locs cells slots ls hN
      obtain ⟨r1, r2, r3⟩ := hRm
      rw [m_sz_new] at r2
      simp only [m_new, List.length_append, List.length_cons, List.length_nil] at r1 r3
      have g1 := hN.2.2.2.2.1
      have g2 := hN.2.2.2.2.2.1
      refine W.anew hx hb hown (hts _ (m_w_in h1)) (va_AO.use hE.1) rfl hdg rfl hn1 (by omega) (by omega) (by omega) fun cA kA comp f1 f2 f3 f4 => ?_
      generalize hH1 : H.push ({ cls := cA, slots := Array.replicate x.toNatClampNeg .null, vm := .none } : Cell) = H1
      have z1 : H1.size = H.size + 1 := by rw [← hH1, Array.size_push]
      have e1 : H1[H.size]? = some (arrV cA x.toNatClampNeg (fun _ => .null)) := by rw [← hH1, Array.getElem?_push_size, ← arrV_new]
      have o1 : ∀ q : Nat, q < H.size → H1[q]? = H[q]? := fun q hq => by rw [← hH1, Array.getElem?_push, if_neg (Nat.ne_of_lt hq)]
      obtain ⟨hN1, hq⟩ := m_Nw_new (H1 := H1) (ci := 105) (k := x.toNatClampNeg) (rs := List.replicate x.toNatClampNeg none) hA hB (by omega) hN z1 o1 (by
        obtain ⟨kA', comp', -, -, -, hf⟩ := (hK.2 4 _ rfl).2
        have hc : cA = dA 105 := Option.some.inj (f1.symm.trans hf)
        rw [m_cel_q dA ad _ (by omega), ← hc]
        show H1[H.size]? = some (vp_cell _ _)
        rw [vp_cell_q, e1]
        refine congrArg some (congrArg (arrV cA x.toNatClampNeg) (funext fun j => ?_))
        have e3 : m_ri (List.replicate x.toNatClampNeg none) j = none := by
          unfold m_ri
          rw [List.getElem?_replicate]
          split <;> rfl
        rw [e3]
        rfl)
      have k2 := kk H1 locs _ _ ls hN1
      rw [List.map_cons] at k2
      have e9 : m_v ad (.ref h.1.length) = .ref H.size := by rw [← hq]; rfl
      rw [e9] at k2
      exact k2
  · cases hr
theorem m_asg (hE : m_Ex s) {ci : Nat} (hc : ci ∈ [1, 2, 3, 4, 7, 10]) : ∃ (C : String) (T : u_T) (N : Nat), m_cl[ci]? = some (C, T, N) ∧ ∀ comp c0 : ClassId, s.vm.findClass RX10 = some comp → s.vm.findClass C = some c0 → s.vm.assignable c0 comp = true := by
  have hca := hE.2.2.1
  simp only [List.mem_cons, List.not_mem_nil, or_false] at hc
  rcases hc with rfl | rfl | rfl | rfl | rfl | rfl
  · exact ⟨_, _, _, rfl, fun comp c0 h1 h2 => vb_asgC (hca _ (by simp)) comp c0 h1 h2⟩
  · exact ⟨_, _, _, rfl, fun comp c0 h1 h2 => vb_asgC (hca _ (by simp)) comp c0 h1 h2⟩
  · exact ⟨_, _, _, rfl, fun comp c0 h1 h2 => vb_asgC (hca _ (by simp)) comp c0 h1 h2⟩
  · exact ⟨_, _, _, rfl, fun comp c0 h1 h2 => vb_asgC (hca _ (by simp)) comp c0 h1 h2⟩
  · exact ⟨_, _, _, rfl, fun comp c0 h1 h2 => vb_asgC (hca _ (by simp)) comp c0 h1 h2⟩
  · exact ⟨_, _, _, rfl, fun comp c0 h1 h2 => by cases h1.symm.trans h2; exact va_asg _ _⟩
theorem m_aqs_spec {i : Nat} {j : Int32} {a : Nat} (hg : m_aqs h i j a = some h') : ∃ (n : Nat) (rs : List (Option Nat)) (c1 n1 : Nat) (rs1 : List (Option Nat)), h.1[i]? = some (105, n, rs) ∧ vp_in j n ∧ h.1[a]? = some (c1, n1, rs1) ∧ c1 ∈ [1, 2, 3, 4, 7, 10] ∧ j.toNatClampNeg < rs.length ∧ h' = (h.1.set i (105, n, rs.set j.toNatClampNeg (some a)), h.2) := by
  unfold m_aqs at hg
  split at hg
  · rename_i c n rs hi
    cases h1 : Nat.beq c 105 with
    | false => rw [h1] at hg; cases hg
    | true =>
      rw [h1, cond_true] at hg
      have := Nat.eq_of_beq_eq_true h1
      subst this
      split at hg
      · cases hg
      · rename_i h2
        split at hg
        · rename_i c1 n1 rs1 ha
          cases h3 : ([1, 2, 3, 4, 7, 10].elem c1 && Nat.blt j.toNatClampNeg rs.length) with
          | false => rw [h3] at hg; cases hg
          | true =>
            rw [h3, cond_true] at hg
            cases hg
            simp only [Bool.and_eq_true] at h3
            exact ⟨n, rs, c1, n1, rs1, hi, h2, ha, List.elem_iff.mp h3.1, Nat.blt_eq.mp h3.2, rfl⟩
        · cases hg
  · cases hg
theorem m_ok_aastore (hF : m_Fx p s m args meth c cc own nm nL D dA ad A B) (hE : m_Ex s) (hdg : decode cc pc = .ok (.aastore, n)) (hk : m_ck own nm nL .aastore n v ds = true) (hr : m_1 sc .aastore v ds lo os h = some (lo', os', h')) (kk : m_W p l e R s m args below meth c Q nL D dA ad A B N0 S0 (pc + n) lo' os' h') : m_W p l e R s m args below meth c Q nL D dA ad A B N0 S0 pc lo os h := by
  obtain ⟨hx, hb, hml, hown, hts, hK, hA, hnm, hB⟩ := hF
  simp only [m_ck, decide_eq_true_eq] at hk
  obtain rfl := hk
  simp only [m_1] at hr
  split at hr
  · rename_i x j a os0
    split at hr
    · rename_i h2 hg
      cases hr
      obtain ⟨k, rs, c1, n1, rs1, hi, hin, ha, hc1, hjr, rfl⟩ := m_aqs_spec hg
      obtain ⟨C, T, N, hc, hasg⟩ := m_asg hE hc1
      intro H locs cells slots ls hN
      have hlt : j.toNatClampNeg < k := Nat.not_le.mp fun q => hin (Or.inr q)
      have h0 : ¬ j < 0 := fun q => hin (Or.inl q)
      have he := m_ws_get (dA := dA) (ad := ad) hi
      have he' := he
      rw [m_cel_q dA ad (h.2 a) (by omega)] at he
      have hv := m_ws_get (dA := dA) (ad := ad) ha
      rw [m_cel_o dA ad (h.2 x) (m_cl_lt hc)] at hv
      obtain ⟨cellV, g1, g3, ⟨kC, hkC⟩, hasg2⟩ := va_rAny (E := RX10) hK hN.1 hv hc hasg
      obtain ⟨kA, comp, k1, k2, k3, -⟩ := (hK.2 4 _ rfl).2
      obtain ⟨kE, hkE, -⟩ := Vm.findClass_spec k3
      refine W.aast hx hb (hN.1 a _ he) (fun q h => by cases h) (fun h => by cases h) k1 k2 rfl hkE ⟨h0, by show _ < (arrV _ _ _).slots.size; rw [arrV_size]; exact hlt⟩ g1 (fun q h => by rw [h] at g3; cases g3) hkC (hasg2 _ k3) rfl rfl hdg fun H1 e z oq => ?_
      have e1 : va_at D m_cl (ad a, m_cel dA ad (h.2 a) (105, k, rs.set j.toNatClampNeg (some x))) H1 := by
        rw [m_cel_q dA ad _ (by omega)]
        show H1[ad a]? = some (vp_cell _ _)
        rw [e]
        show some ((vp_cell _ _).setSlot _ _) = _
        rw [vp_cell_q, vp_cell_q, arrV_store]
        refine congrArg some (congrArg (arrV (dA 105) k) (funext fun q => ?_))
        by_cases hq : q = j.toNatClampNeg
        · subst hq
          simp [updV, m_ri, hjr, va_rf]
        · simp [updV, hq, m_ri, List.getElem?_set_ne (Ne.symm hq)]
      have hP := hN.1.set hN.2.1 he' e1 oq
      have hD := hN.2.1.set he' (e := m_cel dA ad (h.2 a) (105, k, rs.set j.toNatClampNeg (some x)))
      rw [m_ws_set _ hi, m_row_self] at hP hD
      exact kk H1 _ cells slots ls ⟨hP, hD, hN.2.2.1.put z oq (hN.2.1.2 a _ he'), by rw [z, hN.2.2.2.1]; simp, by rw [hN.2.2.2.2.1]; simp, by rw [hN.2.2.2.2.2.1]; exact (m_sz_set _ _ hi).symm, hN.2.2.2.2.2.2⟩
    · cases hr
  · cases hr
theorem m_ok_multianewarray {z y : Nat} (hF : m_Fx p s m args meth c cc own nm nL D dA ad A B) (hE : m_Ex s) (hRm : m_Rm R N0 S0 h') (hdg : decode cc pc = .ok (.multianewarray z y, n)) (hk : m_ck own nm nL (.multianewarray z y) n v ds = true) (hr : m_1 sc (.multianewarray z y) v ds lo os h = some (lo', os', h')) (kk : m_W p l e R s m args below meth c Q nL D dA ad A B N0 S0 (pc + n) lo' os' h') : m_W p l e R s m args below meth c Q nL D dA ad A B N0 S0 pc lo os h := by
  sorry
end MM
