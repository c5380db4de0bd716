/-! THE MACHINE'S HEAP IN THE JVM'S: cell i stands at ad i; what a frame knows -/
def m_v (ad : Nat → Nat) : Value → Value
  | .ref a => .ref (ad a)
  | v => v
theorem m_v_cat (ad : Nat → Nat) (v : Value) : (m_v ad v).category = v.category := by cases v <;> rfl
theorem m_v_rf (ad : Nat → Nat) (r : Option Nat) : m_v ad (va_rf r) = va_rf (r.map ad) := by cases r <;> rfl
def m_fld (ad : Nat → Nat) (st : Nat → Int32) (c : Nat) (rs : List (Option Nat)) (j : Nat) : Value := bif m_num (m_ty c j) then .int (st j) else va_rf ((m_ri rs j).map ad)
def m_cel (dA : Nat → ClassId) (ad : Nat → Nat) (st : Nat → Int32) (r : mR) : va_E :=
  if r.1 < 100 then .inr (r.1, (List.range r.2.1).map (m_fld ad st r.1 r.2.2))
  else if r.1 < 104 then .inl (dA r.1, r.2.1, .inl st)
  else .inl (dA r.1, r.2.1, .inr (.inr (.inr (.inr (fun i => (m_ri r.2.2 i).map ad)))))
def m_at (h : mH) (i : Nat) : mR := (h.1[i]?).getD (0, 0, [])
def m_ws (dA : Nat → ClassId) (ad : Nat → Nat) (h : mH) : va_W := (List.range h.1.length).map fun i => (ad i, m_cel dA ad (h.2 i) (m_at h i))
def m_sz (h : mH) : Nat := (h.1.map fun r => r.2.1).sum
theorem m_ws_len (dA : Nat → ClassId) (ad : Nat → Nat) (h : mH) : (m_ws dA ad h).length = h.1.length := by simp [m_ws]
theorem m_at_eq {h : mH} {i : Nat} {r : mR} (hi : h.1[i]? = some r) : m_at h i = r := by simp [m_at, hi]
theorem m_ws_get {dA : Nat → ClassId} {ad : Nat → Nat} {h : mH} {i : Nat} {r : mR} (hi : h.1[i]? = some r) : (m_ws dA ad h)[i]? = some (ad i, m_cel dA ad (h.2 i) r) := by
  have hl := (List.getElem?_eq_some_iff.mp hi).1
  simp [m_ws, List.getElem?_map, List.getElem?_range hl, m_at_eq hi]
theorem m_ws_at {dA : Nat → ClassId} {ad : Nat → Nat} {h : mH} {i : Nat} (hl : i < h.1.length) : (m_ws dA ad h)[i]? = some (ad i, m_cel dA ad (h.2 i) (m_at h i)) := by
  simp [m_ws, List.getElem?_map, List.getElem?_range hl]
theorem m_ws_set {dA : Nat → ClassId} {ad : Nat → Nat} {h : mH} {i : Nat} {r r' : mR} (f : Nat → Int32) (hi : h.1[i]? = some r) : (m_ws dA ad h).set i (ad i, m_cel dA ad f r') = m_ws dA ad (h.1.set i r', m_row h.2 i f) := by
  have hl := (List.getElem?_eq_some_iff.mp hi).1
  apply List.ext_getElem?
  intro j
  by_cases hj : j = i
  · subst hj
    rw [List.getElem?_set_self (by rw [m_ws_len]; exact hl), m_ws_at (by simpa using hl)]
    have e1 : m_row h.2 j f j = f := by funext b; simp [m_row]
    have e2 : m_at (h.1.set j r', m_row h.2 j f) j = r' := by simp [m_at, hl]
    rw [e2]
    show _ = some (ad j, m_cel dA ad (m_row h.2 j f j) r')
    rw [e1]
  · rw [List.getElem?_set_ne (Ne.symm hj)]
    by_cases hjl : j < h.1.length
    · rw [m_ws_at hjl, m_ws_at (by simpa using hjl)]
      have e1 : m_row h.2 i f j = h.2 j := by funext b; simp [m_row, hj]
      have e2 : m_at (h.1.set i r', m_row h.2 i f) j = m_at h j := by simp [m_at, List.getElem?_set_ne (Ne.symm hj)]
      rw [e2]
      show _ = some (ad j, m_cel dA ad (m_row h.2 i f j) _)
      rw [e1]
    · rw [List.getElem?_eq_none (by rw [m_ws_len]; omega), List.getElem?_eq_none (by rw [m_ws_len]; simp; omega)]
theorem m_row_up (st : Nat → Nat → Int32) (i j : Nat) (v : Int32) : m_row st i (upd (st i) j v) = m_up st i j v := by
  funext a b
  by_cases ha : a = i
  · subst ha; simp [m_row, m_up, upd]
  · simp [m_row, m_up, ha]
theorem m_row_self (st : Nat → Nat → Int32) (i : Nat) : m_row st i (st i) = st := by
  funext a b
  by_cases ha : a = i
  · subst ha; simp [m_row]
  · simp [m_row, ha]
theorem m_set_self {l : List mR} {i : Nat} {r : mR} (hi : l[i]? = some r) : l.set i r = l := by
  apply List.ext_getElem?
  intro j
  by_cases hj : j = i
  · subst hj
    rw [List.getElem?_set_self (List.getElem?_eq_some_iff.mp hi).1, hi]
  · rw [List.getElem?_set_ne (Ne.symm hj)]
theorem m_sz_set {l : List mR} {i : Nat} {c n : Nat} {rs rs' : List (Option Nat)} (st st' : Nat → Nat → Int32) (hi : l[i]? = some (c, n, rs)) : m_sz (l.set i (c, n, rs'), st') = m_sz (l, st) := by
  unfold m_sz
  show ((l.set i (c, n, rs')).map _).sum = (l.map _).sum
  congr 1
  apply List.ext_getElem?
  intro j
  rw [List.getElem?_map, List.getElem?_map]
  by_cases hj : j = i
  · subst hj
    rw [List.getElem?_set_self (List.getElem?_eq_some_iff.mp hi).1, hi]
    rfl
  · rw [List.getElem?_set_ne (Ne.symm hj)]
theorem m_sz_fst (l : List mR) (st st' : Nat → Nat → Int32) : m_sz (l, st) = m_sz (l, st') := rfl
/-! the locals -/
def m_LS (ad : Nat → Nat) (ls : Array Slot) (nL : Nat) (lo : mL) : Prop := ls.size = nL ∧ lv_wf ls ∧ ∀ (i : Nat) (v : Value), m_ld lo i = some v → ls[i]? = some (.val (m_v ad v))
def m_pr (ad : Nat → Nat) (lo : mL) : List (Nat × Value) := (List.range lo.length).filterMap fun i => (m_ld lo i).map fun v => (i, m_v ad v)
theorem m_ld_lt {lo : mL} {i : Nat} {v : Value} (h : m_ld lo i = some v) : i < lo.length := by
  by_cases hi : i < lo.length
  · exact hi
  · simp [m_ld, List.getElem?_eq_none (Nat.le_of_not_lt hi)] at h
theorem m_pr_in {ad : Nat → Nat} {lo : mL} {i : Nat} {v : Value} (h : m_ld lo i = some v) : (i, m_v ad v) ∈ m_pr ad lo := by
  refine List.mem_filterMap.mpr ⟨i, List.mem_range.mpr (m_ld_lt h), ?_⟩
  rw [h]; rfl
theorem m_LS.has {ad : Nat → Nat} {ls : Array Slot} {nL : Nat} {lo : mL} (h : m_LS ad ls nL lo) : lv_has ls nL (m_pr ad lo) := by
  refine ⟨h.1, h.2.1, fun q hq => ?_⟩
  obtain ⟨i, -, hi⟩ := List.mem_filterMap.mp hq
  cases hv : m_ld lo i with
  | none => rw [hv] at hi; cases hi
  | some v =>
    rw [hv] at hi
    cases hi
    exact h.2.2 i v hv
theorem m_ld_0 (o : Option Value) (l : mL) : m_ld (o :: l) 0 = o := rfl
theorem m_ld_s (o : Option Value) (l : mL) (i : Nat) : m_ld (o :: l) (i + 1) = m_ld l i := by simp [m_ld]
theorem m_ld_nil (i : Nat) : m_ld [] i = none := by simp [m_ld]
theorem m_c1_some {o : Option Value} {w : Value} (h : m_c1 o = some w) : o = some w ∧ ¬ w.category = 2 := by
  unfold m_c1 at h
  split at h
  · cases h
  · cases h
  · rename_i h1 h2
    refine ⟨h, ?_⟩
    cases w <;> simp_all [Value.category]
theorem m_ld_st1 : ∀ (lo : mL) (i : Nat) (v : Value) (j : Nat) (w : Value), m_ld (m_st1 lo i v) j = some w → (j = i ∧ w = v) ∨ (j ≠ i ∧ m_ld lo j = some w ∧ ¬ (j + 1 = i ∧ w.category = 2))
  | [], i, v, j, w, h => by simp [m_st1, m_ld_nil] at h
  | o :: l, 0, v, j, w, h => by
    cases j with
    | zero => rw [m_st1, m_ld_0] at h; cases h; exact Or.inl ⟨rfl, rfl⟩
    | succ j => rw [m_st1, m_ld_s] at h; exact Or.inr ⟨by omega, by rw [m_ld_s]; exact h, by omega⟩
  | o :: l, 1, v, j, w, h => by
    cases j with
    | zero =>
      rw [m_st1, m_ld_0] at h
      obtain ⟨h1, h2⟩ := m_c1_some h
      exact Or.inr ⟨by omega, by rw [m_ld_0]; exact h1, fun q => h2 q.2⟩
    | succ j =>
      rw [m_st1, m_ld_s] at h
      rcases m_ld_st1 l 0 v j w h with ⟨h1, h2⟩ | ⟨h1, h2, h3⟩
      · exact Or.inl ⟨by omega, h2⟩
      · exact Or.inr ⟨by omega, by rw [m_ld_s]; exact h2, by omega⟩
  | o :: l, n + 2, v, j, w, h => by
    cases j with
    | zero => rw [m_st1, m_ld_0] at h; exact Or.inr ⟨by omega, by rw [m_ld_0]; exact h, by omega⟩
    | succ j =>
      rw [m_st1, m_ld_s] at h
      rcases m_ld_st1 l (n + 1) v j w h with ⟨h1, h2⟩ | ⟨h1, h2, h3⟩
      · exact Or.inl ⟨by omega, h2⟩
      · exact Or.inr ⟨by omega, by rw [m_ld_s]; exact h2, fun q => h3 ⟨by omega, q.2⟩⟩
theorem m_ld_no : ∀ (l : mL) (j : Nat) (w : Value), m_ld (m_no l) j = some w → j ≠ 0 ∧ m_ld l j = some w
  | [], j, w, h => by simp [m_no, m_ld_nil] at h
  | o :: l, 0, w, h => by rw [m_no, m_ld_0] at h; cases h
  | o :: l, j + 1, w, h => by rw [m_no, m_ld_s] at h; exact ⟨by omega, by rw [m_ld_s]; exact h⟩
theorem m_ld_st2 : ∀ (lo : mL) (i : Nat) (v : Value) (j : Nat) (w : Value), m_ld (m_st2 lo i v) j = some w → (j = i ∧ w = v) ∨ (j ≠ i ∧ j ≠ i + 1 ∧ m_ld lo j = some w ∧ ¬ (j + 1 = i ∧ w.category = 2))
  | [], i, v, j, w, h => by simp [m_st2, m_ld_nil] at h
  | o :: l, 0, v, j, w, h => by
    match j with
    | 0 => rw [m_st2, m_ld_0] at h; cases h; exact Or.inl ⟨rfl, rfl⟩
    | j + 1 =>
      rw [m_st2, m_ld_s] at h
      obtain ⟨h1, h2⟩ := m_ld_no l j w h
      exact Or.inr ⟨by omega, by omega, by rw [m_ld_s]; exact h2, by omega⟩
  | o :: l, 1, v, j, w, h => by
    cases j with
    | zero =>
      rw [m_st2, m_ld_0] at h
      obtain ⟨h1, h2⟩ := m_c1_some h
      exact Or.inr ⟨by omega, by omega, by rw [m_ld_0]; exact h1, fun q => h2 q.2⟩
    | succ j =>
      rw [m_st2, m_ld_s] at h
      rcases m_ld_st2 l 0 v j w h with ⟨h1, h2⟩ | ⟨h1, h2, h3, h4⟩
      · exact Or.inl ⟨by omega, h2⟩
      · exact Or.inr ⟨by omega, by omega, by rw [m_ld_s]; exact h3, by omega⟩
  | o :: l, n + 2, v, j, w, h => by
    cases j with
    | zero => rw [m_st2, m_ld_0] at h; exact Or.inr ⟨by omega, by omega, by rw [m_ld_0]; exact h, by omega⟩
    | succ j =>
      rw [m_st2, m_ld_s] at h
      rcases m_ld_st2 l (n + 1) v j w h with ⟨h1, h2⟩ | ⟨h1, h2, h3, h4⟩
      · exact Or.inl ⟨by omega, h2⟩
      · exact Or.inr ⟨by omega, by omega, by rw [m_ld_s]; exact h3, fun q => h4 ⟨by omega, q.2⟩⟩
theorem m_LS.st1 {ad : Nat → Nat} {ls : Array Slot} {nL : Nat} {lo : mL} {i : Nat} {v : Value} (h : lv_has ls nL ((i, m_v ad v) :: (m_pr ad lo).filter (fun q => !(q.1 == i) && !(q.1 + 1 == i && q.2.category == 2)))) : m_LS ad ls nL (m_st1 lo i v) := by
  refine ⟨h.1, h.2.1, fun j w hj => ?_⟩
  rcases m_ld_st1 lo i v j w hj with ⟨rfl, rfl⟩ | ⟨h1, h2, h3⟩
  · exact h.2.2 _ List.mem_cons_self
  · refine h.2.2 (j, m_v ad w) (List.mem_cons_of_mem _ (List.mem_filter.mpr ⟨m_pr_in h2, ?_⟩))
    by_cases hj1 : j + 1 = i
    · have hc : ¬ w.category = 2 := fun q => h3 ⟨hj1, q⟩
      simp [h1, m_v_cat, hc]
    · simp [h1, hj1]
theorem m_LS.st2 {ad : Nat → Nat} {ls : Array Slot} {nL : Nat} {lo : mL} {i : Nat} {v : Value} (h : lv_has ls nL ((i, m_v ad v) :: (m_pr ad lo).filter (fun q => !(q.1 == i) && (!(q.1 == i + 1) && !(q.1 + 1 == i && q.2.category == 2))))) : m_LS ad ls nL (m_st2 lo i v) := by
  refine ⟨h.1, h.2.1, fun j w hj => ?_⟩
  rcases m_ld_st2 lo i v j w hj with ⟨rfl, rfl⟩ | ⟨h1, h1', h2, h3⟩
  · exact h.2.2 _ List.mem_cons_self
  · refine h.2.2 (j, m_v ad w) (List.mem_cons_of_mem _ (List.mem_filter.mpr ⟨m_pr_in h2, ?_⟩))
    by_cases hj1 : j + 1 = i
    · have hc : ¬ w.category = 2 := fun q => h3 ⟨hj1, q⟩
      simp [h1, h1', m_v_cat, hc]
    · simp [h1, h1', hj1]
theorem m_pr_k {ad : Nat → Nat} {lo : mL} {i : Nat} {v : Value} (h : m_ld lo i = some v) : ∃ k : Nat, (m_pr ad lo)[k]? = some (i, m_v ad v) := List.getElem?_of_mem (m_pr_in h)
/-- the locals at the entry -/
theorem m_lay_sl (vs : List Value) (ad : Nat → Nat) : (lg_sl (vs.map (m_v ad))).length = (m_lay vs).length := by
  induction vs with
  | nil => rfl
  | cons v l ih =>
    have e : lg_sl ((v :: l).map (m_v ad)) = lg_sl [m_v ad v] ++ lg_sl (l.map (m_v ad)) := by simp [lg_sl]
    rw [e, List.length_append, ih]
    cases v <;> simp [lg_sl, m_lay, m_v, Value.category] <;> omega
theorem m_ld_lay : ∀ (vs : List Value) (i : Nat) (v : Value) (b : Nat) (ad : Nat → Nat), m_ld (m_lay vs) i = some v → (b + i, m_v ad v) ∈ lv_args b (vs.map (m_v ad))
  | [], i, v, b, ad, h => by simp [m_lay, m_ld_nil] at h
  | w :: l, i, v, b, ad, h => by
    by_cases hc : w.category = 2
    · have hl : m_lay (w :: l) = some w :: none :: m_lay l := by cases w <;> simp [Value.category] at hc <;> rfl
      rw [hl] at h
      have hc' : (m_v ad w).category = 2 := by rw [m_v_cat]; exact hc
      match i with
      | 0 => rw [m_ld_0] at h; cases h; exact List.mem_cons_self
      | 1 => rw [m_ld_s, m_ld_0] at h; cases h
      | i + 2 =>
        rw [m_ld_s, m_ld_s] at h
        have := m_ld_lay l i v (b + 2) ad h
        rw [List.map_cons, lv_args, if_pos hc']
        rw [show b + (i + 2) = b + 2 + i by omega]
        exact List.mem_cons_of_mem _ this
    · have hl : m_lay (w :: l) = some w :: m_lay l := by cases w <;> simp [Value.category] at hc <;> rfl
      rw [hl] at h
      have hc' : ¬ (m_v ad w).category = 2 := by rw [m_v_cat]; exact hc
      match i with
      | 0 => rw [m_ld_0] at h; cases h; exact List.mem_cons_self
      | i + 1 =>
        rw [m_ld_s] at h
        have := m_ld_lay l i v (b + 1) ad h
        rw [List.map_cons, lv_args, if_neg hc']
        rw [show b + (i + 1) = b + 1 + i by omega]
        exact List.mem_cons_of_mem _ this
theorem m_ld_lo {n : Nat} {vs : List Value} {i : Nat} {v : Value} (h : m_ld (m_lo n vs) i = some v) : m_ld (m_lay vs) i = some v := by
  unfold m_lo m_ld at h
  unfold m_ld
  by_cases hi : i < (m_lay vs).length
  · rw [List.getElem?_append_left hi] at h; exact h
  · rw [List.getElem?_append_right (by omega), List.getElem?_replicate] at h
    split at h <;> cases h
theorem m_LS.entry (ad : Nat → Nat) (vs : List Value) {n : Nat} (h : (m_lay vs).length ≤ n) : m_LS ad ((lg_sl (vs.map (m_v ad)) ++ List.replicate (n - (lg_sl (vs.map (m_v ad))).length) Slot.unset).toArray) n (m_lo n vs) := by
  obtain ⟨h1, h2, h3⟩ := lv_entry (vs.map (m_v ad)) (n := n) (by rw [m_lay_sl]; exact h)
  refine ⟨h1, h2, fun i v hv => ?_⟩
  have := m_ld_lay vs i v 0 ad (m_ld_lo hv)
  rw [Nat.zero_add] at this
  exact h3 _ this
