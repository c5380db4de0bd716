/-! WHAT HOLDS BETWEEN CLASS AND MODEL from call to call -/
def heR (he ca s : Nat → Int32) : Prop := ∀ k, k < tn s → (s (17 + 6 * k) = -1 ∧ he k = -9 ∧ ca k = -9) ∨ (0 ≤ (s (17 + 6 * k)).toInt ∧ he k = s (16 + 6 * k) ∧ ca k = s (17 + 6 * k))
def rpR (f1 rt rh s : Nat → Int32) : Prop := s 1 = Int32.ofNat (s 1).toNatClampNeg ∧ (s 1).toNatClampNeg ≤ 6 ∧ f1 11 = s 1 ∧ ∀ r, r < (s 1).toNatClampNeg → rt r = s (66 + 2 * r) ∧ rh r = s (67 + 2 * r) ∧ ∃ k, k < tn s ∧ s (66 + 2 * r) = Int32.ofNat k
/-- what rules tell to add -/
def NB (s : Nat → Int32) : Prop := ∀ r, r < (s 4).toNatClampNeg → 0 ≤ (s (80 + 4 * r)).toInt ∧ (s (80 + 4 * r)).toInt ≤ 99
def VR (f1 kd ad dl ml he ca wi bf bk bd bn be bs rt rh s : Nat → Int32) : Prop := VN s ∧ CBr bf bk bd bn be bs s ∧ (f1 0 = s 0 ∧ f1 7 = s 2 ∧ f1 9 = s 3) ∧ (∀ k, k < tn s → kd k = s (12 + 6 * k) ∧ ad k = s (13 + 6 * k) ∧ dl k = s (14 + 6 * k) ∧ ml k = s (15 + 6 * k)) ∧ (∀ j, j < 7 → wi j = s (5 + j)) ∧ heR he ca s ∧ rpR f1 rt rh s ∧ NB s
def Rnow (st : zS) : Prop := VR (st 1) (st 2) (st 3) (st 4) (st 5) (st 6) (st 7) (st 8) (st 9) (st 10) (st 11) (st 12) (st 13) (st 14) (st 15) (st 16) (st 86)
def Rkept (st : zS) : Prop := st 0 2 = st 85 3 ∧ (st 0 2 = 0 ∨ (st 0 2 = 1 ∧ VR (st 18) (st 19) (st 20) (st 21) (st 22) (st 23) (st 24) (st 25) (st 26) (st 27) (st 28) (st 29) (st 30) (st 31) (st 32) (st 33) (st 87)))
def Rrows (st : zS) : Prop := st 0 8 = st 85 15 ∧ st 0 8 = Int32.ofNat (st 0 8).toNatClampNeg ∧ (st 0 8).toNatClampNeg ≤ 9 ∧ ∀ i, i < (st 0 8).toNatClampNeg → ∀ w, w < 3 → st (57 + i) w = st 93 (3 * i + w)
def Rsheet (st : zS) : Prop := ∀ q, q < 4 → st 66 q = st 95 q ∧ (-1 ≤ (st 66 q).toInt ∧ (st 66 q).toInt ≤ 4) ∧ (st 66 q ≠ -1 → st 67 q = st 96 q ∧ (0 ≤ (st 67 q).toInt ∧ (st 67 q).toInt ≤ 40) ∧ ∀ i, i < 40 → st (69 + q) i = st 97 (40 * q + i))
def Rshelf (st : zS) : Prop := ∀ q, q < 4 → (st 73 q = 2 ∧ st 98 q = 0) ∨ (st 73 q = 0 ∧ st 98 q = 1 ∧ st 74 q = st 99 q) ∨ (st 73 q = 1 ∧ st 98 q = 2 ∧ st 74 q = st 100 q ∧ st 75 q = st 99 q)
def Rtrace (st : zS) : Prop := st 76 0 = st 85 31 ∧ st 76 0 = Int32.ofNat (st 76 0).toNatClampNeg ∧ (st 76 0).toNatClampNeg ≤ 20 ∧ ∀ i, i < (st 76 0).toNatClampNeg → st 77 i = st 101 i
def Rtape (st : zS) : Prop := st 35 0 = st 85 17 ∧ st 35 0 = Int32.ofNat (st 35 0).toNatClampNeg ∧ (st 35 0).toNatClampNeg ≤ 200 ∧ ∀ i, i < (st 35 0).toNatClampNeg → (0 ≤ (st 94 i).toInt ∧ (st 94 i).toInt ≤ 255) ∧ (st 36 i).toInt = if (st 94 i).toInt < 128 then (st 94 i).toInt else (st 94 i).toInt - 256
def Rel (st : zS) : Prop := Rnow st ∧ Rkept st ∧ Rrows st ∧ Rsheet st ∧ Rshelf st ∧ Rtrace st ∧ Rtape st
theorem fr_of {cs : List Nat} {st st' : zS} (f : fr cs st st') (p : Nat → Bool) (hc : (cs.all fun c => !(p c)) = true) (i : Nat) (hi : p i = true) : st' i = st i := by
  apply f
  cases q : cs.elem i with
  | false => rfl
  | true =>
    have hm : i ∈ cs := by simpa [List.elem_eq_contains, List.contains_iff_mem] using q
    have := List.all_eq_true.mp hc i hm
    rw [hi] at this
    cases this
theorem Rnow_fr {cs : List Nat} {st st' : zS} (f : fr cs st st') (hc : (cs.all fun c => !(Nat.beq c 86 || (Nat.ble 1 c && Nat.ble c 16))) = true) (h : Rnow st) : Rnow st' := by
  have g := fr_of f (fun c => Nat.beq c 86 || (Nat.ble 1 c && Nat.ble c 16)) hc
  unfold Rnow at h ⊢
  rw [g 1 rfl, g 2 rfl, g 3 rfl, g 4 rfl, g 5 rfl, g 6 rfl, g 7 rfl, g 8 rfl, g 9 rfl, g 10 rfl, g 11 rfl, g 12 rfl, g 13 rfl, g 14 rfl, g 15 rfl, g 16 rfl, g 86 rfl]
  exact h
theorem Rkept_fr {cs : List Nat} {st st' : zS} (f : fr cs st st') (hc : (cs.all fun c => !(Nat.beq c 87 || (Nat.ble 18 c && Nat.ble c 33))) = true) (h0 : st' 0 2 = st 0 2) (h85 : st' 85 3 = st 85 3) (h : Rkept st) : Rkept st' := by
  have g := fr_of f (fun c => Nat.beq c 87 || (Nat.ble 18 c && Nat.ble c 33)) hc
  unfold Rkept at h ⊢
  rw [h0, h85, g 18 rfl, g 19 rfl, g 20 rfl, g 21 rfl, g 22 rfl, g 23 rfl, g 24 rfl, g 25 rfl, g 26 rfl, g 27 rfl, g 28 rfl, g 29 rfl, g 30 rfl, g 31 rfl, g 32 rfl, g 33 rfl, g 87 rfl]
  exact h
theorem Rrows_fr {cs : List Nat} {st st' : zS} (f : fr cs st st') (hc : (cs.all fun c => !(Nat.beq c 93 || (Nat.ble 57 c && Nat.ble c 65))) = true) (h0 : st' 0 8 = st 0 8) (h85 : st' 85 15 = st 85 15) (h : Rrows st) : Rrows st' := by
  have g := fr_of f (fun c => Nat.beq c 93 || (Nat.ble 57 c && Nat.ble c 65)) hc
  obtain ⟨a, b, c, e⟩ := h
  unfold Rrows
  rw [h0, h85, g 93 rfl]
  refine ⟨a, b, c, fun i hi w hw => ?_⟩
  rw [g (57 + i) (by simp; omega)]
  exact e i hi w hw
theorem Rsheet_fr {cs : List Nat} {st st' : zS} (f : fr cs st st') (hc : (cs.all fun c => !(Nat.beq c 66 || Nat.beq c 67 || (Nat.ble 69 c && Nat.ble c 72) || (Nat.ble 95 c && Nat.ble c 97))) = true) (h : Rsheet st) : Rsheet st' := by
  have g := fr_of f (fun c => Nat.beq c 66 || Nat.beq c 67 || (Nat.ble 69 c && Nat.ble c 72) || (Nat.ble 95 c && Nat.ble c 97)) hc
  intro q hq
  rw [g 66 rfl, g 67 rfl, g 95 rfl, g 96 rfl, g 97 rfl, g (69 + q) (by simp; omega)]
  exact h q hq
theorem Rshelf_fr {cs : List Nat} {st st' : zS} (f : fr cs st st') (hc : (cs.all fun c => !((Nat.ble 73 c && Nat.ble c 75) || (Nat.ble 98 c && Nat.ble c 100))) = true) (h : Rshelf st) : Rshelf st' := by
  have g := fr_of f (fun c => (Nat.ble 73 c && Nat.ble c 75) || (Nat.ble 98 c && Nat.ble c 100)) hc
  intro q hq
  rw [g 73 rfl, g 74 rfl, g 75 rfl, g 98 rfl, g 99 rfl, g 100 rfl]
  exact h q hq
theorem Rtrace_fr {cs : List Nat} {st st' : zS} (f : fr cs st st') (hc : (cs.all fun c => !(Nat.beq c 76 || Nat.beq c 77 || Nat.beq c 101)) = true) (h85 : st' 85 31 = st 85 31) (h : Rtrace st) : Rtrace st' := by
  have g := fr_of f (fun c => Nat.beq c 76 || Nat.beq c 77 || Nat.beq c 101) hc
  unfold Rtrace at h ⊢
  rw [h85, g 76 rfl, g 77 rfl, g 101 rfl]
  exact h
theorem Rtape_fr {cs : List Nat} {st st' : zS} (f : fr cs st st') (hc : (cs.all fun c => !(Nat.beq c 36 || Nat.beq c 94)) = true) (h35 : st' 35 0 = st 35 0) (h85 : st' 85 17 = st 85 17) (h : Rtape st) : Rtape st' := by
  have g := fr_of f (fun c => Nat.beq c 36 || Nat.beq c 94) hc
  unfold Rtape at h ⊢
  rw [h35, h85, g 36 rfl, g 94 rfl]
  exact h
/-- nothing has changed of which anything is remembered -/
def scr (st st' : zS) : Prop := fr [17, 44, 45, 46, 47, 48, 49, 50, 51, 52, 53, 54, 55, 85, 88, 89, 90, 91, 92] st st' ∧ st' 85 3 = st 85 3 ∧ st' 85 15 = st 85 15 ∧ st' 85 17 = st 85 17 ∧ st' 85 31 = st 85 31
theorem scr_refl (st : zS) : scr st st := ⟨fr_refl _ _, rfl, rfl, rfl, rfl⟩
theorem scr_tr {a b c : zS} (h : scr a b) (g : scr b c) : scr a c := ⟨fr_mono (fr_tr h.1 g.1) (by decide), g.2.1.trans h.2.1, g.2.2.1.trans h.2.2.1, g.2.2.2.1.trans h.2.2.2.1, g.2.2.2.2.trans h.2.2.2.2⟩
theorem scr_fr {cs : List Nat} {st st' : zS} (f : fr cs st st') (hc : (cs.all fun c => [17, 44, 45, 46, 47, 48, 49, 50, 51, 52, 53, 54, 55, 88, 89, 90, 91, 92].elem c) = true) : scr st st' := by
  have e : st' 85 = st 85 := by
    apply f
    cases q : cs.elem 85 with
    | false => rfl
    | true =>
      have hm : 85 ∈ cs := by simpa [List.elem_eq_contains, List.contains_iff_mem] using q
      have := List.all_eq_true.mp hc 85 hm
      cases this
  refine ⟨fr_mono f ?_, by rw [e], by rw [e], by rw [e], by rw [e]⟩
  rw [List.all_eq_true] at hc ⊢
  intro c hm
  have := hc c hm
  simp only [List.elem_eq_contains, List.contains_iff_mem, List.mem_cons, List.not_mem_nil, or_false] at this ⊢
  omega
theorem scr_M {st st' : zS} (f : fM st st') : scr st st' := ⟨fr_mono f.1 (by decide), f.2 3 (by decide) (by decide), f.2 15 (by decide) (by decide), f.2 17 (by decide) (by decide), f.2 31 (by decide) (by decide)⟩
theorem Rel_scr {st st' : zS} (h : Rel st) (f : scr st st') : Rel st' := by
  obtain ⟨a, b, c, d, e, g, i⟩ := h
  obtain ⟨f, f3, f15, f17, f31⟩ := f
  have e0 : st' 0 = st 0 := f 0 rfl
  have e35 : st' 35 = st 35 := f 35 rfl
  exact ⟨Rnow_fr f rfl a, Rkept_fr f rfl (by rw [e0]) f3 b, Rrows_fr f rfl (by rw [e0]) f15 c, Rsheet_fr f rfl d, Rshelf_fr f rfl e, Rtrace_fr f rfl f31 g, Rtape_fr f rfl (by rw [e35]) f17 i⟩
theorem Rnow_CN {st : zS} (h : Rnow st) : CN st (st 86) := by
  obtain ⟨v, b, f, t, w, _, _⟩ := h
  exact ⟨b, f.1, v.1, t, w, v.2.1, v.2.2.1⟩
/-- a call that only asks: both answer the same of the model's row -/
theorem lw_ask {kx km : Nat} {as : List Value} (r : (Nat → Int32) → Int32) (hx : ∀ st, Rel st → RT (m_evc 2047 kx (.ref 0 :: as) (SH, st)) (some (.int (r (st 86)))) (scr st)) (hm : ∀ st, Rel st → RT (m_evc 2047 km (.ref 85 :: as) (SH, st)) (some (.int (r (st 86)))) (scr st)) : lw_C Rel kx km as := by
  intro st hR
  obtain ⟨st1, e1, f1⟩ := hx st hR
  have hR1 := Rel_scr hR f1
  obtain ⟨st2, e2, f2⟩ := hm st1 hR1
  have e86 : st1 86 = st 86 := f1.1 86 rfl
  rw [e86] at e2
  exact ⟨r (st 86), st1, st2, e1, e2, Rel_scr hR1 f2⟩
/-! what is asked of numbers that are told -/
abbrev gT (s : Nat → Int32) (x : Int32) : Prop := 0 ≤ x.toInt ∧ x.toInt < (tn s : Int)
abbrev gR (lo hi : Int) (x : Int32) : Prop := lo ≤ x.toInt ∧ x.toInt ≤ hi
theorem gT_n {s : Nat → Int32} {x : Int32} (h : gT s x) : x = Int32.ofNat x.toNatClampNeg ∧ x.toNatClampNeg < tn s := by
  have h0 : (0 : Int32) ≤ x := by rw [i_le]; exact h.1
  obtain ⟨a, b, c⟩ := n_of h0
  have := h.2
  exact ⟨a, by omega⟩
theorem gR_n {lo hi : Int} {x : Int32} (h : gR lo hi x) (hl : 0 ≤ lo) : x = Int32.ofNat x.toNatClampNeg ∧ (x.toNatClampNeg : Int) ≤ hi ∧ lo ≤ (x.toNatClampNeg : Int) := by
  have h0 : (0 : Int32) ≤ x := by rw [i_le]; exact Int.le_trans hl h.1
  obtain ⟨a, b, c⟩ := n_of h0
  have h1 := h.2
  have h2 := h.1
  exact ⟨a, by omega, by omega⟩
theorem s_inb (d : Nat) (st : zS) (x : Int32) (lo hi : Int64) : m_evc (d + 1) 155 [.long x.toInt64, .long lo, .long hi] (SH, st) = some (some (.int (bZ (lo.toInt ≤ x.toInt ∧ x.toInt ≤ hi.toInt))), (SH, st)) := by
  rw [s_in]
  have e : (lo ≤ x.toInt64 ∧ x.toInt64 ≤ hi) ↔ (lo.toInt ≤ x.toInt ∧ x.toInt ≤ hi.toInt) := by
    simp only [Int64.le_iff_toInt_le, Int32.toInt_toInt64]
  by_cases h : lo.toInt ≤ x.toInt ∧ x.toInt ≤ hi.toInt
  · rw [if_pos (e.mpr h), bZ_t h]
  · rw [if_neg (fun z => h (e.mp z)), bZ_f h]
