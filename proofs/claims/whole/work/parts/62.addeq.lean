/-! CALLS: bestAdd -/
theorem fcs_a {s t : Nat → Int32} {k i : Nat} (h : ∀ j, j ≠ 13 + 6 * k → s j = t j) (h2 : ∀ d, 5 + d ≠ 13 + 6 * k ∨ 7 ≤ d) (hw : (s 2).toNatClampNeg < 7) (hi : i ≠ k) : fcs s i = fcs t i := by
  funext j
  match j with
  | 0 => exact h 2 (by omega)
  | 1 => show s (5 + (s 2).toNatClampNeg) + 3 = t (5 + (t 2).toNatClampNeg) + 3; rw [← h 2 (by omega), h _ (by omega)]
  | 2 => exact h _ (by omega)
  | 3 => exact h _ (by omega)
  | 4 => exact h _ (by omega)
  | _ + 5 => rfl
theorem rof_a {s t : Nat → Int32} {k i : Nat} (h : ∀ j, j ≠ 13 + 6 * k → s j = t j) (hk : k < 9) (hw : (s 2).toNatClampNeg < 7) (hi : i ≠ k) : rof s i = rof t i := by
  unfold rof
  rw [fcs_a h (fun d => by omega) hw hi, h (12 + 6 * i) (by omega), h 4 (by omega), ruf_cs (fun j hj => h j (by omega))]
theorem ads_a {s t : Nat → Int32} {k i : Nat} (h : ∀ j, j ≠ 13 + 6 * k → s j = t j) (hk : k < 9) (hw : (s 2).toNatClampNeg < 7) (hi : i ≠ k) : ads s i = ads t i := by
  unfold ads
  rw [rof_a h hk hw hi]
  have e : ab s i (rof t i) = ab t i (rof t i) := by
    unfold ab
    cases rof t i with
    | none => exact h _ (by omega)
    | some r => simp only [h (79 + 4 * r) (by omega), h (80 + 4 * r) (by omega), h (13 + 6 * i) (by omega), h (15 + 6 * i) (by omega)]
  rw [e]
  unfold aw
  rw [h (12 + 6 * i) (by omega), h 2 (by omega), h (14 + 6 * i) (by omega)]
theorem sil_a {s t : Nat → Int32} {k i : Nat} (h : ∀ j, j ≠ 13 + 6 * k → s j = t j) (hk : k < 9) (hw : (s 2).toNatClampNeg < 7) (hi : i ≠ k) : sil s i = sil t i := by
  unfold sil
  rw [rof_a h hk hw hi]
  unfold slw
  cases rof t i with
  | none => rfl
  | some r => simp only [h (79 + 4 * r) (by omega)]
theorem pw_a {s t : Nat → Int32} {k : Nat} (h : ∀ j, j ≠ 13 + 6 * k → s j = t j) (hw : (s 2).toNatClampNeg < 7) : pw s = pw t := by
  unfold pw; rw [← h 2 (by omega), h _ (by omega)]
theorem pe_a {s t : Nat → Int32} {k : Nat} (h : ∀ j, j ≠ 13 + 6 * k → s j = t j) (hw : (s 2).toNatClampNeg < 7) : pe s = pe t := by
  unfold pe; rw [← h 2 (by omega), h _ (by omega)]
theorem arr_a {s t : Nat → Int32} {k i : Nat} (h : ∀ j, j ≠ 13 + 6 * k → s j = t j) (hk : k < 9) (hw : (s 2).toNatClampNeg < 7) (hi : i ≠ k) (m g : Int32) : arr s i m g = arr t i m g := by
  unfold arr; rw [h (12 + 6 * i) (by omega), ads_a h hk hw hi]
theorem wst_a {s t : Nat → Int32} {k : Nat} (h : ∀ j, j ≠ 13 + 6 * k → s j = t j) (hk : k < 9) (hw : (s 2).toNatClampNeg < 7) (b q : Nat → Bool) (x : Int32) : ∀ i, i < k → wst s b q x i = wst t b q x i
  | 0, _ => rfl
  | i + 1, hi => by
    unfold wst
    rw [wst_a h hk hw b q x i (by omega), pw_a h hw, sil_a h hk hw (show i ≠ k by omega), h (14 + 6 * i) (by omega), h (15 + 6 * (i + 1)) (by omega)]
    simp only [arr_a h hk hw (show i + 1 ≠ k by omega)]
theorem est_a {s t : Nat → Int32} {k fm : Nat} (h : ∀ j, j ≠ 13 + 6 * k → s j = t j) (hk : k < 9) (hw : (s 2).toNatClampNeg < 7) (x : Int32) : ∀ i, k + i < fm → est s fm x i = est t fm x i
  | 0, _ => rfl
  | i + 1, hi => by
    unfold est
    rw [est_a h hk hw x i (by omega), pe_a h hw, sil_a h hk hw (show fm - i ≠ k by omega), h (14 + 6 * (fm - i)) (by omega), h (15 + 6 * (fm - i)) (by omega)]
    simp only [arr_a h hk hw (show fm - i - 1 ≠ k by omega)]
def addo (o : cH) (a : Int32) : cH := match o with
  | none => none
  | some ch => some (ch.1, ch.2 + a)
def arr0 (s : Nat → Int32) (k : Nat) (m h : Int32) : cH := if s (12 + 6 * k) = 5 ∧ m < 360 then none else some (m, h)
theorem arr_0 (s : Nat → Int32) (k : Nat) (m h : Int32) : arr s k m h = addo (arr0 s k m h) (ads s k) := by
  unfold arr arr0
  by_cases q : s (12 + 6 * k) = 5 ∧ m < 360
  · rw [if_pos q, if_pos q]; rfl
  · rw [if_neg q, if_neg q]; rfl
theorem addo_nxt (o : cH) (p : Prop) [Decidable p] (m : Int32 → Int32) (s : Nat → Int32) (k : Nat) : nxt o (fun c h => if p then none else arr s k (m c) h) = addo (nxt o (fun c h => if p then none else arr0 s k (m c) h)) (ads s k) := by
  cases o with
  | none => rfl
  | some ch =>
    show (if p then none else arr s k (m ch.1) ch.2) = addo (if p then none else arr0 s k (m ch.1) ch.2) (ads s k)
    by_cases q : p
    · rw [if_pos q, if_pos q]; rfl
    · rw [if_neg q, if_neg q, arr_0]
theorem bth_add {s t : Nat → Int32} {k fm : Nat} (h : ∀ j, j ≠ 13 + 6 * k → s j = t j) (hk : k < 9) (hw : (s 2).toNatClampNeg < 7) (hf : k ≠ fm) (x : Int32) : ∃ o, bth s fm x k = addo o (ads s k) ∧ bth t fm x k = addo o (ads t k) := by
  unfold bth
  by_cases q : fm ≤ k
  · obtain ⟨j, rfl⟩ : ∃ j, k = j + 1 := ⟨k - 1, by omega⟩
    rw [if_pos q, if_pos q]
    unfold wes
    rw [wst_nob (isb_lt (show j + 1 ≠ fm by omega)), wst_nob (isb_lt (show j + 1 ≠ fm by omega)), ← wst_a h hk hw (isb fm) nob x j (by omega), ← sil_a h hk hw (show j ≠ j + 1 by omega), ← pw_a h hw, ← h (14 + 6 * j) (by omega), ← h (15 + 6 * (j + 1)) (by omega)]
    refine ⟨_, addo_nxt (wst s (isb fm) nob x j) (sil s j = true ∧ isb fm j = false) (fun c => (c + (if isb fm j = true then 0 else s (14 + 6 * j))) + s (15 + 6 * (j + 1)) * pw s) s (j + 1), ?_⟩
    rw [addo_nxt (wst s (isb fm) nob x j) (sil s j = true ∧ isb fm j = false) (fun c => (c + (if isb fm j = true then 0 else s (14 + 6 * j))) + s (15 + 6 * (j + 1)) * pw s) t (j + 1)]
    have : arr0 t (j + 1) = arr0 s (j + 1) := by
      funext m g
      unfold arr0; rw [h (12 + 6 * (j + 1)) (by omega)]
    rw [this]
  · rw [if_neg q, if_neg q]
    unfold eas
    rw [if_pos (by omega), if_pos (by omega), est_st (show k + 1 ≤ fm by omega), est_st (show k + 1 ≤ fm by omega), ← est_a h hk hw x (fm - (k + 1)) (by omega), ← sil_a h hk hw (show k + 1 ≠ k by omega), ← pe_a h hw, ← h (14 + 6 * (k + 1)) (by omega), ← h (15 + 6 * (k + 1)) (by omega)]
    refine ⟨_, addo_nxt (est s fm x (fm - (k + 1))) (sil s (k + 1) = true ∧ isb fm (k + 1) = false) (fun c => (c + (if isb fm (k + 1) = true then 0 else s (14 + 6 * (k + 1)))) + s (15 + 6 * (k + 1)) * pe s) s k, ?_⟩
    rw [addo_nxt (est s fm x (fm - (k + 1))) (sil s (k + 1) = true ∧ isb fm (k + 1) = false) (fun c => (c + (if isb fm (k + 1) = true then 0 else s (14 + 6 * (k + 1)))) + s (15 + 6 * (k + 1)) * pe s) t k]
    have : arr0 t k = arr0 s k := by
      funext m g
      unfold arr0; rw [h (12 + 6 * k) (by omega)]
    rw [this]
/-- the farthest over the days -/
def faX (D : Nat → cH) (d : Nat) (a : Int32) : Int32 := match D d with
  | none => a
  | some ch => if a < ab1 (ch.2 - ch.1) then ab1 (ch.2 - ch.1) else a
def dsO (o : cH) : Int32 := match o with
  | none => -1
  | some ch => ab1 (ch.2 - ch.1)
def faM (D : Nat → cH) (d : Nat) (a : Int32) : Int32 := if a < dsO (D d) then dsO (D d) else a
theorem fa_eq (D : Nat → cH) : ∀ (m j : Nat) (a b : Int32), (∀ i, j ≤ i → i < j + m → ∀ ch, D i = some ch → 0 ≤ (ab1 (ch.2 - ch.1)).toInt ∧ (ab1 (ch.2 - ch.1)).toInt ≤ 50000) → (-1 ≤ b.toInt ∧ b.toInt ≤ 50000) → a = (if b < 0 then 0 else b) → lp (faX D) m j a = (if lp (faM D) m j b < 0 then 0 else lp (faM D) m j b) ∧ (-1 ≤ (lp (faM D) m j b).toInt ∧ (lp (faM D) m j b).toInt ≤ 50000) ∧ ((0 ≤ b.toInt ∨ ∃ i, j ≤ i ∧ i < j + m ∧ (D i).isSome = true) → 0 ≤ (lp (faM D) m j b).toInt) ∧ ((b = -1 ∧ ∀ i, j ≤ i → i < j + m → D i = none) → lp (faM D) m j b = -1)
  | 0, j, a, b, hD, hb, h => by
    refine ⟨h, hb, fun q => ?_, fun q => q.1⟩
    rcases q with q | ⟨i, i1, i2, _⟩
    · exact q
    · omega
  | m + 1, j, a, b, hD, hb, h => by
    have key : faX D j a = (if faM D j b < 0 then 0 else faM D j b) ∧ (-1 ≤ (faM D j b).toInt ∧ (faM D j b).toInt ≤ 50000) ∧ b.toInt ≤ (faM D j b).toInt ∧ ((D j).isSome = true → 0 ≤ (faM D j b).toInt) ∧ (D j = none → faM D j b = b) := by
      unfold faX faM dsO
      cases e : D j with
      | none =>
        have hn : ¬ b < -1 := by rw [i_lt, t_m1]; omega
        simp only [if_neg hn]
        exact ⟨h, hb, Int.le_refl _, fun z => by (cases z), fun _ => trivial⟩
      | some ch =>
        obtain ⟨g1, g2⟩ := hD j (Nat.le_refl j) (by omega) ch e
        have hx : ¬ ab1 (ch.2 - ch.1) < 0 := by rw [i_lt, t_0]; omega
        simp only
        by_cases q : b < ab1 (ch.2 - ch.1)
        · rw [if_pos q, if_neg hx]
          rw [i_lt] at q
          refine ⟨?_, ⟨by omega, g2⟩, by omega, fun _ => g1, fun z => by cases z⟩
          rw [h]
          by_cases z : b < 0
          · rw [if_pos z]
            by_cases w : (0 : Int32) < ab1 (ch.2 - ch.1)
            · rw [if_pos w]
            · rw [if_neg w]
              apply Int32.toInt_inj.mp
              rw [i_lt, t_0] at w
              rw [t_0]; omega
          · rw [if_neg z, if_pos (by rw [i_lt]; exact q)]
        · rw [if_neg q]
          rw [i_lt] at q
          have hz : ¬ b < 0 := by rw [i_lt, t_0]; omega
          refine ⟨?_, hb, Int.le_refl _, fun _ => by omega, fun z => by (cases z)⟩
          rw [h, if_neg hz, if_neg (by rw [i_lt]; exact q)]
    obtain ⟨k1, k2, k3, k4, k5⟩ := key
    obtain ⟨r1, r2, r3, r4⟩ := fa_eq D m (j + 1) _ _ (fun i i1 i2 => hD i (by omega) (by omega)) k2 k1
    refine ⟨r1, r2, fun q => r3 ?_, fun q => r4 ⟨?_, fun i i1 i2 => q.2 i (by omega) (by omega)⟩⟩
    · rcases q with q | ⟨i, i1, i2, i3⟩
      · exact Or.inl (by omega)
      · by_cases w : i = j
        · subst w; exact Or.inl (k4 i3)
        · exact Or.inr ⟨i, by omega, by omega, i3⟩
    · rw [k5 (q.2 j (Nat.le_refl j) (by omega))]; exact q.1
def bX (F : Nat → Int32) (d : Nat) (a : Int32 × Int32) : Int32 × Int32 := if a.1 = -3 ∨ F d < a.2 then (Int32.ofNat d, F d) else a
def bM (F : Nat → Int32) (d : Nat) (a : Int32 × Int32) : Int32 × Int32 := if F d < 0 then a else if a.1 < 0 ∨ F d < a.2 then (Int32.ofNat d, F d) else a
theorem bX_eq (F : Nat → Int32) : ∀ (m j : Nat) (a b : Int32 × Int32), j + m < 1000 → (∀ i, j ≤ i → i < j + m → 0 ≤ (F i).toInt ∧ (F i).toInt ≤ 50000) → ((a.1 = -3 ∧ b.1 = -1) ∨ (a = b ∧ 0 ≤ b.1.toInt)) → (if (lp (bM F) m j b).1 < 0 then (-3 : Int32) else (lp (bM F) m j b).1) = (lp (bX F) m j a).1
  | 0, j, a, b, hj, hb, h => by
    show (if b.1 < 0 then (-3 : Int32) else b.1) = a.1
    rcases h with ⟨h1, h2⟩ | ⟨h1, h2⟩
    · rw [h1, h2, if_pos n_neg1]
    · rw [if_neg (by rw [i_lt, t_0]; omega), h1]
  | m + 1, j, a, b, hj, hb, h => by
    show (if (lp (bM F) m (j + 1) (bM F j b)).1 < 0 then (-3 : Int32) else (lp (bM F) m (j + 1) (bM F j b)).1) = (lp (bX F) m (j + 1) (bX F j a)).1
    apply bX_eq F m (j + 1) _ _ (by omega) (fun i i1 i2 => hb i (by omega) (by omega))
    obtain ⟨d1, d2⟩ := hb j (Nat.le_refl j) (by omega)
    have hn : 0 ≤ (Int32.ofNat j).toInt := by rw [n_int (by omega)]; omega
    have hF : ¬ F j < 0 := by rw [i_lt, t_0]; omega
    unfold bM bX
    rw [if_neg hF]
    rcases h with ⟨h1, h2⟩ | ⟨h1, h2⟩
    · rw [if_pos (show b.1 < 0 ∨ F j < b.2 from Or.inl (by rw [h2]; exact n_neg1)), if_pos (show a.1 = -3 ∨ F j < a.2 from Or.inl h1)]
      exact Or.inr ⟨rfl, hn⟩
    · subst h1
      by_cases q : F j < a.2
      · rw [if_pos (show a.1 < 0 ∨ F j < a.2 from Or.inr q), if_pos (show a.1 = -3 ∨ F j < a.2 from Or.inr q)]
        exact Or.inr ⟨rfl, hn⟩
      · rw [if_neg (show ¬ (a.1 < 0 ∨ F j < a.2) from fun z => z.elim (fun y => by rw [i_lt, t_0] at y; omega) q), if_neg (show ¬ (a.1 = -3 ∨ F j < a.2) from fun z => z.elim (i_m3 h2) q)]
        exact Or.inr ⟨rfl, h2⟩
theorem bM_no (F : Nat → Int32) : ∀ (m j : Nat) (b : Int32 × Int32), (∀ i, j ≤ i → i < j + m → F i < 0) → lp (bM F) m j b = b
  | 0, _, _, _ => rfl
  | m + 1, j, b, h => by
    show lp (bM F) m (j + 1) (bM F j b) = b
    have : bM F j b = b := by unfold bM; rw [if_pos (h j (Nat.le_refl j) (by omega))]
    rw [this]
    exact bM_no F m (j + 1) b (fun i i1 i2 => h i (by omega) (by omega))
def anB (B : Nat → cH) (d : Nat) (b : Bool) : Bool := b || (B d).isSome
theorem an_iff (B : Nat → cH) : ∀ (m j : Nat) (b : Bool), (lp (anB B) m j b = true) ↔ (b = true ∨ ∃ i, j ≤ i ∧ i < j + m ∧ (B i).isSome = true)
  | 0, j, b => by
    show b = true ↔ _
    refine ⟨Or.inl, fun h => ?_⟩
    rcases h with h | ⟨i, i1, i2, _⟩
    · exact h
    · omega
  | m + 1, j, b => by
    show (lp (anB B) m (j + 1) (anB B j b) = true) ↔ _
    rw [an_iff B m (j + 1) (anB B j b)]
    unfold anB
    rw [Bool.or_eq_true]
    constructor
    · intro h
      rcases h with (h | h) | ⟨i, i1, i2, i3⟩
      · exact Or.inl h
      · exact Or.inr ⟨j, Nat.le_refl j, by omega, h⟩
      · exact Or.inr ⟨i, by omega, by omega, i3⟩
    · intro h
      rcases h with h | ⟨i, i1, i2, i3⟩
      · exact Or.inl (Or.inl h)
      · by_cases q : i = j
        · subst q; exact Or.inl (Or.inr i3)
        · exact Or.inr ⟨i, by omega, by omega, i3⟩
def bB (s : Nat → Int32) (fm : Nat) (t : Int32) (k d : Nat) : cH := bth (sd s d) fm t k
def bD (s : Nat → Int32) (fm : Nat) (t : Int32) (k v d : Nat) : cH := bth (sd (chg s (13 + 6 * k) (Int32.ofNat v)) d) fm t k
def a_bestAdd (x1 x2 x3 : Int32) (s : Nat → Int32) : Int32 := if (gT s x2 ∧ TG x3 ∧ gT s x1) ∧ ¬ x1 = x2 then (if lp (anB (bB s x2.toNatClampNeg x3 x1.toNatClampNeg)) 7 0 false = true then (lp (bX (fun v => lp (faX (bD s x2.toNatClampNeg x3 x1.toNatClampNeg v)) 7 0 0)) 100 0 (-3, 0)).1 else -3) else -1
theorem bBD {s : Nat → Int32} {k fm v d : Nat} (hk : k < 9) (hd : d < 7) (hf : k ≠ fm) (t : Int32) : ∃ o, bB s fm t k d = addo o (ads (sd s d) k) ∧ bD s fm t k v d = addo o (ads (sd (chg s (13 + 6 * k) (Int32.ofNat v)) d) k) := by
  unfold bB bD
  refine bth_add (fun j hj => ?_) hk (by rw [sd_2, n_nat (by omega)]; exact hd) hf t
  by_cases q : j = 2
  · subst q; rfl
  · rw [sd_ne q, sd_ne q, chg_ne hj]
theorem addo_s (o : cH) (a : Int32) : (addo o a).isSome = o.isSome := by cases o <;> rfl
theorem i_ring (h a b c : Int32) : ((h + a) - c - a) + b = (h + b) - c := by
  rw [Int32.sub_eq_add_neg, Int32.sub_eq_add_neg, Int32.sub_eq_add_neg, Int32.add_assoc h a, Int32.add_comm a (-c), ← Int32.add_assoc h (-c) a, Int32.add_assoc (h + -c) a (-a), Int32.add_right_neg, Int32.add_zero, Int32.add_assoc h (-c) b, Int32.add_comm (-c) b, Int32.add_assoc]
