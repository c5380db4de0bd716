/-! TOOLS: truths as numbers, numbers as places, rows that stay, loops -/
abbrev zS : Type := Nat → Nat → Int32
def bZ (p : Prop) [Decidable p] : Int32 := if p then 1 else 0
theorem bZ_t {p : Prop} [Decidable p] (h : p) : bZ p = 1 := by unfold bZ; rw [if_pos h]
theorem bZ_f {p : Prop} [Decidable p] (h : ¬ p) : bZ p = 0 := by unfold bZ; rw [if_neg h]
theorem i_10 : ¬ (1 : Int32) = 0 := by decide
theorem bZ_if {α : Sort _} (p : Prop) [Decidable p] (a b : α) : (if bZ p = 0 then a else b) = if p then b else a := by
  by_cases h : p
  · rw [bZ_t h, if_pos h, if_neg i_10]
  · rw [bZ_f h, if_neg h, if_pos rfl]
theorem bZ_ok (p : Prop) [Decidable p] : (bZ p = 0 ∨ bZ p = 1) = True := by
  by_cases h : p
  · simp [bZ_t h]
  · simp [bZ_f h]
theorem bZ_c {p q : Prop} [Decidable p] [Decidable q] (h : p ↔ q) : bZ p = bZ q := by
  by_cases hp : p
  · rw [bZ_t hp, bZ_t (h.mp hp)]
  · rw [bZ_f hp, bZ_f (fun c => hp (h.mpr c))]
theorem ok_0 : ((0 : Int32) = 0 ∨ (0 : Int32) = 1) = True := by simp
theorem ok_1 : ((1 : Int32) = 0 ∨ (1 : Int32) = 1) = True := by simp
theorem i_lt (a b : Int32) : (a < b) = (a.toInt < b.toInt) := propext Int32.lt_iff_toInt_lt
theorem i_le (a b : Int32) : (a ≤ b) = (a.toInt ≤ b.toInt) := propext Int32.le_iff_toInt_le
theorem n_int {n : Nat} (h : n < 2147483648) : (Int32.ofNat n).toInt = (n : Int) := Int32.toInt_ofNat_of_lt h
theorem n_nat {n : Nat} (h : n < 2147483648) : (Int32.ofNat n).toNatClampNeg = n := by
  show (Int32.ofNat n).toInt.toNat = n
  rw [n_int h]; rfl
theorem n_lt {a b : Nat} (ha : a < 2147483648) (hb : b < 2147483648) : (Int32.ofNat a < Int32.ofNat b) = (a < b) := by
  rw [i_lt, n_int ha, n_int hb]; apply propext; omega
theorem n_le {a b : Nat} (ha : a < 2147483648) (hb : b < 2147483648) : (Int32.ofNat a ≤ Int32.ofNat b) = (a ≤ b) := by
  rw [i_le, n_int ha, n_int hb]; apply propext; omega
theorem n_eq {a b : Nat} (ha : a < 2147483648) (hb : b < 2147483648) : (Int32.ofNat a = Int32.ofNat b) = (a = b) := by
  apply propext
  constructor
  · intro h
    have := congrArg Int32.toInt h
    rw [n_int ha, n_int hb] at this
    omega
  · intro h; rw [h]
theorem n_pos (a : Nat) (ha : a < 2147483648) : (Int32.ofNat a < 0) = False := by
  rw [i_lt, n_int ha]; apply propext
  have : (0 : Int32).toInt = 0 := rfl
  rw [this]; constructor
  · intro h; omega
  · intro h; exact h.elim
theorem n_le0 (a : Nat) (ha : a < 2147483648) : ((0 : Int32) ≤ Int32.ofNat a) = True := by
  rw [i_le, n_int ha]; apply propext
  have : (0 : Int32).toInt = 0 := rfl
  rw [this]; constructor
  · intro _; trivial
  · intro _; omega
theorem n_succ (a : Nat) : Int32.ofNat a + 1 = Int32.ofNat (a + 1) := by rw [Int32.ofNat_add]; rfl
theorem n_add (a b : Nat) : Int32.ofNat a + Int32.ofNat b = Int32.ofNat (a + b) := (Int32.ofNat_add a b).symm
theorem n_mul (a b : Nat) : Int32.ofNat a * Int32.ofNat b = Int32.ofNat (a * b) := (Int32.ofNat_mul a b).symm
theorem n_pred (a : Nat) : Int32.ofNat (a + 1) - 1 = Int32.ofNat a := by
  rw [← n_succ]
  apply Int32.toBitVec_inj.mp
  simp
theorem n_predm (a : Nat) : Int32.ofNat (a + 1) + (-1) = Int32.ofNat a := by
  rw [← n_succ]
  apply Int32.toBitVec_inj.mp
  simp [BitVec.add_assoc]
theorem ix_n {j n : Nat} (h : j < n) (hn : n < 2147483648) : m_ix (Int32.ofNat j) n = some j := by
  unfold m_ix
  rw [n_nat (by omega), if_neg]
  intro q
  rcases q with q | q
  · rw [n_pos j (by omega)] at q; exact q
  · omega
theorem ix_9 {j : Nat} (h : j < 9) : m_ix (Int32.ofNat j) 9 = some j := ix_n h (by omega)
theorem ix_7 {j : Nat} (h : j < 7) : m_ix (Int32.ofNat j) 7 = some j := ix_n h (by omega)
theorem ix_8 {j : Nat} (h : j < 8) : m_ix (Int32.ofNat j) 8 = some j := ix_n h (by omega)
theorem ix_6 {j : Nat} (h : j < 6) : m_ix (Int32.ofNat j) 6 = some j := ix_n h (by omega)
theorem ix_4 {j : Nat} (h : j < 4) : m_ix (Int32.ofNat j) 4 = some j := ix_n h (by omega)
theorem ix_3 {j : Nat} (h : j < 3) : m_ix (Int32.ofNat j) 3 = some j := ix_n h (by omega)
theorem ix_27 {j : Nat} (h : j < 27) : m_ix (Int32.ofNat j) 27 = some j := ix_n h (by omega)
theorem ix_30 {j : Nat} (h : j < 30) : m_ix (Int32.ofNat j) 30 = some j := ix_n h (by omega)
theorem ix_40 {j : Nat} (h : j < 40) : m_ix (Int32.ofNat j) 40 = some j := ix_n h (by omega)
theorem ix_160 {j : Nat} (h : j < 160) : m_ix (Int32.ofNat j) 160 = some j := ix_n h (by omega)
theorem ix_200 {j : Nat} (h : j < 200) : m_ix (Int32.ofNat j) 200 = some j := ix_n h (by omega)
theorem ix_310 {j : Nat} (h : j < 310) : m_ix (Int32.ofNat j) 310 = some j := ix_n h (by omega)
/-- places in the model's row: of a tower -/
theorem ix_T {k w : Nat} (h : k < 9) (hw : w < 6) : m_ix ((12 + 6 * Int32.ofNat k) + Int32.ofNat w) 310 = some (12 + 6 * k + w) := by
  have e : (12 + 6 * Int32.ofNat k) + Int32.ofNat w = Int32.ofNat (12 + 6 * k + w) := by
    rw [show (12 : Int32) = Int32.ofNat 12 from rfl, show (6 : Int32) = Int32.ofNat 6 from rfl, n_mul, n_add, n_add]
  rw [e]
  exact ix_n (by omega) (by omega)
theorem ix_T0 {k : Nat} (h : k < 9) : m_ix ((12 + 6 * Int32.ofNat k) + 0) 310 = some (12 + 6 * k) := ix_T (w := 0) h (by omega)
theorem ix_T1 {k : Nat} (h : k < 9) : m_ix ((12 + 6 * Int32.ofNat k) + 1) 310 = some (13 + 6 * k) := by rw [show 13 + 6 * k = 12 + 6 * k + 1 by omega]; exact ix_T (w := 1) h (by omega)
theorem ix_T2 {k : Nat} (h : k < 9) : m_ix ((12 + 6 * Int32.ofNat k) + 2) 310 = some (14 + 6 * k) := by rw [show 14 + 6 * k = 12 + 6 * k + 2 by omega]; exact ix_T (w := 2) h (by omega)
theorem ix_T3 {k : Nat} (h : k < 9) : m_ix ((12 + 6 * Int32.ofNat k) + 3) 310 = some (15 + 6 * k) := by rw [show 15 + 6 * k = 12 + 6 * k + 3 by omega]; exact ix_T (w := 3) h (by omega)
theorem ix_T4 {k : Nat} (h : k < 9) : m_ix ((12 + 6 * Int32.ofNat k) + 4) 310 = some (16 + 6 * k) := by rw [show 16 + 6 * k = 12 + 6 * k + 4 by omega]; exact ix_T (w := 4) h (by omega)
theorem ix_T5 {k : Nat} (h : k < 9) : m_ix ((12 + 6 * Int32.ofNat k) + 5) 310 = some (17 + 6 * k) := by rw [show 17 + 6 * k = 12 + 6 * k + 5 by omega]; exact ix_T (w := 5) h (by omega)
theorem ix_W {d : Nat} (h : d < 7) : m_ix (5 + Int32.ofNat d) 310 = some (5 + d) := by
  rw [show (5 : Int32) = Int32.ofNat 5 from rfl, n_add]
  exact ix_n (by omega) (by omega)
theorem ix_C {i : Nat} (h : i < 200) : m_ix (110 + Int32.ofNat i) 310 = some (110 + i) := by
  rw [show (110 : Int32) = Int32.ofNat 110 from rfl, n_add]
  exact ix_n (by omega) (by omega)
theorem n_R (r w : Nat) : (78 + 4 * Int32.ofNat r) + Int32.ofNat w = Int32.ofNat (78 + 4 * r + w) := by
  rw [show (78 : Int32) = Int32.ofNat 78 from rfl, show (4 : Int32) = Int32.ofNat 4 from rfl, n_mul, n_add, n_add]
theorem ix_R {r w : Nat} (h : r < 8) (hw : w < 4) : m_ix ((78 + 4 * Int32.ofNat r) + Int32.ofNat w) 310 = some (78 + 4 * r + w) := by
  rw [n_R]
  exact ix_n (by omega) (by omega)
theorem ix_R0 {r : Nat} (h : r < 8) : m_ix ((78 + 4 * Int32.ofNat r) + 0) 310 = some (78 + 4 * r) := ix_R (w := 0) h (by omega)
theorem ix_R1 {r : Nat} (h : r < 8) : m_ix ((78 + 4 * Int32.ofNat r) + 1) 310 = some (79 + 4 * r) := by rw [show 79 + 4 * r = 78 + 4 * r + 1 by omega]; exact ix_R (w := 1) h (by omega)
theorem ix_R2 {r : Nat} (h : r < 8) : m_ix ((78 + 4 * Int32.ofNat r) + 2) 310 = some (80 + 4 * r) := by rw [show 80 + 4 * r = 78 + 4 * r + 2 by omega]; exact ix_R (w := 2) h (by omega)
theorem ix_R3 {r : Nat} (h : r < 8) : m_ix ((78 + 4 * Int32.ofNat r) + 3) 310 = some (81 + 4 * r) := by rw [show 81 + 4 * r = 78 + 4 * r + 3 by omega]; exact ix_R (w := 3) h (by omega)
/-- a number between two others is a natural one -/
theorem n_of {x : Int32} (h : (0 : Int32) ≤ x) : x = Int32.ofNat x.toNatClampNeg ∧ x.toNatClampNeg < 2147483648 ∧ x.toInt = (x.toNatClampNeg : Int) := by
  have h0 : (0 : Int) ≤ x.toInt := by rw [i_le] at h; exact h
  have h1 : x.toNatClampNeg = x.toInt.toNat := rfl
  have h2 : x.toInt < 2147483648 := Int32.toInt_lt x
  have h3 : x.toNatClampNeg < 2147483648 := by rw [h1]; omega
  refine ⟨?_, h3, by rw [h1]; omega⟩
  apply Int32.toInt_inj.mp
  rw [n_int h3, h1]; omega
/-- rows that stay -/
def fr (cs : List Nat) (st st' : zS) : Prop := ∀ i, (cs.elem i) = false → st' i = st i
theorem fr_refl (cs : List Nat) (st : zS) : fr cs st st := fun _ _ => rfl
theorem fr_tr {cs ds : List Nat} {a b c : zS} (h : fr cs a b) (g : fr ds b c) : fr (cs ++ ds) a c := by
  intro i hi
  have h1 : cs.elem i = false := by
    cases q : cs.elem i with
    | false => rfl
    | true =>
      have : (cs ++ ds).elem i = true := by
        simp only [List.elem_eq_contains, List.contains_iff_mem, List.mem_append] at q ⊢
        exact Or.inl q
      rw [this] at hi; cases hi
  have h2 : ds.elem i = false := by
    cases q : ds.elem i with
    | false => rfl
    | true =>
      have : (cs ++ ds).elem i = true := by
        simp only [List.elem_eq_contains, List.contains_iff_mem, List.mem_append] at q ⊢
        exact Or.inr q
      rw [this] at hi; cases hi
  rw [g i h2, h i h1]
theorem fr_mono {cs ds : List Nat} {a b : zS} (h : fr cs a b) (hs : (cs.all fun c => ds.elem c) = true) : fr ds a b := by
  intro i hi
  apply h
  cases q : cs.elem i with
  | false => rfl
  | true =>
    have hm : i ∈ cs := by simpa [List.elem_eq_contains, List.contains_iff_mem] using q
    have := List.all_eq_true.mp hs i hm
    rw [this] at hi; cases hi
theorem up_ne {st : zS} {i j : Nat} {v : Int32} {a : Nat} (h : a ≠ i) : m_up st i j v a = st a := by
  funext b; simp [m_up, h]
theorem up_in (st : zS) (i j : Nat) (v : Int32) : m_up st i j v i j = v := by simp [m_up]
theorem up_nj {st : zS} {i j : Nat} {v : Int32} {b : Nat} (h : b ≠ j) : m_up st i j v i b = st i b := by simp [m_up, h]
theorem fr_up {cs : List Nat} {a b : zS} {i j : Nat} {v : Int32} (h : fr cs a b) (hi : cs.elem i = true) : fr cs a (m_up b i j v) := by
  intro q hq
  rw [up_ne, h q hq]
  intro e; subst e; rw [hi] at hq; cases hq
theorem fr_up0 (st : zS) (i j : Nat) (v : Int32) : fr [i] st (m_up st i j v) := fr_up (fr_refl _ _) (by simp [List.elem_eq_contains])
/-- what a call or a run gives: the answer, and what holds of the numbers then -/
def RT (o : Option mF) (v : Option Value) (P : zS → Prop) : Prop := ∃ st', o = some (v, (SH, st')) ∧ P st'
theorem RT_mono {o : Option mF} {v : Option Value} {P Q : zS → Prop} (h : RT o v P) (g : ∀ s, P s → Q s) : RT o v Q := by
  obtain ⟨s, e, hp⟩ := h
  exact ⟨s, e, g s hp⟩
/-- a loop that counts up, its step a function -/
def lp {α : Type} (f : Nat → α → α) : Nat → Nat → α → α
  | 0, _, a => a
  | m + 1, j, a => lp f m (j + 1) (f j a)
theorem lp_ev {α β : Type} (F : Nat → α → β) (f : Nat → α → α) (n : Nat) (R : α → β) (hs : ∀ j a, j < n → F j a = F (j + 1) (f j a)) (he : ∀ a, F n a = R a) : ∀ m j a, j + m = n → F j a = R (lp f m j a)
  | 0, j, a, h => by
    have : j = n := by omega
    subst this; exact he a
  | m + 1, j, a, h => by
    rw [hs j a (by omega)]
    exact lp_ev F f n R hs he m (j + 1) (f j a) (by omega)
theorem lp_cg {α : Type} {f g : Nat → α → α} : ∀ (m j : Nat) (a : α), (∀ i a, j ≤ i → i < j + m → f i a = g i a) → lp f m j a = lp g m j a
  | 0, _, _, _ => rfl
  | m + 1, j, a, h => by
    show lp f m (j + 1) (f j a) = lp g m (j + 1) (g j a)
    rw [h j a (Nat.le_refl j) (by omega)]
    exact lp_cg m (j + 1) _ fun i a h1 h2 => h i a (by omega) (by omega)
/-- a loop that counts up over changing numbers, with what holds at its head -/
theorem lp_inv {α : Type} (F : Nat → α → Option mF) (I : Nat → α → Prop) (n : Nat) (hs : ∀ j a, j < n → I j a → ∃ b, F j a = F (j + 1) b ∧ I (j + 1) b) : ∀ m j a, j + m = n → I j a → ∃ b, F j a = F n b ∧ I n b
  | 0, j, a, h, hi => by
    have : j = n := by omega
    subst this; exact ⟨a, rfl, hi⟩
  | m + 1, j, a, h, hi => by
    obtain ⟨b, e, hb⟩ := hs j a (by omega) hi
    obtain ⟨c, e2, hc⟩ := lp_inv F I n hs m (j + 1) b (by omega) hb
    exact ⟨c, e.trans e2, hc⟩
