/-! BITS of small numbers -/
theorem n_or (a b : Nat) : Int32.ofNat a ||| Int32.ofNat b = Int32.ofNat (a ||| b) := Int32.toBitVec_inj.mp (BitVec.ofNat_or (w := 32) (x := a) (y := b)).symm
theorem n_and (a b : Nat) : Int32.ofNat a &&& Int32.ofNat b = Int32.ofNat (a &&& b) := Int32.toBitVec_inj.mp (BitVec.ofNat_and (w := 32) (x := a) (y := b)).symm
theorem n_xor (a b : Nat) : Int32.ofNat a ^^^ Int32.ofNat b = Int32.ofNat (a ^^^ b) := Int32.toBitVec_inj.mp (BitVec.ofNat_xor (w := 32) (x := a) (y := b)).symm
/-- a shift to the right, of a natural number, by k -/
theorem n_shr {n k : Nat} (hn : n < 2147483648) (hk : k < 32) : ((Int32.ofNat n).toUInt32 >>> ((Int32.ofNat k).toUInt32 &&& Int32.toUInt32 31)).toInt32 = Int32.ofNat (n / 2 ^ k) := by
  have e : (Int32.ofNat n).toUInt32 >>> ((Int32.ofNat k).toUInt32 &&& Int32.toUInt32 31) = UInt32.ofNat (n / 2 ^ k) := by
    apply UInt32.toNat_inj.mp
    have e1 : (Int32.ofNat n).toUInt32.toNat = n := by
      show (UInt32.ofNat n).toNat = n
      rw [UInt32.toNat_ofNat_of_lt' (by show n < 4294967296; omega)]
    have e2 : ((Int32.ofNat k).toUInt32 &&& Int32.toUInt32 31).toNat = k := by
      rw [UInt32.toNat_and]
      show (UInt32.ofNat k).toNat &&& 31 = k
      rw [UInt32.toNat_ofNat_of_lt' (by show k < 4294967296; omega)]
      rw [show (31 : Nat) = 2 ^ 5 - 1 from rfl, Nat.and_two_pow_sub_one_eq_mod]
      exact Nat.mod_eq_of_lt hk
    rw [UInt32.toNat_shiftRight, e1, e2, Nat.mod_eq_of_lt hk, Nat.shiftRight_eq_div_pow]
    have h1 : n / 2 ^ k ≤ n := Nat.div_le_self _ _
    rw [UInt32.toNat_ofNat_of_lt' (by show n / 2 ^ k < 4294967296; omega)]
  rw [e]; rfl
theorem n_shl {n k : Nat} (hk : k < 32) : Int32.ofNat n <<< (Int32.ofNat k &&& 31) = Int32.ofNat (n * 2 ^ k) := by
  have e0 : (Int32.ofNat k &&& 31) = Int32.ofNat k := by
    rw [show (31 : Int32) = Int32.ofNat 31 from rfl, n_and, show (31 : Nat) = 2 ^ 5 - 1 from rfl, Nat.and_two_pow_sub_one_eq_mod, Nat.mod_eq_of_lt hk]
  rw [e0]
  apply Int32.toBitVec_inj.mp
  rw [Int32.toBitVec_shiftLeft]
  show BitVec.ofNat 32 n <<< ((BitVec.ofNat 32 k).smod 32) = BitVec.ofNat 32 (n * 2 ^ k)
  have e1 : (BitVec.ofNat 32 k).smod 32 = BitVec.ofNat 32 k := by
    have : ∀ q : Fin 32, (BitVec.ofNat 32 q.val).smod 32 = BitVec.ofNat 32 q.val := by decide
    exact this ⟨k, hk⟩
  rw [e1]
  apply BitVec.eq_of_toNat_eq
  rw [BitVec.shiftLeft_eq', BitVec.toNat_shiftLeft, BitVec.toNat_ofNat, BitVec.toNat_ofNat, BitVec.toNat_ofNat, Nat.shiftLeft_eq, Nat.mod_eq_of_lt (show k < 2 ^ 32 by omega), Nat.mod_mul_mod]
/-- truths in the bits of a number, the latest lowest -/
def enc : List Bool → Nat
  | [] => 1
  | b :: k => 2 * enc k + b.toNat
theorem enc_lt : ∀ k : List Bool, enc k < 2 ^ (k.length + 1)
  | [] => by decide
  | b :: k => by
    have h := enc_lt k
    have hb : b.toNat ≤ 1 := by cases b <;> decide
    simp only [enc, List.length_cons]
    rw [Nat.pow_succ]; omega
theorem enc_30 {k : List Bool} (h : k.length < 30) : enc k < 1073741824 := by
  have h1 := enc_lt k
  have h2 : 2 ^ (k.length + 1) ≤ 2 ^ 30 := Nat.pow_le_pow_right (by omega) (by omega)
  omega
theorem b_half {m : Nat} {b : Bool} (h : m < 1073741824) : ((Int32.ofNat (2 * m + b.toNat)).toUInt32 >>> ((1 : Int32).toUInt32 &&& Int32.toUInt32 31)).toInt32 = Int32.ofNat m := by
  have hb : b.toNat ≤ 1 := by cases b <;> decide
  have := n_shr (n := 2 * m + b.toNat) (k := 1) (by omega) (by omega)
  rw [show (Int32.ofNat 1) = 1 from rfl] at this
  rw [this]; congr 1; omega
theorem b_low {m : Nat} {b : Bool} : Int32.ofNat (2 * m + b.toNat) &&& 1 = Int32.ofNat b.toNat := by
  rw [show (1 : Int32) = Int32.ofNat 1 from rfl, n_and, Nat.and_one_is_mod]
  congr 1
  have hb : b.toNat ≤ 1 := by cases b <;> decide
  omega
theorem b_or0 (m c : Nat) (hc : c < 2) : 2 * m ||| c = 2 * m + c := by
  have := Nat.shiftLeft_add_eq_or_of_lt (i := 1) (b := c) (by simpa using hc) m
  rw [Nat.shiftLeft_eq, Nat.mul_comm] at this
  simpa using this.symm
theorem b_or {m : Nat} {b c : Bool} : Int32.ofNat (2 * m + b.toNat) ||| Int32.ofNat c.toNat = Int32.ofNat (2 * m + (b || c).toNat) := by
  rw [n_or]
  congr 1
  rw [← b_or0 m b.toNat (by cases b <;> decide), Nat.or_assoc, ← b_or0 m (b || c).toNat (by cases b <;> cases c <;> decide)]
  congr 1
  cases b <;> cases c <;> rfl
theorem b_xor {m : Nat} {b : Bool} : Int32.ofNat (2 * m + b.toNat) ^^^ 1 = Int32.ofNat (2 * m + (!b).toNat) := by
  rw [show (1 : Int32) = Int32.ofNat 1 from rfl, n_xor]
  congr 1
  apply Nat.eq_of_testBit_eq
  intro i
  rw [Nat.testBit_xor]
  cases i with
  | zero => cases b <;> simp [Nat.testBit_zero]
  | succ i =>
    rw [Nat.testBit_succ, Nat.testBit_succ, Nat.testBit_succ]
    have e1 : (2 * m + b.toNat) / 2 = m := by cases b <;> simp <;> omega
    have e2 : (2 * m + (!b).toNat) / 2 = m := by cases b <;> simp <;> omega
    rw [e1, e2]
    simp
theorem b_off {m : Nat} {b : Bool} (hm : m < 1073741824) : Int32.ofNat (2 * m + b.toNat) &&& (-2) = Int32.ofNat (2 * m) := by
  have e : (-2 : Int32) = Int32.ofNat 4294967294 := by decide
  rw [e, n_and]
  congr 1
  apply Nat.eq_of_testBit_eq
  intro i
  rw [Nat.testBit_and]
  cases i with
  | zero => simp [Nat.testBit_zero]
  | succ i =>
    rw [Nat.testBit_succ, Nat.testBit_succ, Nat.testBit_succ]
    have e1 : (2 * m + b.toNat) / 2 = m := by cases b <;> simp <;> omega
    have e2 : 2 * m / 2 = m := by omega
    have e3 : 4294967294 / 2 = 2 ^ 31 - 1 := by decide
    rw [e1, e2, e3, Nat.testBit_two_pow_sub_one]
    by_cases hi : i < 31
    · simp [hi]
    · have : m.testBit i = false := Nat.testBit_lt_two_pow (Nat.lt_of_lt_of_le hm (by
        have : 2 ^ 30 ≤ 2 ^ i := Nat.pow_le_pow_right (by omega) (by omega)
        omega))
      simp [this]
theorem b_shl (m : Nat) : Int32.ofNat m <<< (1 &&& 31) = Int32.ofNat (2 * m) := by
  have := n_shl (n := m) (k := 1) (by omega)
  rw [show (Int32.ofNat 1) = 1 from rfl] at this
  rw [this]; congr 1; omega
