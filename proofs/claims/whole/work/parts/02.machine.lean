/-! THE MACHINE OF WORLDS. A heap is a list of cells by number: of each its kind, its length, the references that it holds; all numbers of all cells stand in one function (cell, place).
A method is blocks of instructions with what they resolve to; its run is a plain function of its locals, stack and heap. -/
abbrev mR : Type := Nat × Nat × List (Option Nat)
abbrev mH : Type := List mR × (Nat → Nat → Int32)
abbrev mL : Type := List (Option Value)
/-- an instruction: how long it is, the numbers that it names, what it resolves to -/
abbrev mO : Type := Instr × Nat × (Int32 × Int64) × List (List Nat)
abbrev mF : Type := Option Value × mH
abbrev mG : Type := mF ⊕ (Nat × mL × List Value × mH)
abbrev mK : Type := Nat → List Value → mH → Option mF
/-- the script, if it can be read here -/
abbrev mS : Type := Option (Nat × (Nat → Int32))
def m_str0 : Nat := 1000000
def m_scr0 : Nat := 2000000
def m_cl : List vw_C := [(RX0, TX0, 8), (RX1, TX1, 3), (RX2, TX2, 3), (RX3, TX3, 3), (RX4, TX4, 3), (RX5, TX5, 7), (RX6, TX6, 13), (RX7, TX7, 3), (RX8, TX8, 3), (RX9, TX9, 15), (RX10, TX10, 3), (RX11, TX11, 18), (RX12, TX12, 36)]
def m_ty : Nat → Nat → FieldType
  | 0 => tyX0 | 1 => tyX1 | 2 => tyX2 | 3 => tyX3 | 4 => tyX4 | 5 => tyX5 | 6 => tyX6 | 7 => tyX7 | 8 => tyX8 | 9 => tyX9 | 10 => tyX10 | 11 => tyX11 | _ => tyX12
def m_num : FieldType → Bool
  | .int => true
  | .boolean => true
  | _ => false
def m_isR : FieldType → Bool
  | .object _ => true
  | .array _ => true
  | _ => false
def m_isZ : FieldType → Bool
  | .boolean => true
  | _ => false
def m_up (st : Nat → Nat → Int32) (i j : Nat) (v : Int32) : Nat → Nat → Int32 := fun a b => if a = i then (if b = j then v else st a b) else st a b
def m_row (st : Nat → Nat → Int32) (i : Nat) (f : Nat → Int32) : Nat → Nat → Int32 := fun a b => if a = i then f b else st a b
/-- a local's value, but for a long's first half -/
def m_c1 : Option Value → Option Value
  | some (.long _) => none
  | some (.double _) => none
  | o => o
def m_st1 : mL → Nat → Value → mL
  | [], _, _ => []
  | _ :: l, 0, v => some v :: l
  | o :: l, 1, v => m_c1 o :: m_st1 l 0 v
  | o :: l, n + 2, v => o :: m_st1 l (n + 1) v
def m_no : mL → mL
  | [] => []
  | _ :: l => none :: l
def m_st2 : mL → Nat → Value → mL
  | [], _, _ => []
  | _ :: l, 0, v => some v :: m_no l
  | o :: l, 1, v => m_c1 o :: m_st2 l 0 v
  | o :: l, n + 2, v => o :: m_st2 l (n + 1) v
def m_ld (lo : mL) (i : Nat) : Option Value := (lo[i]?).getD none
def m_ri (rs : List (Option Nat)) (k : Nat) : Option Nat := (rs[k]?).getD none
/-- a field of the object i -/
def m_get (h : mH) (i k : Nat) (cs : List Nat) : Option Value :=
  match h.1[i]? with
  | none => none
  | some (c, n, rs) => bif cs.elem c && Nat.blt k n then (bif m_num (m_ty c k) then some (.int (h.2 i k)) else some (va_rf (m_ri rs k))) else none
def m_put (h : mH) (i k : Nat) (cs : List Nat) (v : Value) : Option mH :=
  match h.1[i]? with
  | none => none
  | some (c, n, rs) => bif cs.elem c && Nat.blt k n then
      (match v with
      | .int x => bif m_num (m_ty c k) then (bif m_isZ (m_ty c k) then (if x = 0 ∨ x = 1 then some (h.1, m_up h.2 i k x) else none) else some (h.1, m_up h.2 i k x)) else none
      | .ref a => bif m_isR (m_ty c k) && Nat.blt k rs.length then some (h.1.set i (c, n, rs.set k (some a)), h.2) else none
      | _ => none) else none
/-- a place in a row of n -/
def m_ix (j : Int32) (n : Nat) : Option Nat := if j < 0 ∨ n ≤ j.toNatClampNeg then none else some j.toNatClampNeg
/-- kinds of arrays: 100 int, 101 byte, 102 boolean, 104 of rows of ints, 105 of watchmen -/
def m_ald (sc : mS) (h : mH) (ks : List Nat) (i : Nat) (j : Int32) : Option Int32 :=
  match h.1[i]? with
  | some (c, n, _) => bif ks.elem c then (match m_ix j n with
    | some q => some (h.2 i q)
    | none => none) else none
  | none => match sc with
    | none => none
    | some (L, xs) => bif Nat.beq i m_scr0 && ks.elem 100 then (match m_ix j L with
      | some q => some (xs q)
      | none => none) else none
def m_ast (h : mH) (ks : List Nat) (i : Nat) (j x : Int32) : Option mH :=
  match h.1[i]? with
  | some (c, n, _) => bif ks.elem c then (match m_ix j n with
    | some q => some (h.1, m_up h.2 i q (bif Nat.beq c 101 then vp_nar .byte x else bif Nat.beq c 102 then vp_nar .boolean x else x))
    | none => none) else none
  | none => none
def m_aq (h : mH) (i : Nat) (j : Int32) : Option Value :=
  match h.1[i]? with
  | some (c, n, rs) => bif Nat.beq c 104 || Nat.beq c 105 then (match m_ix j n with
    | some q => some (va_rf (m_ri rs q))
    | none => none) else none
  | none => none
/-- a watchman into his row -/
def m_aqs (h : mH) (i : Nat) (j : Int32) (a : Nat) : Option mH :=
  match h.1[i]? with
  | some (c, n, rs) => bif Nat.beq c 105 then (if j < 0 ∨ n ≤ j.toNatClampNeg then none else
      match h.1[a]? with
      | some (c1, _, _) => bif [1, 2, 3, 4, 7, 10].elem c1 && Nat.blt j.toNatClampNeg rs.length then some (h.1.set i (c, n, rs.set j.toNatClampNeg (some a)), h.2) else none
      | none => none) else none
  | none => none
def m_len (sc : mS) (h : mH) (i : Nat) : Option Int32 :=
  match h.1[i]? with
  | some (c, n, _) => bif Nat.ble 100 c && Nat.ble c 105 && !Nat.beq c 103 then some (Int32.ofNat n) else none
  | none => match sc with
    | none => none
    | some (L, _) => bif Nat.beq i m_scr0 then some (Int32.ofNat L) else none
/-- a new cell, its numbers 0 -/
def m_new (h : mH) (r : mR) : mH := (h.1 ++ [r], m_row h.2 h.1.length (fun _ => 0))
def m_aty : ArrayType → Nat
  | .int => 100
  | .byte => 101
  | .boolean => 102
  | _ => 199
def m_hd (ds : List (List Nat)) : List Nat := (ds[0]?).getD []
def m_d (l : List Nat) (k : Nat) : Nat := (l[k]?).getD 0
/-- rows of ints: the outer one, then the inner ones -/
def m_mul (h : mH) (n k : Nat) : mH :=
  (h.1 ++ (104, n, (List.range n).map fun i => some (h.1.length + 1 + i)) :: (List.range n).map (fun _ => (100, k, [])), fun a b => if h.1.length ≤ a then 0 else h.2 a b)
/-- System.arraycopy between two rows of ints -/
def m_cpy (h : mH) (a : Nat) (sp : Int32) (b : Nat) (dp n : Int32) : Option mH :=
  match h.1[a]?, h.1[b]? with
  | some (c, N, _), some (d, M, _) => bif Nat.beq c 100 && Nat.beq d 100 then
      (if sp < 0 ∨ dp < 0 ∨ n < 0 then none else if sp.toNatClampNeg + n.toNatClampNeg ≤ N ∧ dp.toNatClampNeg + n.toNatClampNeg ≤ M then
        some (h.1, m_row h.2 b (va_cpy (h.2 a) (h.2 b) sp.toNatClampNeg dp.toNatClampNeg n.toNatClampNeg)) else none) else none
  | _, _ => none
/-- the instructions that neither branch nor call -/
def m_1 (sc : mS) (i : Instr) (v : Int32 × Int64) (ds : List (List Nat)) (lo : mL) (os : List Value) (h : mH) : Option (mL × List Value × mH) :=
  match i with
  | .iconst _ => some (lo, .int v.1 :: os, h)
  | .bipush _ => some (lo, .int v.1 :: os, h)
  | .sipush _ => some (lo, .int v.1 :: os, h)
  | .lconst _ => some (lo, .long v.2 :: os, h)
  | .ldc _ => match m_hd ds with
    | [0, _] => some (lo, .int v.1 :: os, h)
    | [1, j] => some (lo, .ref (m_str0 + j) :: os, h)
    | _ => none
  | .ldc_w _ => some (lo, .int v.1 :: os, h)
  | .ldc2_w _ => some (lo, .long v.2 :: os, h)
  | .iload n => match m_ld lo n with
    | some (.int x) => some (lo, .int x :: os, h)
    | _ => none
  | .iload_n n => match m_ld lo n.1 with
    | some (.int x) => some (lo, .int x :: os, h)
    | _ => none
  | .lload n => match m_ld lo n with
    | some (.long x) => some (lo, .long x :: os, h)
    | _ => none
  | .lload_n n => match m_ld lo n.1 with
    | some (.long x) => some (lo, .long x :: os, h)
    | _ => none
  | .aload n => match m_ld lo n with
    | some (.ref x) => some (lo, .ref x :: os, h)
    | _ => none
  | .aload_n n => match m_ld lo n.1 with
    | some (.ref x) => some (lo, .ref x :: os, h)
    | _ => none
  | .istore n => match os with
    | .int x :: os => some (m_st1 lo n (.int x), os, h)
    | _ => none
  | .istore_n n => match os with
    | .int x :: os => some (m_st1 lo n.1 (.int x), os, h)
    | _ => none
  | .lstore n => match os with
    | .long x :: os => some (m_st2 lo n (.long x), os, h)
    | _ => none
  | .lstore_n n => match os with
    | .long x :: os => some (m_st2 lo n.1 (.long x), os, h)
    | _ => none
  | .astore n => match os with
    | .ref x :: os => some (m_st1 lo n (.ref x), os, h)
    | _ => none
  | .astore_n n => match os with
    | .ref x :: os => some (m_st1 lo n.1 (.ref x), os, h)
    | _ => none
  | .iinc n _ => match m_ld lo n with
    | some (.int x) => some (m_st1 lo n (.int (x + v.1)), os, h)
    | _ => none
  | .iadd => match os with
    | .int y :: .int x :: os => some (lo, .int (x + y) :: os, h)
    | _ => none
  | .isub => match os with
    | .int y :: .int x :: os => some (lo, .int (x - y) :: os, h)
    | _ => none
  | .imul => match os with
    | .int y :: .int x :: os => some (lo, .int (x * y) :: os, h)
    | _ => none
  | .idiv => match os with
    | .int y :: .int x :: os => if y = 0 then none else some (lo, .int (x / y) :: os, h)
    | _ => none
  | .irem => match os with
    | .int y :: .int x :: os => if y = 0 then none else some (lo, .int (x - x / y * y) :: os, h)
    | _ => none
  | .iand => match os with
    | .int y :: .int x :: os => some (lo, .int (x &&& y) :: os, h)
    | _ => none
  | .ior => match os with
    | .int y :: .int x :: os => some (lo, .int (x ||| y) :: os, h)
    | _ => none
  | .ixor => match os with
    | .int y :: .int x :: os => some (lo, .int (x ^^^ y) :: os, h)
    | _ => none
  | .ishl => match os with
    | .int y :: .int x :: os => some (lo, .int (x <<< (y &&& 31)) :: os, h)
    | _ => none
  | .ishr => match os with
    | .int y :: .int x :: os => some (lo, .int (x >>> (y &&& 31)) :: os, h)
    | _ => none
  | .iushr => match os with
    | .int y :: .int x :: os => some (lo, .int (x.toUInt32 >>> (y.toUInt32 &&& Int32.toUInt32 31)).toInt32 :: os, h)
    | _ => none
  | .ladd => match os with
    | .long y :: .long x :: os => some (lo, .long (x + y) :: os, h)
    | _ => none
  | .lmul => match os with
    | .long y :: .long x :: os => some (lo, .long (x * y) :: os, h)
    | _ => none
  | .land => match os with
    | .long y :: .long x :: os => some (lo, .long (x &&& y) :: os, h)
    | _ => none
  | .lor => match os with
    | .long y :: .long x :: os => some (lo, .long (x ||| y) :: os, h)
    | _ => none
  | .lshl => match os with
    | .int y :: .long x :: os => some (lo, .long (x <<< (y.toInt64 &&& 63)) :: os, h)
    | _ => none
  | .lshr => match os with
    | .int y :: .long x :: os => some (lo, .long (x >>> (y.toInt64 &&& 63)) :: os, h)
    | _ => none
  | .lushr => match os with
    | .int y :: .long x :: os => some (lo, .long (x.toUInt64 >>> (y.toInt64.toUInt64 &&& Int64.toUInt64 63)).toInt64 :: os, h)
    | _ => none
  | .lcmp => match os with
    | .long y :: .long x :: os => some (lo, .int (lg_cmp x y) :: os, h)
    | _ => none
  | .i2l => match os with
    | .int x :: os => some (lo, .long x.toInt64 :: os, h)
    | _ => none
  | .l2i => match os with
    | .long x :: os => some (lo, .int x.toInt32 :: os, h)
    | _ => none
  | .i2b => match os with
    | .int x :: os => some (lo, .int x.toInt8.toInt32 :: os, h)
    | _ => none
  | .i2s => match os with
    | .int x :: os => some (lo, .int x.toInt16.toInt32 :: os, h)
    | _ => none
  | .dup => match os with
    | .int x :: os => some (lo, .int x :: .int x :: os, h)
    | .ref x :: os => some (lo, .ref x :: .ref x :: os, h)
    | _ => none
  | .dup_x1 => match os with
    | .int x :: .ref y :: os => some (lo, .int x :: .ref y :: .int x :: os, h)
    | _ => none
  | .dup2 => match os with
    | .int x :: .ref y :: os => some (lo, .int x :: .ref y :: .int x :: .ref y :: os, h)
    | _ => none
  | .pop => match os with
    | .int _ :: os => some (lo, os, h)
    | _ => none
  | .getfield _ => match os with
    | .ref a :: os => match m_get h a (m_d (m_hd ds) 0) ((ds[1]?).getD []) with
      | some w => some (lo, w :: os, h)
      | none => none
    | _ => none
  | .putfield _ => match os with
    | w :: .ref a :: os => match m_put h a (m_d (m_hd ds) 0) ((ds[1]?).getD []) w with
      | some h => some (lo, os, h)
      | none => none
    | _ => none
  | .iaload => match os with
    | .int j :: .ref a :: os => match m_ald sc h [100] a j with
      | some w => some (lo, .int w :: os, h)
      | none => none
    | _ => none
  | .baload => match os with
    | .int j :: .ref a :: os => match m_ald sc h [101, 102] a j with
      | some w => some (lo, .int w :: os, h)
      | none => none
    | _ => none
  | .aaload => match os with
    | .int j :: .ref a :: os => match m_aq h a j with
      | some w => some (lo, w :: os, h)
      | none => none
    | _ => none
  | .iastore => match os with
    | .int x :: .int j :: .ref a :: os => match m_ast h [100] a j x with
      | some h => some (lo, os, h)
      | none => none
    | _ => none
  | .bastore => match os with
    | .int x :: .int j :: .ref a :: os => match m_ast h [101, 102] a j x with
      | some h => some (lo, os, h)
      | none => none
    | _ => none
  | .aastore => match os with
    | .ref x :: .int j :: .ref a :: os => match m_aqs h a j x with
      | some h => some (lo, os, h)
      | none => none
    | _ => none
  | .arraylength => match os with
    | .ref a :: os => match m_len sc h a with
      | some w => some (lo, .int w :: os, h)
      | none => none
    | _ => none
  | .new _ => some (lo, .ref h.1.length :: os, m_new h (m_d (m_hd ds) 0, m_d (m_hd ds) 1, List.replicate (m_d (m_hd ds) 1) none))
  | .newarray t => match os with
    | .int n :: os => if n < 0 ∨ 100000 ≤ n.toNatClampNeg then none else some (lo, .ref h.1.length :: os, m_new h (m_aty t, n.toNatClampNeg, []))
    | _ => none
  | .anewarray _ => match os with
    | .int n :: os => if n < 0 ∨ 100000 ≤ n.toNatClampNeg then none else some (lo, .ref h.1.length :: os, m_new h (105, n.toNatClampNeg, List.replicate n.toNatClampNeg none))
    | _ => none
  | .multianewarray _ _ => match os with
    | .int k :: .int n :: os => if n < 0 ∨ k < 0 ∨ 100000 ≤ n.toNatClampNeg ∨ 100000 ≤ k.toNatClampNeg then none else some (lo, .ref h.1.length :: os, m_mul h n.toNatClampNeg k.toNatClampNeg)
    | _ => none
  | _ => none
/-- a branch on two numbers: where it goes to, what stands behind it -/
def m_br {α : Type} (c : Jvm.ClassFile.Cond) (x y : Int32) (a b : α) : α :=
  match c with
  | .eq => if x = y then a else b
  | .ne => if x = y then b else a
  | .lt => if x < y then a else b
  | .ge => if x < y then b else a
  | .gt => if y < x then a else b
  | .le => if y < x then b else a
/-- the case of a switch: number and target, one after the other -/
def m_case (x : Int32) : List (List Nat) → Nat → Nat
  | [k, t] :: l, d => if x = Int32.ofNat k then t else m_case x l d
  | _, d => d
/-- which method a call runs, by the class of the object -/
def m_pick (h : mH) (a : Nat) (al : List (List Nat)) : Option Nat :=
  match h.1[a]? with
  | some (c, _, _) => bif Nat.blt c 100 then (al.find? fun d => Nat.beq (m_d d 0) c).map fun d => m_d d 1 else none
  | none => (al.find? fun d => Nat.beq (m_d d 0) 300 && Nat.ble m_str0 a && Nat.blt a (m_str0 + 6)).map fun d => m_d d 1
def m_isO (h : mH) (a : Nat) : Bool :=
  match h.1[a]? with
  | some (c, _, _) => Nat.blt c 13
  | none => false
def m_cat (os : List Value) : Nat := (os.map fun v => v.category).sum
/-- System.arraycopy, Math.max, min, abs: what is left on the stack -/
def m_spc (k : Nat) (os : List Value) (h : mH) : Option (List Value × mH) :=
  bif Nat.beq k 998 then (match os with
    | .int m :: .int dp :: .ref b :: .int sp :: .ref a :: os => bif Nat.ble (m_cat os) 8 then (match m_cpy h a sp b dp m with
      | some h => some (os, h)
      | none => none) else none
    | _ => none)
  else bif Nat.beq k 995 then (match os with
    | .int y :: .int x :: os => bif Nat.ble (m_cat os) 8 then some (.int (if x < y then y else x) :: os, h) else none
    | _ => none)
  else bif Nat.beq k 996 then (match os with
    | .int y :: .int x :: os => bif Nat.ble (m_cat os) 8 then some (.int (if y < x then y else x) :: os, h) else none
    | _ => none)
  else bif Nat.beq k 997 then (match os with
    | .int x :: os => bif Nat.ble (m_cat os) 8 then some (.int (if 0 ≤ x then x else 0 - x) :: os, h) else none
    | _ => none)
  else none
/-- a block, from its first instruction on: it comes to the method's end, or to the head of a block -/
def m_B (sc : mS) (cal : mK) : List mO → Nat → mL → List Value → mH → Option mG
  | [], pc, lo, os, h => some (.inr (pc, lo, os, h))
  | (i, n, v, ds) :: r, pc, lo, os, h =>
    match i with
    | .goto _ => some (.inr (m_d (m_hd ds) 0, lo, os, h))
    | .ifCond c _ => match os with
      | .int x :: os => m_br c x 0 (some (.inr (m_d (m_hd ds) 0, lo, os, h))) (m_B sc cal r (pc + n) lo os h)
      | _ => none
    | .if_icmp c _ => match os with
      | .int y :: .int x :: os => m_br c x y (some (.inr (m_d (m_hd ds) 0, lo, os, h))) (m_B sc cal r (pc + n) lo os h)
      | _ => none
    | .tableswitch _ _ _ _ => match os with
      | .int x :: os => some (.inr (m_case x (ds.drop 1) (m_d (m_hd ds) 0), lo, os, h))
      | _ => none
    | .lookupswitch _ _ => match os with
      | .int x :: os => some (.inr (m_case x (ds.drop 1) (m_d (m_hd ds) 0), lo, os, h))
      | _ => none
    | .ireturn => match os with
      | [.int x] => bif Nat.beq (m_d (m_hd ds) 0) 1 then (if x = 0 ∨ x = 1 then some (.inl (some (.int x), h)) else none) else some (.inl (some (.int x), h))
      | _ => none
    | .lreturn => match os with
      | [.long x] => some (.inl (some (.long x), h))
      | _ => none
    | .return_ => match os with
      | [] => some (.inl (none, h))
      | _ => none
    | .invokestatic _ => bif Nat.ble 995 (m_d (m_hd ds) 1) then
        (match m_spc (m_d (m_hd ds) 1) os h with
        | some (os, h) => m_B sc cal r (pc + n) lo os h
        | none => none) else
        (match cal (m_d (m_hd ds) 1) (os.take (m_d (m_hd ds) 0)).reverse h with
        | some (w, h) => bif Nat.ble (m_d (m_hd ds) 0) os.length && Nat.ble (m_cat (os.drop (m_d (m_hd ds) 0))) 8 then m_B sc cal r (pc + n) lo (w.toList ++ os.drop (m_d (m_hd ds) 0)) h else none
        | none => none)
    | .invokespecial _ => match os.drop (m_d (m_hd ds) 0) with
      | .ref a :: os' => bif Nat.ble (m_cat os') 8 then
          (bif Nat.beq (m_d (m_hd ds) 1) 999 then m_B sc cal r (pc + n) lo os' h else
          bif m_isO h a then (match cal (m_d (m_hd ds) 1) (.ref a :: (os.take (m_d (m_hd ds) 0)).reverse) h with
          | some (w, h) => m_B sc cal r (pc + n) lo (w.toList ++ os') h
          | none => none) else none) else none
      | _ => none
    | .invokevirtual _ => match os.drop (m_d (m_hd ds) 0) with
      | .ref a :: os' => bif Nat.ble (m_cat os') 8 then
          (match m_pick h a (ds.drop 1) with
          | some k => match cal k (.ref a :: (os.take (m_d (m_hd ds) 0)).reverse) h with
            | some (w, h) => m_B sc cal r (pc + n) lo (w.toList ++ os') h
            | none => none
          | none => none) else none
      | _ => none
    | i => match m_1 sc i v ds lo os h with
      | some (lo, os, h) => m_B sc cal r (pc + n) lo os h
      | none => none
/-- the locals with which a method begins -/
def m_lay : List Value → mL
  | [] => []
  | .long x :: l => some (.long x) :: none :: m_lay l
  | .double x :: l => some (.double x) :: none :: m_lay l
  | v :: l => some v :: m_lay l
def m_lo (n : Nat) (as : List Value) : mL := m_lay as ++ List.replicate (n - (m_lay as).length) none
/-- the text constants -/
def m_txt : List (List Int32) := [[119, 97, 116, 99, 104, 109, 97, 110, 32, 112, 108, 97, 105, 110, 32, 112, 114, 111, 117, 100, 32, 100, 114, 117, 110, 107, 32, 109, 101, 110, 100, 101, 114, 32, 115, 108, 101, 101, 112, 101, 114, 32], [105, 102, 32], [97, 100, 100, 32, 109, 111, 114, 101, 32, 109, 105, 108, 101, 32, 115, 105, 108, 101, 110, 116, 32], [110, 111, 116, 32], [100, 97, 121, 32, 119, 105, 110, 100, 32, 97, 100, 100, 32, 100, 101, 108, 97, 121, 32, 109, 105, 108, 101, 115, 32, 110, 117, 109, 98, 101, 114, 32], [111, 114, 32, 97, 110, 100, 32]]
/-- String's length() and charAt() of a text constant -/
def m_bi (k : Nat) (as : List Value) (h : mH) : Option mF :=
  bif Nat.beq k 900 then
    (match as with
    | [.ref a] => bif Nat.ble m_str0 a then (match m_txt[a - m_str0]? with
      | some l => some (some (.int (Int32.ofNat l.length)), h)
      | none => none) else none
    | _ => none)
  else bif Nat.beq k 901 then
    (match as with
    | [.ref a, .int j] => bif Nat.ble m_str0 a then (match m_txt[a - m_str0]? with
      | some l => if j < 0 ∨ l.length ≤ j.toNatClampNeg then none else some (some (.int ((l[j.toNatClampNeg]?).getD 0)), h)
      | none => none) else none
    | _ => none)
  else none
def m_isN : Option Value → Bool
  | none => true
  | some (.int _) => true
  | some (.long _) => true
  | _ => false
/-- a method's run, from the block that begins at pc: with so much time, at most so deep -/
def m_run (P : Nat → Nat → List mO) (X : Nat → Nat) : Nat → mS → Nat → Nat → Nat → mL → List Value → mH → Option mF
  | 0, _, _, _, _, _, _, _ => none
  | f + 1, sc, d, k, pc, lo, os, h =>
    match m_B sc (fun k' as h' => match d with
      | 0 => none
      | d' + 1 => bif Nat.ble 900 k' then (bif Nat.ble 4 d' then m_bi k' as h' else none) else bif Nat.blt k' 268 && Nat.ble (m_lay as).length (X k') then m_run P X f none d' k' 0 (m_lo (X k') as) [] h' else none) (P k pc) pc lo os h with
    | some (.inl r) => bif m_isN r.1 then some r else none
    | some (.inr (pc', lo', os', h')) => m_run P X f sc d k pc' lo' os' h'
    | none => none
