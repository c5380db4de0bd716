/-! THE MACHINE BY CONTINUATIONS: the same, in a form that computes well -/
def m_ob {α β : Type} (o : Option α) (f : α → Option β) : Option β := match o with
  | some x => f x
  | none => none
def m_bd (o : Option mF) (f : Option Value → mH → Option mF) : Option mF := match o with
  | some (w, h) => f w h
  | none => none
def m_getK {α : Type} (h : mH) (i k : Nat) (cs : List Nat) (K : Value → Option α) : Option α :=
  match h.1[i]? with
  | none => none
  | some (c, n, rs) => bif cs.elem c && Nat.blt k n then (bif m_num (m_ty c k) then K (.int (h.2 i k)) else K (va_rf (m_ri rs k))) else none
def m_putK {α : Type} (h : mH) (i k : Nat) (cs : List Nat) (v : Value) (K : mH → Option α) : Option α :=
  match h.1[i]? with
  | none => none
  | some (c, n, rs) => bif cs.elem c && Nat.blt k n then
      (match v with
      | .int x => bif m_num (m_ty c k) then (bif m_isZ (m_ty c k) then (if x = 0 ∨ x = 1 then K (h.1, m_up h.2 i k x) else none) else K (h.1, m_up h.2 i k x)) else none
      | .ref a => bif m_isR (m_ty c k) && Nat.blt k rs.length then K (h.1.set i (c, n, rs.set k (some a)), h.2) else none
      | _ => none) else none
def m_aldK {α : Type} (sc : mS) (h : mH) (ks : List Nat) (i : Nat) (j : Int32) (K : Int32 → Option α) : Option α :=
  match h.1[i]? with
  | some (c, n, _) => bif ks.elem c then m_ob (m_ix j n) (fun q => K (h.2 i q)) else none
  | none => match sc with
    | none => none
    | some (L, xs) => bif Nat.beq i m_scr0 && ks.elem 100 then m_ob (m_ix j L) (fun q => K (xs q)) else none
def m_astK {α : Type} (h : mH) (ks : List Nat) (i : Nat) (j x : Int32) (K : mH → Option α) : Option α :=
  match h.1[i]? with
  | some (c, n, _) => bif ks.elem c then m_ob (m_ix j n) (fun q => K (h.1, m_up h.2 i q (bif Nat.beq c 101 then vp_nar .byte x else bif Nat.beq c 102 then vp_nar .boolean x else x))) else none
  | none => none
def m_aqK {α : Type} (h : mH) (i : Nat) (j : Int32) (K : Value → Option α) : Option α :=
  match h.1[i]? with
  | some (c, n, rs) => bif Nat.beq c 104 || Nat.beq c 105 then m_ob (m_ix j n) (fun q => K (va_rf (m_ri rs q))) else none
  | none => none
def m_1K {α : Type} (sc : mS) (i : Instr) (v : Int32 × Int64) (ds : List (List Nat)) (lo : mL) (os : List Value) (h : mH) (K : mL → List Value → mH → Option α) : Option α :=
  match i with
  | .iconst _ => K lo (.int v.1 :: os) h
  | .bipush _ => K lo (.int v.1 :: os) h
  | .sipush _ => K lo (.int v.1 :: os) h
  | .lconst _ => K lo (.long v.2 :: os) h
  | .ldc _ => match m_hd ds with
    | [0, _] => K lo (.int v.1 :: os) h
    | [1, j] => K lo (.ref (m_str0 + j) :: os) h
    | _ => none
  | .ldc_w _ => K lo (.int v.1 :: os) h
  | .ldc2_w _ => K lo (.long v.2 :: os) h
  | .iload n => match m_ld lo n with
    | some (.int x) => K lo (.int x :: os) h
    | _ => none
  | .iload_n n => match m_ld lo n.1 with
    | some (.int x) => K lo (.int x :: os) h
    | _ => none
  | .lload n => match m_ld lo n with
    | some (.long x) => K lo (.long x :: os) h
    | _ => none
  | .lload_n n => match m_ld lo n.1 with
    | some (.long x) => K lo (.long x :: os) h
    | _ => none
  | .aload n => match m_ld lo n with
    | some (.ref x) => K lo (.ref x :: os) h
    | _ => none
  | .aload_n n => match m_ld lo n.1 with
    | some (.ref x) => K lo (.ref x :: os) h
    | _ => none
  | .istore n => match os with
    | .int x :: os => K (m_st1 lo n (.int x)) os h
    | _ => none
  | .istore_n n => match os with
    | .int x :: os => K (m_st1 lo n.1 (.int x)) os h
    | _ => none
  | .lstore n => match os with
    | .long x :: os => K (m_st2 lo n (.long x)) os h
    | _ => none
  | .lstore_n n => match os with
    | .long x :: os => K (m_st2 lo n.1 (.long x)) os h
    | _ => none
  | .astore n => match os with
    | .ref x :: os => K (m_st1 lo n (.ref x)) os h
    | _ => none
  | .astore_n n => match os with
    | .ref x :: os => K (m_st1 lo n.1 (.ref x)) os h
    | _ => none
  | .iinc n _ => match m_ld lo n with
    | some (.int x) => K (m_st1 lo n (.int (x + v.1))) os h
    | _ => none
  | .iadd => match os with
    | .int y :: .int x :: os => K lo (.int (x + y) :: os) h
    | _ => none
  | .isub => match os with
    | .int y :: .int x :: os => K lo (.int (x - y) :: os) h
    | _ => none
  | .imul => match os with
    | .int y :: .int x :: os => K lo (.int (x * y) :: os) h
    | _ => none
  | .idiv => match os with
    | .int y :: .int x :: os => if y = 0 then none else K lo (.int (x / y) :: os) h
    | _ => none
  | .irem => match os with
    | .int y :: .int x :: os => if y = 0 then none else K lo (.int (x - x / y * y) :: os) h
    | _ => none
  | .iand => match os with
    | .int y :: .int x :: os => K lo (.int (x &&& y) :: os) h
    | _ => none
  | .ior => match os with
    | .int y :: .int x :: os => K lo (.int (x ||| y) :: os) h
    | _ => none
  | .ixor => match os with
    | .int y :: .int x :: os => K lo (.int (x ^^^ y) :: os) h
    | _ => none
  | .ishl => match os with
    | .int y :: .int x :: os => K lo (.int (x <<< (y &&& 31)) :: os) h
    | _ => none
  | .ishr => match os with
    | .int y :: .int x :: os => K lo (.int (x >>> (y &&& 31)) :: os) h
    | _ => none
  | .iushr => match os with
    | .int y :: .int x :: os => K lo (.int (x.toUInt32 >>> (y.toUInt32 &&& Int32.toUInt32 31)).toInt32 :: os) h
    | _ => none
  | .ladd => match os with
    | .long y :: .long x :: os => K lo (.long (x + y) :: os) h
    | _ => none
  | .lmul => match os with
    | .long y :: .long x :: os => K lo (.long (x * y) :: os) h
    | _ => none
  | .land => match os with
    | .long y :: .long x :: os => K lo (.long (x &&& y) :: os) h
    | _ => none
  | .lor => match os with
    | .long y :: .long x :: os => K lo (.long (x ||| y) :: os) h
    | _ => none
  | .lshl => match os with
    | .int y :: .long x :: os => K lo (.long (x <<< (y.toInt64 &&& 63)) :: os) h
    | _ => none
  | .lshr => match os with
    | .int y :: .long x :: os => K lo (.long (x >>> (y.toInt64 &&& 63)) :: os) h
    | _ => none
  | .lushr => match os with
    | .int y :: .long x :: os => K lo (.long (x.toUInt64 >>> (y.toInt64.toUInt64 &&& Int64.toUInt64 63)).toInt64 :: os) h
    | _ => none
  | .lcmp => match os with
    | .long y :: .long x :: os => K lo (.int (lg_cmp x y) :: os) h
    | _ => none
  | .i2l => match os with
    | .int x :: os => K lo (.long x.toInt64 :: os) h
    | _ => none
  | .l2i => match os with
    | .long x :: os => K lo (.int x.toInt32 :: os) h
    | _ => none
  | .i2b => match os with
    | .int x :: os => K lo (.int x.toInt8.toInt32 :: os) h
    | _ => none
  | .i2s => match os with
    | .int x :: os => K lo (.int x.toInt16.toInt32 :: os) h
    | _ => none
  | .dup => match os with
    | .int x :: os => K lo (.int x :: .int x :: os) h
    | .ref x :: os => K lo (.ref x :: .ref x :: os) h
    | _ => none
  | .dup_x1 => match os with
    | .int x :: .ref y :: os => K lo (.int x :: .ref y :: .int x :: os) h
    | _ => none
  | .dup2 => match os with
    | .int x :: .ref y :: os => K lo (.int x :: .ref y :: .int x :: .ref y :: os) h
    | _ => none
  | .pop => match os with
    | .int _ :: os => K lo (os) h
    | _ => none
  | .getfield _ => match os with
    | .ref a :: os => m_getK h a (m_d (m_hd ds) 0) ((ds[1]?).getD []) (fun w => K lo (w :: os) h)
    | _ => none
  | .putfield _ => match os with
    | w :: .ref a :: os => m_putK h a (m_d (m_hd ds) 0) ((ds[1]?).getD []) w (fun h => K lo os h)
    | _ => none
  | .iaload => match os with
    | .int j :: .ref a :: os => m_aldK sc h [100] a j (fun w => K lo (.int w :: os) h)
    | _ => none
  | .baload => match os with
    | .int j :: .ref a :: os => m_aldK sc h [101, 102] a j (fun w => K lo (.int w :: os) h)
    | _ => none
  | .aaload => match os with
    | .int j :: .ref a :: os => m_aqK h a j (fun w => K lo (w :: os) h)
    | _ => none
  | .iastore => match os with
    | .int x :: .int j :: .ref a :: os => m_astK h [100] a j x (fun h => K lo os h)
    | _ => none
  | .bastore => match os with
    | .int x :: .int j :: .ref a :: os => m_astK h [101, 102] a j x (fun h => K lo os h)
    | _ => none
  | .aastore => match os with
    | .ref x :: .int j :: .ref a :: os => match m_aqs h a j x with
      | some h => K lo (os) h
      | none => none
    | _ => none
  | .arraylength => match os with
    | .ref a :: os => match m_len sc h a with
      | some w => K lo (.int w :: os) h
      | none => none
    | _ => none
  | .new _ => K lo (.ref h.1.length :: os) (m_new h (m_d (m_hd ds) 0, m_d (m_hd ds) 1, List.replicate (m_d (m_hd ds) 1) none))
  | .newarray t => match os with
    | .int n :: os => if n < 0 ∨ 100000 ≤ n.toNatClampNeg then none else K lo (.ref h.1.length :: os) (m_new h (m_aty t, n.toNatClampNeg, []))
    | _ => none
  | .anewarray _ => match os with
    | .int n :: os => if n < 0 ∨ 100000 ≤ n.toNatClampNeg then none else K lo (.ref h.1.length :: os) (m_new h (105, n.toNatClampNeg, List.replicate n.toNatClampNeg none))
    | _ => none
  | .multianewarray _ _ => match os with
    | .int k :: .int n :: os => if n < 0 ∨ k < 0 ∨ 100000 ≤ n.toNatClampNeg ∨ 100000 ≤ k.toNatClampNeg then none else K lo (.ref h.1.length :: os) (m_mul h n.toNatClampNeg k.toNatClampNeg)
    | _ => none
  | _ => none
def m_BK (sc : mS) (cal : mK) (F : mG → Option mF) : List mO → Nat → mL → List Value → mH → Option mF
  | [], pc, lo, os, h => F (.inr (pc, lo, os, h))
  | (i, n, v, ds) :: r, pc, lo, os, h =>
    match i with
    | .goto _ => F (.inr (m_d (m_hd ds) 0, lo, os, h))
    | .ifCond c _ => match os with
      | .int x :: os => m_br c x 0 (F (.inr (m_d (m_hd ds) 0, lo, os, h))) (m_BK sc cal F r (pc + n) lo os h)
      | _ => none
    | .if_icmp c _ => match os with
      | .int y :: .int x :: os => m_br c x y (F (.inr (m_d (m_hd ds) 0, lo, os, h))) (m_BK sc cal F r (pc + n) lo os h)
      | _ => none
    | .tableswitch _ _ _ _ => match os with
      | .int x :: os => F (.inr (m_case x (ds.drop 1) (m_d (m_hd ds) 0), lo, os, h))
      | _ => none
    | .lookupswitch _ _ => match os with
      | .int x :: os => F (.inr (m_case x (ds.drop 1) (m_d (m_hd ds) 0), lo, os, h))
      | _ => none
    | .ireturn => match os with
      | [.int x] => bif Nat.beq (m_d (m_hd ds) 0) 1 then (if x = 0 ∨ x = 1 then F (.inl (some (.int x), h)) else none) else F (.inl (some (.int x), h))
      | _ => none
    | .lreturn => match os with
      | [.long x] => F (.inl (some (.long x), h))
      | _ => none
    | .return_ => match os with
      | [] => F (.inl (none, h))
      | _ => none
    | .invokestatic _ => bif Nat.ble 995 (m_d (m_hd ds) 1) then
        (match m_spc (m_d (m_hd ds) 1) os h with
        | some (os, h) => m_BK sc cal F r (pc + n) lo os h
        | none => none) else
        m_bd (cal (m_d (m_hd ds) 1) (os.take (m_d (m_hd ds) 0)).reverse h) (fun w h => bif Nat.ble (m_d (m_hd ds) 0) os.length && Nat.ble (m_cat (os.drop (m_d (m_hd ds) 0))) 8 then m_BK sc cal F r (pc + n) lo (w.toList ++ os.drop (m_d (m_hd ds) 0)) h else none)
    | .invokespecial _ => match os.drop (m_d (m_hd ds) 0) with
      | .ref a :: os' => bif Nat.ble (m_cat os') 8 then
          (bif Nat.beq (m_d (m_hd ds) 1) 999 then m_BK sc cal F r (pc + n) lo os' h else
          bif m_isO h a then m_bd (cal (m_d (m_hd ds) 1) (.ref a :: (os.take (m_d (m_hd ds) 0)).reverse) h) (fun w h => m_BK sc cal F r (pc + n) lo (w.toList ++ os') h) else none) else none
      | _ => none
    | .invokevirtual _ => match os.drop (m_d (m_hd ds) 0) with
      | .ref a :: os' => bif Nat.ble (m_cat os') 8 then
          (match m_pick h a (ds.drop 1) with
          | some k => m_bd (cal k (.ref a :: (os.take (m_d (m_hd ds) 0)).reverse) h) (fun w h => m_BK sc cal F r (pc + n) lo (w.toList ++ os') h)
          | none => none) else none
      | _ => none
    | i => m_1K sc i v ds lo os h (fun lo os h => m_BK sc cal F r (pc + n) lo os h)
def m_o3 {α : Type} (o : Option (mL × List Value × mH)) (K : mL → List Value → mH → Option α) : Option α := match o with
  | some (lo, os, h) => K lo os h
  | none => none
theorem m_getK_eq {α : Type} (h : mH) (i k : Nat) (cs : List Nat) (K : Value → Option α) : m_getK h i k cs K = match m_get h i k cs with
    | some w => K w
    | none => none := by
  unfold m_getK m_get
  cases h.1[i]? with
  | none => rfl
  | some q =>
    obtain ⟨c, n, rs⟩ := q
    show (bif _ then _ else _) = match (bif _ then _ else _) with | some w => K w | none => none
    cases (cs.elem c && Nat.blt k n) with
    | false => rfl
    | true => cases m_num (m_ty c k) <;> rfl
theorem m_putK_eq {α : Type} (h : mH) (i k : Nat) (cs : List Nat) (v : Value) (K : mH → Option α) : m_putK h i k cs v K = match m_put h i k cs v with
    | some w => K w
    | none => none := by
  unfold m_putK m_put
  cases h.1[i]? with
  | none => rfl
  | some q =>
    obtain ⟨c, n, rs⟩ := q
    show (bif _ then _ else _) = match (bif _ then _ else _) with | some w => K w | none => none
    cases (cs.elem c && Nat.blt k n) with
    | false => rfl
    | true =>
      cases v
      case int x =>
        show (bif _ then (bif _ then (if _ then _ else _) else _) else _) = match (bif _ then (bif _ then (if _ then _ else _) else _) else _) with | some w => K w | none => none
        cases m_num (m_ty c k) with
        | false => rfl
        | true =>
          cases m_isZ (m_ty c k) with
          | false => rfl
          | true =>
            show (if _ then _ else _) = match (if _ then _ else _) with | some w => K w | none => none
            by_cases hx : x = 0 ∨ x = 1
            · rw [if_pos hx, if_pos hx]
            · rw [if_neg hx, if_neg hx]
      case ref a =>
        show (bif _ then _ else _) = match (bif _ then _ else _) with | some w => K w | none => none
        cases (m_isR (m_ty c k) && Nat.blt k rs.length) <;> rfl
      all_goals rfl
theorem m_aldK_eq {α : Type} (sc : mS) (h : mH) (ks : List Nat) (i : Nat) (j : Int32) (K : Int32 → Option α) : m_aldK sc h ks i j K = match m_ald sc h ks i j with
    | some w => K w
    | none => none := by
  unfold m_aldK m_ald
  cases h.1[i]? with
  | none =>
    cases sc with
    | none => rfl
    | some q =>
      obtain ⟨L, xs⟩ := q
      show (bif _ then m_ob _ _ else _) = match (bif _ then _ else _) with | some w => K w | none => none
      cases (Nat.beq i m_scr0 && ks.elem 100) with
      | false => rfl
      | true => cases m_ix j L <;> rfl
  | some q =>
    obtain ⟨c, n, rs⟩ := q
    show (bif _ then m_ob _ _ else _) = match (bif _ then _ else _) with | some w => K w | none => none
    cases ks.elem c with
    | false => rfl
    | true => cases m_ix j n <;> rfl
theorem m_astK_eq {α : Type} (h : mH) (ks : List Nat) (i : Nat) (j x : Int32) (K : mH → Option α) : m_astK h ks i j x K = match m_ast h ks i j x with
    | some w => K w
    | none => none := by
  unfold m_astK m_ast
  cases h.1[i]? with
  | none => rfl
  | some q =>
    obtain ⟨c, n, rs⟩ := q
    show (bif _ then m_ob _ _ else _) = match (bif _ then _ else _) with | some w => K w | none => none
    cases ks.elem c with
    | false => rfl
    | true => cases m_ix j n <;> rfl
theorem m_aqK_eq {α : Type} (h : mH) (i : Nat) (j : Int32) (K : Value → Option α) : m_aqK h i j K = match m_aq h i j with
    | some w => K w
    | none => none := by
  unfold m_aqK m_aq
  cases h.1[i]? with
  | none => rfl
  | some q =>
    obtain ⟨c, n, rs⟩ := q
    show (bif _ then m_ob _ _ else _) = match (bif _ then _ else _) with | some w => K w | none => none
    cases (Nat.beq c 104 || Nat.beq c 105) with
    | false => rfl
    | true => cases m_ix j n <;> rfl
theorem m_1K_eq {α : Type} (sc : mS) (i : Instr) (v : Int32 × Int64) (ds : List (List Nat)) (lo : mL) (os : List Value) (h : mH) (K : mL → List Value → mH → Option α) : m_1K sc i v ds lo os h K = match m_1 sc i v ds lo os h with
    | some (lo, os, h) => K lo os h
    | none => none := by
  cases i
  case getfield z => rcases os with _ | ⟨w1, os⟩ <;> first | rfl | (cases w1 <;> first | rfl | (simp only [m_1K, m_1, m_getK_eq]; split <;> rename_i hq <;> rw [hq]))
  case putfield z =>
    rcases os with _ | ⟨w2, os⟩
    · rfl
    · rcases os with _ | ⟨w1, os⟩
      · rfl
      · cases w1
        case ref a =>
          simp only [m_1K, m_1, m_putK_eq]
          split <;> rename_i hq <;> rw [hq]
        all_goals rfl
  case iaload => rcases os with _ | ⟨w2, os⟩ <;> first | rfl | (cases w2 <;> first | rfl | (rcases os with _ | ⟨w1, os⟩ <;> first | rfl | (cases w1 <;> first | rfl | (simp only [m_1K, m_1, m_aldK_eq]; split <;> rename_i hq <;> rw [hq]))))
  case baload => rcases os with _ | ⟨w2, os⟩ <;> first | rfl | (cases w2 <;> first | rfl | (rcases os with _ | ⟨w1, os⟩ <;> first | rfl | (cases w1 <;> first | rfl | (simp only [m_1K, m_1, m_aldK_eq]; split <;> rename_i hq <;> rw [hq]))))
  case aaload => rcases os with _ | ⟨w2, os⟩ <;> first | rfl | (cases w2 <;> first | rfl | (rcases os with _ | ⟨w1, os⟩ <;> first | rfl | (cases w1 <;> first | rfl | (simp only [m_1K, m_1, m_aqK_eq]; split <;> rename_i hq <;> rw [hq]))))
  case iastore => rcases os with _ | ⟨w3, os⟩ <;> first | rfl | (cases w3 <;> first | rfl | (rcases os with _ | ⟨w2, os⟩ <;> first | rfl | (cases w2 <;> first | rfl | (rcases os with _ | ⟨w1, os⟩ <;> first | rfl | (cases w1 <;> first | rfl | (simp only [m_1K, m_1, m_astK_eq]; split <;> rename_i hq <;> rw [hq]))))))
  case bastore => rcases os with _ | ⟨w3, os⟩ <;> first | rfl | (cases w3 <;> first | rfl | (rcases os with _ | ⟨w2, os⟩ <;> first | rfl | (cases w2 <;> first | rfl | (rcases os with _ | ⟨w1, os⟩ <;> first | rfl | (cases w1 <;> first | rfl | (simp only [m_1K, m_1, m_astK_eq]; split <;> rename_i hq <;> rw [hq]))))))
  case aastore => rcases os with _ | ⟨w3, os⟩ <;> first | rfl | (cases w3 <;> first | rfl | (rcases os with _ | ⟨w2, os⟩ <;> first | rfl | (cases w2 <;> first | rfl | (rcases os with _ | ⟨w1, os⟩ <;> first | rfl | (cases w1 <;> first | rfl | (simp only [m_1K, m_1]; split <;> rename_i hq <;> simp only [hq]))))))
  case arraylength => rcases os with _ | ⟨w1, os⟩ <;> first | rfl | (cases w1 <;> first | rfl | (simp only [m_1K, m_1]; split <;> rename_i hq <;> simp only [hq]))
  case iload z =>
    simp only [m_1K, m_1]
    rcases m_ld lo z with _ | w
    · rfl
    · cases w <;> rfl
  case iload_n z =>
    simp only [m_1K, m_1]
    rcases m_ld lo z.1 with _ | w
    · rfl
    · cases w <;> rfl
  case lload z =>
    simp only [m_1K, m_1]
    rcases m_ld lo z with _ | w
    · rfl
    · cases w <;> rfl
  case lload_n z =>
    simp only [m_1K, m_1]
    rcases m_ld lo z.1 with _ | w
    · rfl
    · cases w <;> rfl
  case aload z =>
    simp only [m_1K, m_1]
    rcases m_ld lo z with _ | w
    · rfl
    · cases w <;> rfl
  case aload_n z =>
    simp only [m_1K, m_1]
    rcases m_ld lo z.1 with _ | w
    · rfl
    · cases w <;> rfl
  case iinc z y =>
    simp only [m_1K, m_1]
    rcases m_ld lo z with _ | w
    · rfl
    · cases w <;> rfl
  case idiv => rcases os with _ | ⟨w2, os⟩ <;> first | rfl | (cases w2 <;> first | rfl | (rcases os with _ | ⟨w1, os⟩ <;> first | rfl | (cases w1 <;> first | rfl | (simp only [m_1K, m_1]; split <;> rfl))))
  case irem => rcases os with _ | ⟨w2, os⟩ <;> first | rfl | (cases w2 <;> first | rfl | (rcases os with _ | ⟨w1, os⟩ <;> first | rfl | (cases w1 <;> first | rfl | (simp only [m_1K, m_1]; split <;> rfl))))
  case newarray z => rcases os with _ | ⟨w1, os⟩ <;> first | rfl | (cases w1 <;> first | rfl | (simp only [m_1K, m_1]; split <;> rfl))
  case anewarray z => rcases os with _ | ⟨w1, os⟩ <;> first | rfl | (cases w1 <;> first | rfl | (simp only [m_1K, m_1]; split <;> rfl))
  case multianewarray z y => rcases os with _ | ⟨w2, os⟩ <;> first | rfl | (cases w2 <;> first | rfl | (rcases os with _ | ⟨w1, os⟩ <;> first | rfl | (cases w1 <;> first | rfl | (simp only [m_1K, m_1]; split <;> rfl))))
  case ldc z =>
    simp only [m_1K, m_1]
    rcases m_hd ds with _ | ⟨a, _ | ⟨b, _ | ⟨c, l⟩⟩⟩
    · rfl
    · rcases a with _ | _ | a <;> rfl
    · rcases a with _ | _ | a <;> rfl
    · rcases a with _ | _ | a <;> rfl
  all_goals first | rfl | (rcases os with _ | ⟨w2, os⟩ <;> first | rfl | (cases w2 <;> first | rfl | (rcases os with _ | ⟨w1, os⟩ <;> first | rfl | (cases w1 <;> first | rfl | (fail)))))
theorem m_br_map {i : Jvm.ClassFile.Cond} {x y : Int32} (F : mG → Option mF) (a b : Option mG) : m_ob (m_br i x y a b) F = m_br i x y (m_ob a F) (m_ob b F) := by
  cases i <;> simp only [m_br] <;> split <;> rfl
theorem m_BK_eq (sc : mS) (cal : mK) (F : mG → Option mF) : ∀ (ops : List mO) (pc : Nat) (lo : mL) (os : List Value) (h : mH), m_BK sc cal F ops pc lo os h = m_ob (m_B sc cal ops pc lo os h) F
  | [], pc, lo, os, h => rfl
  | (i, n, v, ds) :: r, pc, lo, os, h => by
    have ih := m_BK_eq sc cal F r
    by_cases hi : (∀ o, i ≠ .goto o) ∧ (∀ c o, i ≠ .ifCond c o) ∧ (∀ c o, i ≠ .if_icmp c o) ∧ (∀ a b c d, i ≠ .tableswitch a b c d) ∧ (∀ a b, i ≠ .lookupswitch a b) ∧ i ≠ .ireturn ∧ i ≠ .lreturn ∧ i ≠ .return_ ∧ (∀ z, i ≠ .invokestatic z) ∧ (∀ z, i ≠ .invokespecial z) ∧ ∀ z, i ≠ .invokevirtual z
    · have e : m_BK sc cal F ((i, n, v, ds) :: r) pc lo os h = m_1K sc i v ds lo os h (fun lo os h => m_BK sc cal F r (pc + n) lo os h) := by
        obtain ⟨h1, h2, h3, h4, h5, h6, h7, h8, h9, h10, h11⟩ := hi
        cases i
        case goto o => exact absurd rfl (h1 o)
        case ifCond c o => exact absurd rfl (h2 c o)
        case if_icmp c o => exact absurd rfl (h3 c o)
        case tableswitch a b c d => exact absurd rfl (h4 a b c d)
        case lookupswitch a b => exact absurd rfl (h5 a b)
        case ireturn => exact absurd rfl h6
        case lreturn => exact absurd rfl h7
        case return_ => exact absurd rfl h8
        case invokestatic z => exact absurd rfl (h9 z)
        case invokespecial z => exact absurd rfl (h10 z)
        case invokevirtual z => exact absurd rfl (h11 z)
        all_goals rfl
      rw [e, m_1K_eq, m_B_simple _ _ _ _ _ _ _ _ _ _ _ hi]
      cases m_1 sc i v ds lo os h with
      | none => rfl
      | some q => exact ih _ _ _ _
    · cases i
      case goto o => rfl
      case ifCond c o => rcases os with _ | ⟨w1, os⟩ <;> first | rfl | (cases w1 <;> first | rfl | (simp only [m_BK, m_B]; rw [m_br_map, ← ih]; rfl))
      case if_icmp c o => rcases os with _ | ⟨w2, os⟩ <;> first | rfl | (cases w2 <;> first | rfl | (rcases os with _ | ⟨w1, os⟩ <;> first | rfl | (cases w1 <;> first | rfl | (simp only [m_BK, m_B]; rw [m_br_map, ← ih]; rfl))))
      case tableswitch a b c d => rcases os with _ | ⟨w1, os⟩ <;> first | rfl | (cases w1 <;> first | rfl | (rfl))
      case lookupswitch a b => rcases os with _ | ⟨w1, os⟩ <;> first | rfl | (cases w1 <;> first | rfl | (rfl))
      case ireturn =>
        rcases os with _ | ⟨w1, os⟩
        · rfl
        · cases w1
          case int x =>
            rcases os with _ | ⟨w2, os⟩
            · simp only [m_BK, m_B]
              cases Nat.beq (m_d (m_hd ds) 0) 1 with
              | true =>
                rw [cond_true, cond_true]
                split <;> rfl
              | false => rfl
            · rfl
          all_goals rfl
      case lreturn =>
        rcases os with _ | ⟨w1, os⟩
        · rfl
        · cases w1
          case long x => rcases os with _ | ⟨w2, os⟩ <;> rfl
          all_goals rfl
      case return_ => rcases os with _ | ⟨w2, os⟩ <;> rfl
      case invokestatic z =>
        simp only [m_BK, m_B]
        cases Nat.ble 995 (m_d (m_hd ds) 1) with
        | true =>
          rw [cond_true, cond_true]
          cases m_spc (m_d (m_hd ds) 1) os h with
          | none => rfl
          | some q => exact ih _ _ _ _
        | false =>
          rw [cond_false, cond_false]
          cases cal (m_d (m_hd ds) 1) (os.take (m_d (m_hd ds) 0)).reverse h with
          | none => rfl
          | some q =>
            obtain ⟨w, h2⟩ := q
            show (bif _ then _ else _) = m_ob (bif _ then _ else _) F
            cases (Nat.ble (m_d (m_hd ds) 0) os.length && Nat.ble (m_cat (os.drop (m_d (m_hd ds) 0))) 8) with
            | false => rfl
            | true => exact ih _ _ _ _
      case invokespecial z =>
        simp only [m_BK, m_B]
        rcases os.drop (m_d (m_hd ds) 0) with _ | ⟨w1, os'⟩
        · rfl
        · cases w1
          case ref a =>
            show (bif _ then _ else _) = m_ob (bif _ then _ else _) F
            cases Nat.ble (m_cat os') 8 with
            | false => rfl
            | true =>
              rw [cond_true, cond_true]
              cases Nat.beq (m_d (m_hd ds) 1) 999 with
              | true => exact ih _ _ _ _
              | false =>
                rw [cond_false, cond_false]
                cases m_isO h a with
                | false => rfl
                | true =>
                  rw [cond_true, cond_true]
                  cases cal (m_d (m_hd ds) 1) (.ref a :: (os.take (m_d (m_hd ds) 0)).reverse) h with
                  | none => rfl
                  | some q => exact ih _ _ _ _
          all_goals rfl
      case invokevirtual z =>
        simp only [m_BK, m_B]
        rcases os.drop (m_d (m_hd ds) 0) with _ | ⟨w1, os'⟩
        · rfl
        · cases w1
          case ref a =>
            show (bif _ then _ else _) = m_ob (bif _ then _ else _) F
            cases Nat.ble (m_cat os') 8 with
            | false => rfl
            | true =>
              rw [cond_true, cond_true]
              cases m_pick h a (ds.drop 1) with
              | none => rfl
              | some k =>
                show m_bd (cal k _ h) _ = m_ob (match cal k _ h with | some (w, h) => _ | none => _) F
                cases cal k (.ref a :: (os.take (m_d (m_hd ds) 0)).reverse) h with
                | none => rfl
                | some q => exact ih _ _ _ _
          all_goals rfl
      all_goals exact absurd ⟨by simp, by simp, by simp, by simp, by simp, by simp, by simp, by simp, by simp, by simp, by simp⟩ hi
/-- what a block hands on -/
noncomputable def m_lf (sc : mS) (d k : Nat) : mG → Option mF
  | .inl r => bif m_isN r.1 then some r else none
  | .inr (pc, lo, os, h) => m_ev sc d k pc lo os h
/-- ONE BLOCK OF A RUN, by continuations -/
theorem m_ev_K (sc : mS) (d k pc : Nat) (lo : mL) (os : List Value) (h : mH) : m_ev sc d k pc lo os h = m_BK sc (m_evc d) (m_lf sc d k) (mP k pc) pc lo os h := by
  rw [m_BK_eq]
  have hcc : ∀ f k as h r, m_cal f d k as h = some r → m_evc d k as h = some r := by
    intro f k as h r hq
    unfold m_cal at hq
    unfold m_evc
    split at hq
    · cases hq
    · rename_i d'
      cases hb : Nat.ble 900 k with
      | true => rw [hb, cond_true] at hq; simp only [hb, cond_true]; exact hq
      | false =>
        rw [hb, cond_false] at hq
        simp only [hb, cond_false]
        cases h5 : (Nat.blt k 268 && Nat.ble (m_lay as).length (mX k)) with
        | false => rw [h5, cond_false] at hq; cases hq
        | true => rw [h5, cond_true] at hq; rw [cond_true]; exact m_ev_of hq
  cases hB : m_B sc (m_evc d) (mP k pc) pc lo os h with
  | none =>
    cases hr : m_ev sc d k pc lo os h with
    | none => rfl
    | some r =>
      obtain ⟨f, hf⟩ := m_ev_run hr
      cases f with
      | zero => cases hf
      | succ f =>
        rw [m_run_s] at hf
        split at hf
        · rename_i r1 hB1; rw [m_B_mono (hcc f) _ _ _ _ _ _ hB1] at hB; cases hB
        · rename_i hB1; rw [m_B_mono (hcc f) _ _ _ _ _ _ hB1] at hB; cases hB
        · cases hf
  | some out =>
    cases out with
    | inl r =>
      show _ = bif m_isN r.1 then some r else none
      cases hn : m_isN r.1 with
      | true => rw [cond_true]; exact m_ev_ret hB hn
      | false =>
        rw [cond_false]
        cases hr : m_ev sc d k pc lo os h with
        | none => rfl
        | some r' =>
          obtain ⟨f, hf⟩ := m_ev_run hr
          cases f with
          | zero => cases hf
          | succ f =>
            rw [m_run_s] at hf
            split at hf
            · rename_i r1 hB1
              have h2 := m_B_mono (hcc f) _ _ _ _ _ _ hB1
              rw [hB] at h2
              cases h2
              rw [hn] at hf
              cases hf
            · rename_i hB1
              have h2 := m_B_mono (hcc f) _ _ _ _ _ _ hB1
              rw [hB] at h2
              cases h2
            · cases hf
    | inr q =>
      obtain ⟨pc', lo', os', h'⟩ := q
      show _ = m_ev sc d k pc' lo' os' h'
      cases hr : m_ev sc d k pc' lo' os' h' with
      | some r => exact m_ev_goto hB hr
      | none =>
        cases hr2 : m_ev sc d k pc lo os h with
        | none => rfl
        | some r' =>
          obtain ⟨f, hf⟩ := m_ev_run hr2
          cases f with
          | zero => cases hf
          | succ f =>
            rw [m_run_s] at hf
            split at hf
            · rename_i r1 hB1
              have h2 := m_B_mono (hcc f) _ _ _ _ _ _ hB1
              rw [hB] at h2
              cases h2
            · rename_i hB1
              have h2 := m_B_mono (hcc f) _ _ _ _ _ _ hB1
              rw [hB] at h2
              cases h2
              rw [m_ev_of hf] at hr
              cases hr
            · cases hf
