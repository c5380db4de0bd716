/-! ALL SIMPLE INSTRUCTIONS AT ONCE; that heaps only grow -/
def m_le (h h' : mH) : Prop := h.1.length ≤ h'.1.length ∧ m_sz h ≤ m_sz h'
theorem m_le.rf {h : mH} : m_le h h := ⟨Nat.le_refl _, Nat.le_refl _⟩
theorem m_le.tr {a b c : mH} (h1 : m_le a b) (h2 : m_le b c) : m_le a c := ⟨Nat.le_trans h1.1 h2.1, Nat.le_trans h1.2 h2.2⟩
theorem m_le_new (h : mH) (c n : Nat) (rs : List (Option Nat)) : m_le h (m_new h (c, n, rs)) := ⟨by simp [m_new], by rw [m_sz_new]; omega⟩
theorem m_le_mul (h : mH) (n k : Nat) : m_le h (m_mul h n k) := ⟨by simp [m_mul], by simp [m_mul, m_sz]⟩
theorem m_le_fst {l : List mR} {st st' : Nat → Nat → Int32} : m_le (l, st) (l, st') := ⟨Nat.le_refl _, Nat.le_refl _⟩
theorem m_le_put {h h' : mH} {i k : Nat} {cs : List Nat} {w : Value} (hg : m_put h i k cs w = some h') : m_le h h' := by
  obtain ⟨c, n, rs, hi, -, -, hv⟩ := m_put_spec hg
  rcases hv with ⟨x, -, -, -, rfl⟩ | ⟨b, -, -, -, rfl⟩
  · exact m_le_fst
  · exact ⟨by simp, Nat.le_of_eq (m_sz_set _ _ hi).symm⟩
theorem m_le_ast {h h' : mH} {ks : List Nat} {i : Nat} {j x : Int32} (hg : m_ast h ks i j x = some h') : m_le h h' := by
  obtain ⟨c, n, rs, hi, -, -, rfl⟩ := m_ast_spec hg
  exact m_le_fst
theorem m_le_aqs {h h' : mH} {i : Nat} {j : Int32} {a : Nat} (hg : m_aqs h i j a = some h') : m_le h h' := by
  obtain ⟨n, rs, c1, n1, rs1, hi, -, -, -, -, rfl⟩ := m_aqs_spec hg
  exact ⟨by simp, Nat.le_of_eq (m_sz_set _ _ hi).symm⟩
theorem m_le_1 {sc : mS} {i : Instr} {v : Int32 × Int64} {ds : List (List Nat)} {lo lo' : mL} {os os' : List Value} {h h' : mH} (hr : m_1 sc i v ds lo os h = some (lo', os', h')) : m_le h h' := by
  cases i
  case putfield z =>
    simp only [m_1] at hr
    split at hr
    · split at hr
      · rename_i h2 hg; cases hr; exact m_le_put hg
      · cases hr
    · cases hr
  case iastore =>
    simp only [m_1] at hr
    split at hr
    · split at hr
      · rename_i h2 hg; cases hr; exact m_le_ast hg
      · cases hr
    · cases hr
  case bastore =>
    simp only [m_1] at hr
    split at hr
    · split at hr
      · rename_i h2 hg; cases hr; exact m_le_ast hg
      · cases hr
    · cases hr
  case aastore =>
    simp only [m_1] at hr
    split at hr
    · split at hr
      · rename_i h2 hg; cases hr; exact m_le_aqs hg
      · cases hr
    · cases hr
  case new z => simp only [m_1] at hr; cases hr; exact m_le_new _ _ _ _
  case newarray z =>
    simp only [m_1] at hr
    split at hr
    · split at hr
      · cases hr
      · cases hr; exact m_le_new _ _ _ _
    · cases hr
  case anewarray z =>
    simp only [m_1] at hr
    split at hr
    · split at hr
      · cases hr
      · cases hr; exact m_le_new _ _ _ _
    · cases hr
  case multianewarray z y =>
    simp only [m_1] at hr
    split at hr
    · split at hr
      · cases hr
      · cases hr; exact m_le_mul _ _ _
    · cases hr
  all_goals
    simp only [m_1] at hr
    first
      | (cases hr; done)
      | (cases hr; exact m_le.rf)
      | (split at hr <;> first | (cases hr; done) | (cases hr; exact m_le.rf) | (split at hr <;> first | (cases hr; done) | (cases hr; exact m_le.rf)))
section MI
variable {p : Program} {l : Launch} {e : Env} {R : Room} {s : State} {m : MethodId} {args : Array Value} {below : List Frame} {meth : Method} {c : Code} {Q : State → Prop} {cc : ByteArray} {own nm : String} {nL : Nat} {D : va_G} {dA : Nat → ClassId} {ad : Nat → Nat} {A : Nat → Prop} {B N0 S0 : Nat} {sc : mS} {pc n : Nat} {v : Int32 × Int64} {ds : List (List Nat)} {lo lo' : mL} {os os' : List Value} {h h' : mH}
theorem m_ok_1 {i : Instr} (hF : m_Fx p s m args meth c cc own nm nL D dA ad A B) (hSc : m_Sc s ad A sc) (hE : m_Ex s) (hT : m_Tx s ad) (hRm : m_Rm R N0 S0 h') (hdg : decode cc pc = .ok (i, n)) (hk : m_ck own nm nL i n v ds = true) (hr : m_1 sc i v ds lo os h = some (lo', os', h')) (kk : m_W p l e R s m args below meth c Q nL D dA ad A B N0 S0 (pc + n) lo' os' h') : m_W p l e R s m args below meth c Q nL D dA ad A B N0 S0 pc lo os h := by
  cases i
  case iconst => exact m_ok_iconst hF hdg hk hr kk
  case bipush => exact m_ok_bipush hF hdg hk hr kk
  case sipush => exact m_ok_sipush hF hdg hk hr kk
  case lconst => exact m_ok_lconst hF hdg hk hr kk
  case ldc => exact m_ok_ldc hF hT hdg hk hr kk
  case ldc_w => exact m_ok_ldc_w hF hdg hk hr kk
  case ldc2_w => exact m_ok_ldc2_w hF hdg hk hr kk
  case iload => exact m_ok_iload hF hdg hk hr kk
  case iload_n => exact m_ok_iload_n hF hdg hk hr kk
  case lload => exact m_ok_lload hF hdg hk hr kk
  case lload_n => exact m_ok_lload_n hF hdg hk hr kk
  case aload => exact m_ok_aload hF hdg hk hr kk
  case aload_n => exact m_ok_aload_n hF hdg hk hr kk
  case istore => exact m_ok_istore hF hdg hk hr kk
  case istore_n => exact m_ok_istore_n hF hdg hk hr kk
  case astore => exact m_ok_astore hF hdg hk hr kk
  case astore_n => exact m_ok_astore_n hF hdg hk hr kk
  case lstore => exact m_ok_lstore hF hdg hk hr kk
  case lstore_n => exact m_ok_lstore_n hF hdg hk hr kk
  case iinc => exact m_ok_iinc hF hdg hk hr kk
  case iadd => exact m_ok_iadd hF hdg hk hr kk
  case isub => exact m_ok_isub hF hdg hk hr kk
  case imul => exact m_ok_imul hF hdg hk hr kk
  case idiv => exact m_ok_idiv hF hdg hk hr kk
  case irem => exact m_ok_irem hF hdg hk hr kk
  case iand => exact m_ok_iand hF hdg hk hr kk
  case ior => exact m_ok_ior hF hdg hk hr kk
  case ixor => exact m_ok_ixor hF hdg hk hr kk
  case ishl => exact m_ok_ishl hF hdg hk hr kk
  case ishr => exact m_ok_ishr hF hdg hk hr kk
  case iushr => exact m_ok_iushr hF hdg hk hr kk
  case ladd => exact m_ok_ladd hF hdg hk hr kk
  case lmul => exact m_ok_lmul hF hdg hk hr kk
  case land => exact m_ok_land hF hdg hk hr kk
  case lor => exact m_ok_lor hF hdg hk hr kk
  case lshl => exact m_ok_lshl hF hdg hk hr kk
  case lshr => exact m_ok_lshr hF hdg hk hr kk
  case lushr => exact m_ok_lushr hF hdg hk hr kk
  case lcmp => exact m_ok_lcmp hF hdg hk hr kk
  case i2l => exact m_ok_i2l hF hdg hk hr kk
  case l2i => exact m_ok_l2i hF hdg hk hr kk
  case i2b => exact m_ok_i2b hF hdg hk hr kk
  case i2s => exact m_ok_i2s hF hdg hk hr kk
  case dup => exact m_ok_dup hF hdg hk hr kk
  case dup_x1 => exact m_ok_dup_x1 hF hdg hk hr kk
  case dup2 => exact m_ok_dup2 hF hdg hk hr kk
  case pop => exact m_ok_pop hF hdg hk hr kk
  case getfield => exact m_ok_getfield hF hdg hk hr kk
  case putfield => exact m_ok_putfield hF hdg hk hr kk
  case iaload => exact m_ok_iaload hF hSc hdg hk hr kk
  case baload => exact m_ok_baload hF hdg hk hr kk
  case aaload => exact m_ok_aaload hF hdg hk hr kk
  case iastore => exact m_ok_iastore hF hdg hk hr kk
  case bastore => exact m_ok_bastore hF hdg hk hr kk
  case aastore => exact m_ok_aastore hF hE hdg hk hr kk
  case arraylength => exact m_ok_arraylength hF hSc hdg hk hr kk
  case new => exact m_ok_new hF hRm hdg hk hr kk
  case newarray => exact m_ok_newarray hF hRm hdg hk hr kk
  case anewarray => exact m_ok_anewarray hF hE hRm hdg hk hr kk
  case multianewarray => exact m_ok_multianewarray hF hE hRm hdg hk hr kk
  all_goals (simp only [m_1] at hr; cases hr)
end MI
