/-! THE CODE OF THE LAW: by program, ten blocks from 90 on -/
theorem m_ck2 {α : Type} (p : α → Bool) (l : List α) (a : Nat) (h1 : ((l.drop a).take 10).all p = true) (h2 : ((l.drop (a + 10)).take 10).all p = true) : ((l.drop a).take 20).all p = true := by
  rw [show (20 : Nat) = 10 + 10 from rfl, List.take_add, List.all_append, h1, List.drop_drop, h2]
  rfl
set_option maxRecDepth 100000 in
theorem m_ckm_90 : (((mBl 268).drop 90).take 10).all (fun e => m_ckB (m_y 268).cls (m_y 268).name (m_mx 268) (m_rt 268) (m_by 268) e.2 e.1) = true := by decide +kernel
theorem m_ckl_4 : (((mBl 268).drop (4 * 20)).take 20).all (fun e => m_ckB (m_y 268).cls (m_y 268).name (m_mx 268) (m_rt 268) (m_by 268) e.2 e.1) = true := m_ck2 _ _ 80 m_ckm_80 m_ckm_90
