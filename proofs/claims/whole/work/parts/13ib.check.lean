/-! THE CODE OF THE LAW: by program, ten blocks from 150 on -/
set_option maxRecDepth 100000 in
theorem m_ckm_150 : (((mBl 268).drop 150).take 10).all (fun e => m_ckB (m_y 268).cls (m_y 268).name (m_mx 268) (m_rt 268) (m_by 268) e.2 e.1) = true := by decide +kernel
theorem m_ckl_7 : (((mBl 268).drop (7 * 20)).take 20).all (fun e => m_ckB (m_y 268).cls (m_y 268).name (m_mx 268) (m_rt 268) (m_by 268) e.2 e.1) = true := m_ck2 _ _ 140 m_ckm_140 m_ckm_150
