/-! THE CODE OF THE LAW: by program, ten blocks from 80 on -/
set_option maxRecDepth 100000 in
theorem m_ckm_80 : (((mBl 268).drop 80).take 10).all (fun e => m_ckB (m_y 268).cls (m_y 268).name (m_mx 268) (m_rt 268) (m_by 268) e.2 e.1) = true := by decide +kernel
