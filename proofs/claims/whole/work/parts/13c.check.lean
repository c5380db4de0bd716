/-! THE CODE IS WHAT ITS BLOCKS SAY: by program, methods 180 to 267 -/
set_option maxRecDepth 100000 in
theorem m_ck_180 : ∀ k, k < 190 → 180 ≤ k → m_ckM k = true := by decide +kernel
set_option maxRecDepth 100000 in
theorem m_ck_190 : ∀ k, k < 200 → 190 ≤ k → m_ckM k = true := by decide +kernel
set_option maxRecDepth 100000 in
theorem m_ck_200 : ∀ k, k < 210 → 200 ≤ k → m_ckM k = true := by decide +kernel
set_option maxRecDepth 100000 in
theorem m_ck_210 : ∀ k, k < 220 → 210 ≤ k → m_ckM k = true := by decide +kernel
set_option maxRecDepth 100000 in
theorem m_ck_220 : ∀ k, k < 230 → 220 ≤ k → m_ckM k = true := by decide +kernel
set_option maxRecDepth 100000 in
theorem m_ck_230 : ∀ k, k < 240 → 230 ≤ k → m_ckM k = true := by decide +kernel
set_option maxRecDepth 100000 in
theorem m_ck_240 : ∀ k, k < 250 → 240 ≤ k → m_ckM k = true := by decide +kernel
set_option maxRecDepth 100000 in
theorem m_ck_250 : ∀ k, k < 260 → 250 ≤ k → m_ckM k = true := by decide +kernel
set_option maxRecDepth 100000 in
theorem m_ck_260 : ∀ k, k < 268 → 260 ≤ k → m_ckM k = true := by decide +kernel
