/-! THE CODE IS WHAT ITS BLOCKS SAY: by program, methods 0 to 89 -/
set_option maxRecDepth 100000 in
theorem m_ck_0 : ∀ k, k < 10 → 0 ≤ k → m_ckM k = true := by decide +kernel
set_option maxRecDepth 100000 in
theorem m_ck_10 : ∀ k, k < 20 → 10 ≤ k → m_ckM k = true := by decide +kernel
set_option maxRecDepth 100000 in
theorem m_ck_20 : ∀ k, k < 30 → 20 ≤ k → m_ckM k = true := by decide +kernel
set_option maxRecDepth 100000 in
theorem m_ck_30 : ∀ k, k < 40 → 30 ≤ k → m_ckM k = true := by decide +kernel
set_option maxRecDepth 100000 in
theorem m_ck_40 : ∀ k, k < 50 → 40 ≤ k → m_ckM k = true := by decide +kernel
set_option maxRecDepth 100000 in
theorem m_ck_50 : ∀ k, k < 60 → 50 ≤ k → m_ckM k = true := by decide +kernel
set_option maxRecDepth 100000 in
theorem m_ck_60 : ∀ k, k < 70 → 60 ≤ k → m_ckM k = true := by decide +kernel
set_option maxRecDepth 100000 in
theorem m_ck_70 : ∀ k, k < 80 → 70 ≤ k → m_ckM k = true := by decide +kernel
set_option maxRecDepth 100000 in
theorem m_ck_80 : ∀ k, k < 90 → 80 ≤ k → m_ckM k = true := by decide +kernel
