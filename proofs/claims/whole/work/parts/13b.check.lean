/-! THE CODE IS WHAT ITS BLOCKS SAY: by program, methods 90 to 179 -/
set_option maxRecDepth 100000 in
theorem m_ck_90 : ∀ k, k < 100 → 90 ≤ k → m_ckM k = true := by decide +kernel
set_option maxRecDepth 100000 in
theorem m_ck_100 : ∀ k, k < 110 → 100 ≤ k → m_ckM k = true := by decide +kernel
set_option maxRecDepth 100000 in
theorem m_ck_110 : ∀ k, k < 120 → 110 ≤ k → m_ckM k = true := by decide +kernel
set_option maxRecDepth 100000 in
theorem m_ck_120 : ∀ k, k < 130 → 120 ≤ k → m_ckM k = true := by decide +kernel
set_option maxRecDepth 100000 in
theorem m_ck_130 : ∀ k, k < 140 → 130 ≤ k → m_ckM k = true := by decide +kernel
set_option maxRecDepth 100000 in
theorem m_ck_140 : ∀ k, k < 150 → 140 ≤ k → m_ckM k = true := by decide +kernel
set_option maxRecDepth 100000 in
theorem m_ck_150 : ∀ k, k < 160 → 150 ≤ k → m_ckM k = true := by decide +kernel
set_option maxRecDepth 100000 in
theorem m_ck_160 : ∀ k, k < 170 → 160 ≤ k → m_ckM k = true := by decide +kernel
set_option maxRecDepth 100000 in
theorem m_ck_170 : ∀ k, k < 180 → 170 ≤ k → m_ckM k = true := by decide +kernel
