/-! THE CODE IS WHAT ITS BLOCKS SAY: by program -/
set_option maxRecDepth 100000 in
theorem m_ckk_0 : m_ckM 0 = true := by decide +kernel
set_option maxRecDepth 100000 in
theorem m_ckk_100 : m_ckM 100 = true := by decide +kernel
set_option maxRecDepth 100000 in
theorem m_ckk_260 : m_ckM 260 = true := by decide +kernel
set_option maxRecDepth 100000 in
theorem m_ckk_261 : m_ckM 261 = true := by decide +kernel
set_option maxRecDepth 100000 in
theorem m_ckk_262 : m_ckM 262 = true := by decide +kernel
set_option maxRecDepth 100000 in
theorem m_ckk_263 : m_ckM 263 = true := by decide +kernel
set_option maxRecDepth 100000 in
theorem m_ckk_264 : m_ckM 264 = true := by decide +kernel
set_option maxRecDepth 100000 in
theorem m_ckk_265 : m_ckM 265 = true := by decide +kernel
set_option maxRecDepth 100000 in
theorem m_ckk_266 : m_ckM 266 = true := by decide +kernel
set_option maxRecDepth 100000 in
theorem m_ckk_267 : m_ckM 267 = true := by decide +kernel
theorem m_pls : plainName "java/lang/String" = true := by decide +kernel
theorem m_pls2 : plainName "java/lang/StringLatin1" = true := by decide +kernel
theorem m_pls3 : plainName "jdk/internal/util/Preconditions" = true := by decide +kernel
