/-! THE CODE IS WHAT ITS BLOCKS SAY: by program -/
set_option maxRecDepth 100000 in
theorem m_ck_0 : ((List.range 10).drop 0).all m_ckM = true := by decide +kernel
set_option maxRecDepth 100000 in
theorem m_ck_10 : ((List.range 20).drop 10).all m_ckM = true := by decide +kernel
set_option maxRecDepth 100000 in
theorem m_ck_20 : ((List.range 30).drop 20).all m_ckM = true := by decide +kernel
set_option maxRecDepth 100000 in
theorem m_ck_30 : ((List.range 40).drop 30).all m_ckM = true := by decide +kernel
set_option maxRecDepth 100000 in
theorem m_ck_40 : ((List.range 50).drop 40).all m_ckM = true := by decide +kernel
set_option maxRecDepth 100000 in
theorem m_ck_50 : ((List.range 60).drop 50).all m_ckM = true := by decide +kernel
set_option maxRecDepth 100000 in
theorem m_ck_60 : ((List.range 70).drop 60).all m_ckM = true := by decide +kernel
set_option maxRecDepth 100000 in
theorem m_ck_70 : ((List.range 80).drop 70).all m_ckM = true := by decide +kernel
set_option maxRecDepth 100000 in
theorem m_ck_80 : ((List.range 90).drop 80).all m_ckM = true := by decide +kernel
set_option maxRecDepth 100000 in
theorem m_ck_90 : ((List.range 100).drop 90).all m_ckM = true := by decide +kernel
set_option maxRecDepth 100000 in
theorem m_ck_100 : ((List.range 110).drop 100).all m_ckM = true := by decide +kernel
set_option maxRecDepth 100000 in
theorem m_ck_110 : ((List.range 120).drop 110).all m_ckM = true := by decide +kernel
set_option maxRecDepth 100000 in
theorem m_ck_120 : ((List.range 130).drop 120).all m_ckM = true := by decide +kernel
set_option maxRecDepth 100000 in
theorem m_ck_130 : ((List.range 140).drop 130).all m_ckM = true := by decide +kernel
set_option maxRecDepth 100000 in
theorem m_ck_140 : ((List.range 150).drop 140).all m_ckM = true := by decide +kernel
set_option maxRecDepth 100000 in
theorem m_ck_150 : ((List.range 160).drop 150).all m_ckM = true := by decide +kernel
set_option maxRecDepth 100000 in
theorem m_ck_160 : ((List.range 170).drop 160).all m_ckM = true := by decide +kernel
set_option maxRecDepth 100000 in
theorem m_ck_170 : ((List.range 180).drop 170).all m_ckM = true := by decide +kernel
set_option maxRecDepth 100000 in
theorem m_ck_180 : ((List.range 190).drop 180).all m_ckM = true := by decide +kernel
set_option maxRecDepth 100000 in
theorem m_ck_190 : ((List.range 200).drop 190).all m_ckM = true := by decide +kernel
set_option maxRecDepth 100000 in
theorem m_ck_200 : ((List.range 210).drop 200).all m_ckM = true := by decide +kernel
set_option maxRecDepth 100000 in
theorem m_ck_210 : ((List.range 220).drop 210).all m_ckM = true := by decide +kernel
set_option maxRecDepth 100000 in
theorem m_ck_220 : ((List.range 230).drop 220).all m_ckM = true := by decide +kernel
set_option maxRecDepth 100000 in
theorem m_ck_230 : ((List.range 240).drop 230).all m_ckM = true := by decide +kernel
set_option maxRecDepth 100000 in
theorem m_ck_240 : ((List.range 250).drop 240).all m_ckM = true := by decide +kernel
set_option maxRecDepth 100000 in
theorem m_ck_250 : ((List.range 260).drop 250).all m_ckM = true := by decide +kernel
set_option maxRecDepth 100000 in
theorem m_ck_260 : ((List.range 270).drop 260).all m_ckM = true := by decide +kernel
set_option maxRecDepth 100000 in
theorem m_ck_270 : ((List.range 271).drop 270).all m_ckM = true := by decide +kernel
set_option maxRecDepth 100000 in
theorem m_ck_law : m_ckM 271 = true := by decide +kernel
