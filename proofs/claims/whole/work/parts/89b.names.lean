/-! THE TAPE IN THE CLASS: tokens, names -/
theorem gplaceIn_0 {J : Nat} (hJ : J < 6) (d : Nat) (st : Nat → Nat → Int32) : m_ev none d 59 0 [some (.ref 35), some (.ref (1000000 + J)), none, none, none] [] (SH, st) = if (st 35 3) = 0 then (m_ev none d 59 9 [some (.ref 35), some (.ref (1000000 + J)), none, none, none] [] (SH, st)) else (some (some (.int (-1)), (SH, st))) := by
  have : J = 0 ∨ J = 1 ∨ J = 2 ∨ J = 3 ∨ J = 4 ∨ J = 5 := by omega
  rcases this with rfl | rfl | rfl | rfl | rfl | rfl
  · exact eaX6_placeIn_0 d st
  · exact ebX6_placeIn_0 d st
  · exact ecX6_placeIn_0 d st
  · exact edX6_placeIn_0 d st
  · exact eeX6_placeIn_0 d st
  · exact efX6_placeIn_0 d st
theorem gplaceIn_9 {J : Nat} (hJ : J < 6) (d : Nat) (st : Nat → Nat → Int32) : m_ev none d 59 9 [some (.ref 35), some (.ref (1000000 + J)), none, none, none] [] (SH, st) = m_ev none d 59 16 [some (.ref 35), some (.ref (1000000 + J)), some (.int 0), some (.int 0), some (.int 0)] [] (SH, st) := by
  have : J = 0 ∨ J = 1 ∨ J = 2 ∨ J = 3 ∨ J = 4 ∨ J = 5 := by omega
  rcases this with rfl | rfl | rfl | rfl | rfl | rfl
  · exact eaX6_placeIn_9 d st
  · exact ebX6_placeIn_9 d st
  · exact ecX6_placeIn_9 d st
  · exact edX6_placeIn_9 d st
  · exact eeX6_placeIn_9 d st
  · exact efX6_placeIn_9 d st
theorem gplaceIn_16 {J : Nat} (hJ : J < 6) (d : Nat) (st : Nat → Nat → Int32) (x2 x3 x4 : Int32) : m_ev none d 59 16 [some (.ref 35), some (.ref (1000000 + J)), some (.int x2), some (.int x3), some (.int x4)] [] (SH, st) = m_bd (m_evc d 900 [.ref (1000000 + J)] (SH, st)) fun w h => m_ev none d 59 22 [some (.ref 35), some (.ref (1000000 + J)), some (.int x2), some (.int x3), some (.int x4)] (w.toList ++ [.int x4]) h := by
  have : J = 0 ∨ J = 1 ∨ J = 2 ∨ J = 3 ∨ J = 4 ∨ J = 5 := by omega
  rcases this with rfl | rfl | rfl | rfl | rfl | rfl
  · exact eaX6_placeIn_16 d st x2 x3 x4
  · exact ebX6_placeIn_16 d st x2 x3 x4
  · exact ecX6_placeIn_16 d st x2 x3 x4
  · exact edX6_placeIn_16 d st x2 x3 x4
  · exact eeX6_placeIn_16 d st x2 x3 x4
  · exact efX6_placeIn_16 d st x2 x3 x4
theorem gplaceIn_22 {J : Nat} (hJ : J < 6) (d : Nat) (st : Nat → Nat → Int32) (x2 x3 x4 t0 t1 : Int32) : m_ev none d 59 22 [some (.ref 35), some (.ref (1000000 + J)), some (.int x2), some (.int x3), some (.int x4)] [.int t0, .int t1] (SH, st) = if t1 < t0 then (m_bd (m_evc d 901 [.ref (1000000 + J), .int x4] (SH, st)) fun w h => m_ev none d 59 31 [some (.ref 35), some (.ref (1000000 + J)), some (.int x2), some (.int x3), some (.int x4)] (w.toList ++ []) h) else (m_ev none d 59 63 [some (.ref 35), some (.ref (1000000 + J)), some (.int x2), some (.int x3), some (.int x4)] [] (SH, st)) := by
  have : J = 0 ∨ J = 1 ∨ J = 2 ∨ J = 3 ∨ J = 4 ∨ J = 5 := by omega
  rcases this with rfl | rfl | rfl | rfl | rfl | rfl
  · exact eaX6_placeIn_22 d st x2 x3 x4 t0 t1
  · exact ebX6_placeIn_22 d st x2 x3 x4 t0 t1
  · exact ecX6_placeIn_22 d st x2 x3 x4 t0 t1
  · exact edX6_placeIn_22 d st x2 x3 x4 t0 t1
  · exact eeX6_placeIn_22 d st x2 x3 x4 t0 t1
  · exact efX6_placeIn_22 d st x2 x3 x4 t0 t1
theorem gplaceIn_31 {J : Nat} (hJ : J < 6) (d : Nat) (st : Nat → Nat → Int32) (x2 x3 x4 t0 : Int32) : m_ev none d 59 31 [some (.ref 35), some (.ref (1000000 + J)), some (.int x2), some (.int x3), some (.int x4)] [.int t0] (SH, st) = if t0 = 32 then (m_bd (m_evc d 60 [.ref 35, .ref (1000000 + J), .int x3, .int x4] (SH, st)) fun w h => m_ev none d 59 44 [some (.ref 35), some (.ref (1000000 + J)), some (.int x2), some (.int x3), some (.int x4)] (w.toList ++ []) h) else (m_ev none d 59 57 [some (.ref 35), some (.ref (1000000 + J)), some (.int x2), some (.int x3), some (.int x4)] [] (SH, st)) := by
  have : J = 0 ∨ J = 1 ∨ J = 2 ∨ J = 3 ∨ J = 4 ∨ J = 5 := by omega
  rcases this with rfl | rfl | rfl | rfl | rfl | rfl
  · exact eaX6_placeIn_31 d st x2 x3 x4 t0
  · exact ebX6_placeIn_31 d st x2 x3 x4 t0
  · exact ecX6_placeIn_31 d st x2 x3 x4 t0
  · exact edX6_placeIn_31 d st x2 x3 x4 t0
  · exact eeX6_placeIn_31 d st x2 x3 x4 t0
  · exact efX6_placeIn_31 d st x2 x3 x4 t0
theorem gplaceIn_44 {J : Nat} (hJ : J < 6) (d : Nat) (st : Nat → Nat → Int32) (x2 x3 x4 t0 : Int32) : m_ev none d 59 44 [some (.ref 35), some (.ref (1000000 + J)), some (.int x2), some (.int x3), some (.int x4)] [.int t0] (SH, st) = if t0 = 0 then (m_ev none d 59 49 [some (.ref 35), some (.ref (1000000 + J)), some (.int x2), some (.int x3), some (.int x4)] [] (SH, st)) else (some (some (.int x2), (SH, st))) := by
  have : J = 0 ∨ J = 1 ∨ J = 2 ∨ J = 3 ∨ J = 4 ∨ J = 5 := by omega
  rcases this with rfl | rfl | rfl | rfl | rfl | rfl
  · exact eaX6_placeIn_44 d st x2 x3 x4 t0
  · exact ebX6_placeIn_44 d st x2 x3 x4 t0
  · exact ecX6_placeIn_44 d st x2 x3 x4 t0
  · exact edX6_placeIn_44 d st x2 x3 x4 t0
  · exact eeX6_placeIn_44 d st x2 x3 x4 t0
  · exact efX6_placeIn_44 d st x2 x3 x4 t0
theorem gplaceIn_49 {J : Nat} (hJ : J < 6) (d : Nat) (st : Nat → Nat → Int32) (x2 x3 x4 : Int32) : m_ev none d 59 49 [some (.ref 35), some (.ref (1000000 + J)), some (.int x2), some (.int x3), some (.int x4)] [] (SH, st) = m_ev none d 59 57 [some (.ref 35), some (.ref (1000000 + J)), some (.int (x2 + 1)), some (.int (x4 + 1)), some (.int x4)] [] (SH, st) := by
  have : J = 0 ∨ J = 1 ∨ J = 2 ∨ J = 3 ∨ J = 4 ∨ J = 5 := by omega
  rcases this with rfl | rfl | rfl | rfl | rfl | rfl
  · exact eaX6_placeIn_49 d st x2 x3 x4
  · exact ebX6_placeIn_49 d st x2 x3 x4
  · exact ecX6_placeIn_49 d st x2 x3 x4
  · exact edX6_placeIn_49 d st x2 x3 x4
  · exact eeX6_placeIn_49 d st x2 x3 x4
  · exact efX6_placeIn_49 d st x2 x3 x4
theorem gplaceIn_57 {J : Nat} (hJ : J < 6) (d : Nat) (st : Nat → Nat → Int32) (x2 x3 x4 : Int32) : m_ev none d 59 57 [some (.ref 35), some (.ref (1000000 + J)), some (.int x2), some (.int x3), some (.int x4)] [] (SH, st) = m_ev none d 59 16 [some (.ref 35), some (.ref (1000000 + J)), some (.int x2), some (.int x3), some (.int (x4 + 1))] [] (SH, st) := by
  have : J = 0 ∨ J = 1 ∨ J = 2 ∨ J = 3 ∨ J = 4 ∨ J = 5 := by omega
  rcases this with rfl | rfl | rfl | rfl | rfl | rfl
  · exact eaX6_placeIn_57 d st x2 x3 x4
  · exact ebX6_placeIn_57 d st x2 x3 x4
  · exact ecX6_placeIn_57 d st x2 x3 x4
  · exact edX6_placeIn_57 d st x2 x3 x4
  · exact eeX6_placeIn_57 d st x2 x3 x4
  · exact efX6_placeIn_57 d st x2 x3 x4
theorem gplaceIn_63 {J : Nat} (hJ : J < 6) (d : Nat) (st : Nat → Nat → Int32) (x2 x3 x4 : Int32) : m_ev none d 59 63 [some (.ref 35), some (.ref (1000000 + J)), some (.int x2), some (.int x3), some (.int x4)] [] (SH, st) = some (some (.int (-1)), (SH, st)) := by
  have : J = 0 ∨ J = 1 ∨ J = 2 ∨ J = 3 ∨ J = 4 ∨ J = 5 := by omega
  rcases this with rfl | rfl | rfl | rfl | rfl | rfl
  · exact eaX6_placeIn_63 d st x2 x3 x4
  · exact ebX6_placeIn_63 d st x2 x3 x4
  · exact ecX6_placeIn_63 d st x2 x3 x4
  · exact edX6_placeIn_63 d st x2 x3 x4
  · exact eeX6_placeIn_63 d st x2 x3 x4
  · exact efX6_placeIn_63 d st x2 x3 x4
theorem gisSpelt_0 {J : Nat} (hJ : J < 6) (d : Nat) (st : Nat → Nat → Int32) (x2 x3 : Int32) : m_ev none d 60 0 [some (.ref 35), some (.ref (1000000 + J)), some (.int x2), some (.int x3), none] [] (SH, st) = if (x3 - x2) = ((st 35 5) - (st 35 4)) then (m_ev none d 60 17 [some (.ref 35), some (.ref (1000000 + J)), some (.int x2), some (.int x3), none] [] (SH, st)) else (some (some (.int 0), (SH, st))) := by
  have : J = 0 ∨ J = 1 ∨ J = 2 ∨ J = 3 ∨ J = 4 ∨ J = 5 := by omega
  rcases this with rfl | rfl | rfl | rfl | rfl | rfl
  · exact eaX6_isSpelt_0 d st x2 x3
  · exact ebX6_isSpelt_0 d st x2 x3
  · exact ecX6_isSpelt_0 d st x2 x3
  · exact edX6_isSpelt_0 d st x2 x3
  · exact eeX6_isSpelt_0 d st x2 x3
  · exact efX6_isSpelt_0 d st x2 x3
theorem gisSpelt_17 {J : Nat} (hJ : J < 6) (d : Nat) (st : Nat → Nat → Int32) (x2 x3 : Int32) : m_ev none d 60 17 [some (.ref 35), some (.ref (1000000 + J)), some (.int x2), some (.int x3), none] [] (SH, st) = m_ev none d 60 20 [some (.ref 35), some (.ref (1000000 + J)), some (.int x2), some (.int x3), some (.int x2)] [] (SH, st) := by
  have : J = 0 ∨ J = 1 ∨ J = 2 ∨ J = 3 ∨ J = 4 ∨ J = 5 := by omega
  rcases this with rfl | rfl | rfl | rfl | rfl | rfl
  · exact eaX6_isSpelt_17 d st x2 x3
  · exact ebX6_isSpelt_17 d st x2 x3
  · exact ecX6_isSpelt_17 d st x2 x3
  · exact edX6_isSpelt_17 d st x2 x3
  · exact eeX6_isSpelt_17 d st x2 x3
  · exact efX6_isSpelt_17 d st x2 x3
theorem gisSpelt_20 {J : Nat} (hJ : J < 6) (d : Nat) (st : Nat → Nat → Int32) (x2 x3 x4 : Int32) : m_ev none d 60 20 [some (.ref 35), some (.ref (1000000 + J)), some (.int x2), some (.int x3), some (.int x4)] [] (SH, st) = if x4 < x3 then (m_bd (m_evc d 901 [.ref (1000000 + J), .int x4] (SH, st)) fun w h => m_ev none d 60 32 [some (.ref 35), some (.ref (1000000 + J)), some (.int x2), some (.int x3), some (.int x4)] (w.toList ++ []) h) else (m_ev none d 60 57 [some (.ref 35), some (.ref (1000000 + J)), some (.int x2), some (.int x3), some (.int x4)] [] (SH, st)) := by
  have : J = 0 ∨ J = 1 ∨ J = 2 ∨ J = 3 ∨ J = 4 ∨ J = 5 := by omega
  rcases this with rfl | rfl | rfl | rfl | rfl | rfl
  · exact eaX6_isSpelt_20 d st x2 x3 x4
  · exact ebX6_isSpelt_20 d st x2 x3 x4
  · exact ecX6_isSpelt_20 d st x2 x3 x4
  · exact edX6_isSpelt_20 d st x2 x3 x4
  · exact eeX6_isSpelt_20 d st x2 x3 x4
  · exact efX6_isSpelt_20 d st x2 x3 x4
theorem gisSpelt_32 {J : Nat} (hJ : J < 6) (d : Nat) (st : Nat → Nat → Int32) (x2 x3 x4 t0 : Int32) : m_ev none d 60 32 [some (.ref 35), some (.ref (1000000 + J)), some (.int x2), some (.int x3), some (.int x4)] [.int t0] (SH, st) = m_ob (m_ix (((st 35 4) + x4) - x2) 200) fun q1 => if t0 = (st 36 q1) then (m_ev none d 60 51 [some (.ref 35), some (.ref (1000000 + J)), some (.int x2), some (.int x3), some (.int x4)] [] (SH, st)) else (some (some (.int 0), (SH, st))) := by
  have : J = 0 ∨ J = 1 ∨ J = 2 ∨ J = 3 ∨ J = 4 ∨ J = 5 := by omega
  rcases this with rfl | rfl | rfl | rfl | rfl | rfl
  · exact eaX6_isSpelt_32 d st x2 x3 x4 t0
  · exact ebX6_isSpelt_32 d st x2 x3 x4 t0
  · exact ecX6_isSpelt_32 d st x2 x3 x4 t0
  · exact edX6_isSpelt_32 d st x2 x3 x4 t0
  · exact eeX6_isSpelt_32 d st x2 x3 x4 t0
  · exact efX6_isSpelt_32 d st x2 x3 x4 t0
theorem gisSpelt_51 {J : Nat} (hJ : J < 6) (d : Nat) (st : Nat → Nat → Int32) (x2 x3 x4 : Int32) : m_ev none d 60 51 [some (.ref 35), some (.ref (1000000 + J)), some (.int x2), some (.int x3), some (.int x4)] [] (SH, st) = m_ev none d 60 20 [some (.ref 35), some (.ref (1000000 + J)), some (.int x2), some (.int x3), some (.int (x4 + 1))] [] (SH, st) := by
  have : J = 0 ∨ J = 1 ∨ J = 2 ∨ J = 3 ∨ J = 4 ∨ J = 5 := by omega
  rcases this with rfl | rfl | rfl | rfl | rfl | rfl
  · exact eaX6_isSpelt_51 d st x2 x3 x4
  · exact ebX6_isSpelt_51 d st x2 x3 x4
  · exact ecX6_isSpelt_51 d st x2 x3 x4
  · exact edX6_isSpelt_51 d st x2 x3 x4
  · exact eeX6_isSpelt_51 d st x2 x3 x4
  · exact efX6_isSpelt_51 d st x2 x3 x4
theorem gisSpelt_57 {J : Nat} (hJ : J < 6) (d : Nat) (st : Nat → Nat → Int32) (x2 x3 x4 : Int32) : m_ev none d 60 57 [some (.ref 35), some (.ref (1000000 + J)), some (.int x2), some (.int x3), some (.int x4)] [] (SH, st) = some (some (.int 1), (SH, st)) := by
  have : J = 0 ∨ J = 1 ∨ J = 2 ∨ J = 3 ∨ J = 4 ∨ J = 5 := by omega
  rcases this with rfl | rfl | rfl | rfl | rfl | rfl
  · exact eaX6_isSpelt_57 d st x2 x3 x4
  · exact ebX6_isSpelt_57 d st x2 x3 x4
  · exact ecX6_isSpelt_57 d st x2 x3 x4
  · exact edX6_isSpelt_57 d st x2 x3 x4
  · exact eeX6_isSpelt_57 d st x2 x3 x4
  · exact efX6_isSpelt_57 d st x2 x3 x4
theorem gcal_placeIn {J : Nat} (hJ : J < 6) (d : Nat) (st : Nat → Nat → Int32) : m_evc (d + 1) 59 [.ref 35, .ref (1000000 + J)] (SH, st) = m_ev none d 59 0 [some (.ref 35), some (.ref (1000000 + J)), none, none, none] [] (SH, st) := by
  have : J = 0 ∨ J = 1 ∨ J = 2 ∨ J = 3 ∨ J = 4 ∨ J = 5 := by omega
  rcases this with rfl | rfl | rfl | rfl | rfl | rfl
  · exact cal_aX6_placeIn d st
  · exact cal_bX6_placeIn d st
  · exact cal_cX6_placeIn d st
  · exact cal_dX6_placeIn d st
  · exact cal_eX6_placeIn d st
  · exact cal_fX6_placeIn d st
theorem gcal_isSpelt {J : Nat} (hJ : J < 6) (d : Nat) (st : Nat → Nat → Int32) (x2 x3 : Int32) : m_evc (d + 1) 60 [.ref 35, .ref (1000000 + J), .int x2, .int x3] (SH, st) = m_ev none d 60 0 [some (.ref 35), some (.ref (1000000 + J)), some (.int x2), some (.int x3), none] [] (SH, st) := by
  have : J = 0 ∨ J = 1 ∨ J = 2 ∨ J = 3 ∨ J = 4 ∨ J = 5 := by omega
  rcases this with rfl | rfl | rfl | rfl | rfl | rfl
  · exact cal_aX6_isSpelt d st x2 x3
  · exact cal_bX6_isSpelt d st x2 x3
  · exact cal_cX6_isSpelt d st x2 x3
  · exact cal_dX6_isSpelt d st x2 x3
  · exact cal_eX6_isSpelt d st x2 x3
  · exact cal_fX6_isSpelt d st x2 x3
