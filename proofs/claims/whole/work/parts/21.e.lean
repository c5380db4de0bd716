set_option maxRecDepth 20000 in
theorem eX1_cries_0 (d : Nat) (st : Nat → Nat → Int32) (x1 : Int32) : m_ev none d 17 0 [some (.ref 82), some (.int x1)] [] (SH, st) = m_bd (m_evc d 66 [.ref 76, .int 50] (SH, st)) fun w h => m_ev none d 17 9 [some (.ref 82), some (.int x1)] (w.toList ++ []) h := m_ev_K _ _ _ _ _ _ _
set_option maxRecDepth 20000 in
theorem eX1_cries_9 (d : Nat) (st : Nat → Nat → Int32) (x1 : Int32) : m_ev none d 17 9 [some (.ref 82), some (.int x1)] [] (SH, st) = m_bd (m_evc d 75 [.ref 82, .int x1] (SH, st)) fun w h => m_ev none d 17 14 [some (.ref 82), some (.int x1)] (w.toList ++ []) h := m_ev_K _ _ _ _ _ _ _
set_option maxRecDepth 20000 in
theorem eX1_cries_14 (d : Nat) (st : Nat → Nat → Int32) (x1 t0 : Int32) : m_ev none d 17 14 [some (.ref 82), some (.int x1)] [.int t0] (SH, st) = some (some (.int (t0 ^^^ (st 82 1))), (SH, st)) := m_ev_K _ _ _ _ _ _ _
set_option maxRecDepth 20000 in
theorem eX1_tells_0 (d : Nat) (st : Nat → Nat → Int32) (x1 : Int32) : m_ev none d 18 0 [some (.ref 82), some (.int x1)] [] (SH, st) = m_bd (m_evc d 66 [.ref 76, .int 51] (SH, st)) fun w h => m_ev none d 18 9 [some (.ref 82), some (.int x1)] (w.toList ++ []) h := m_ev_K _ _ _ _ _ _ _
set_option maxRecDepth 20000 in
theorem eX1_tells_9 (d : Nat) (st : Nat → Nat → Int32) (x1 : Int32) : m_ev none d 18 9 [some (.ref 82), some (.int x1)] [] (SH, st) = m_bd (m_evc d 78 [.ref 82, .int x1] (SH, st)) fun w h => m_ev none d 18 14 [some (.ref 82), some (.int x1)] (w.toList ++ []) h := m_ev_K _ _ _ _ _ _ _
set_option maxRecDepth 20000 in
theorem eX1_tells_14 (d : Nat) (st : Nat → Nat → Int32) (x1 t0 : Int32) : m_ev none d 18 14 [some (.ref 82), some (.int x1)] [.int t0] (SH, st) = m_bd (m_evc d 77 [.ref 82, .int (st 82 1)] (SH, st)) fun w h => m_ev none d 18 22 [some (.ref 82), some (.int x1)] (w.toList ++ [.int t0]) h := m_ev_K _ _ _ _ _ _ _
set_option maxRecDepth 20000 in
theorem eX1_tells_22 (d : Nat) (st : Nat → Nat → Int32) (x1 t0 t1 : Int32) : m_ev none d 18 22 [some (.ref 82), some (.int x1)] [.int t0, .int t1] (SH, st) = some (some (.int (t1 + t0)), (SH, st)) := m_ev_K _ _ _ _ _ _ _
set_option maxRecDepth 20000 in
theorem eaX2_shares_0 (d : Nat) (st : Nat → Nat → Int32) (x1 : Int32) : m_ev none d 20 0 [some (.ref 83), some (.int x1)] [] (SH, st) = m_bd (m_evc d 66 [.ref 76, .int 40] (SH, st)) fun w h => m_ev none d 20 9 [some (.ref 83), some (.int x1)] (w.toList ++ []) h := m_ev_K _ _ _ _ _ _ _
set_option maxRecDepth 20000 in
theorem eaX2_shares_9 (d : Nat) (st : Nat → Nat → Int32) (x1 : Int32) : m_ev none d 20 9 [some (.ref 83), some (.int x1)] [] (SH, st) = m_bd (m_evc d 77 [.ref 83, .int (x1 + 1)] (SH, st)) fun w h => m_ev none d 20 16 [some (.ref 83), some (.int x1)] (w.toList ++ []) h := m_ev_K _ _ _ _ _ _ _
set_option maxRecDepth 20000 in
theorem eaX2_shares_16 (d : Nat) (st : Nat → Nat → Int32) (x1 t0 : Int32) : m_ev none d 20 16 [some (.ref 83), some (.int x1)] [.int t0] (SH, st) = some (some (.int t0), (SH, st)) := m_ev_K _ _ _ _ _ _ _
set_option maxRecDepth 20000 in
theorem ebX2_shares_0 (d : Nat) (st : Nat → Nat → Int32) (x1 : Int32) : m_ev none d 20 0 [some (.ref 84), some (.int x1)] [] (SH, st) = m_bd (m_evc d 66 [.ref 76, .int 40] (SH, st)) fun w h => m_ev none d 20 9 [some (.ref 84), some (.int x1)] (w.toList ++ []) h := m_ev_K _ _ _ _ _ _ _
set_option maxRecDepth 20000 in
theorem ebX2_shares_9 (d : Nat) (st : Nat → Nat → Int32) (x1 : Int32) : m_ev none d 20 9 [some (.ref 84), some (.int x1)] [] (SH, st) = m_bd (m_evc d 77 [.ref 84, .int (x1 + 1)] (SH, st)) fun w h => m_ev none d 20 16 [some (.ref 84), some (.int x1)] (w.toList ++ []) h := m_ev_K _ _ _ _ _ _ _
set_option maxRecDepth 20000 in
theorem ebX2_shares_16 (d : Nat) (st : Nat → Nat → Int32) (x1 t0 : Int32) : m_ev none d 20 16 [some (.ref 84), some (.int x1)] [.int t0] (SH, st) = some (some (.int t0), (SH, st)) := m_ev_K _ _ _ _ _ _ _
set_option maxRecDepth 20000 in
theorem eX3_cries_0 (d : Nat) (st : Nat → Nat → Int32) (x1 : Int32) : m_ev none d 22 0 [some (.ref 80), some (.int x1)] [] (SH, st) = m_bd (m_evc d 66 [.ref 76, .int 20] (SH, st)) fun w h => m_ev none d 22 9 [some (.ref 80), some (.int x1)] (w.toList ++ []) h := m_ev_K _ _ _ _ _ _ _
set_option maxRecDepth 20000 in
theorem eX3_cries_9 (d : Nat) (st : Nat → Nat → Int32) (x1 : Int32) : m_ev none d 22 9 [some (.ref 80), some (.int x1)] [] (SH, st) = m_bd (m_evc d 75 [.ref 80, .int x1] (SH, st)) fun w h => m_ev none d 22 14 [some (.ref 80), some (.int x1)] (w.toList ++ []) h := m_ev_K _ _ _ _ _ _ _
set_option maxRecDepth 20000 in
theorem eX3_cries_14 (d : Nat) (st : Nat → Nat → Int32) (x1 t0 : Int32) : m_ev none d 22 14 [some (.ref 80), some (.int x1)] [.int t0] (SH, st) = some (some (.int (t0 * 3)), (SH, st)) := m_ev_K _ _ _ _ _ _ _
set_option maxRecDepth 20000 in
theorem eaX4_hears_0 (d : Nat) (st : Nat → Nat → Int32) (x1 : Int32) : m_ev none d 24 0 [some (.ref 81), some (.int x1)] [] (SH, st) = m_bd (m_evc d 66 [.ref 76, .int 30] (SH, st)) fun w h => m_ev none d 24 9 [some (.ref 81), some (.int x1)] (w.toList ++ []) h := m_ev_K _ _ _ _ _ _ _
set_option maxRecDepth 20000 in
theorem eaX4_hears_9 (d : Nat) (st : Nat → Nat → Int32) (x1 : Int32) : m_ev none d 24 9 [some (.ref 81), some (.int x1)] [] (SH, st) = m_bd (m_evc d 76 [.ref 81, .int x1] (SH, st)) fun w h => m_ev none d 24 14 [some (.ref 81), some (.int x1)] (w.toList ++ []) h := m_ev_K _ _ _ _ _ _ _
set_option maxRecDepth 20000 in
theorem eaX4_hears_14 (d : Nat) (st : Nat → Nat → Int32) (x1 t0 : Int32) : m_ev none d 24 14 [some (.ref 81), some (.int x1)] [.int t0] (SH, st) = some (some (.int (t0 - (st 81 2))), (SH, st)) := m_ev_K _ _ _ _ _ _ _
set_option maxRecDepth 20000 in
theorem ebX4_hears_0 (d : Nat) (st : Nat → Nat → Int32) (x1 : Int32) : m_ev none d 24 0 [some (.ref 82), some (.int x1)] [] (SH, st) = m_bd (m_evc d 66 [.ref 76, .int 30] (SH, st)) fun w h => m_ev none d 24 9 [some (.ref 82), some (.int x1)] (w.toList ++ []) h := m_ev_K _ _ _ _ _ _ _
set_option maxRecDepth 20000 in
theorem ebX4_hears_9 (d : Nat) (st : Nat → Nat → Int32) (x1 : Int32) : m_ev none d 24 9 [some (.ref 82), some (.int x1)] [] (SH, st) = m_bd (m_evc d 76 [.ref 82, .int x1] (SH, st)) fun w h => m_ev none d 24 14 [some (.ref 82), some (.int x1)] (w.toList ++ []) h := m_ev_K _ _ _ _ _ _ _
set_option maxRecDepth 20000 in
theorem ebX4_hears_14 (d : Nat) (st : Nat → Nat → Int32) (x1 t0 : Int32) : m_ev none d 24 14 [some (.ref 82), some (.int x1)] [.int t0] (SH, st) = some (some (.int (t0 - (st 82 2))), (SH, st)) := m_ev_K _ _ _ _ _ _ _
set_option maxRecDepth 20000 in
theorem eX7_hears_0 (d : Nat) (st : Nat → Nat → Int32) (x1 : Int32) : m_ev none d 62 0 [some (.ref 84), some (.int x1)] [] (SH, st) = m_bd (m_evc d 66 [.ref 76, .int 60] (SH, st)) fun w h => m_ev none d 62 9 [some (.ref 84), some (.int x1)] (w.toList ++ []) h := m_ev_K _ _ _ _ _ _ _
set_option maxRecDepth 20000 in
theorem eX7_hears_9 (d : Nat) (st : Nat → Nat → Int32) (x1 : Int32) : m_ev none d 62 9 [some (.ref 84), some (.int x1)] [] (SH, st) = m_bd (m_evc d 76 [.ref 84, .int x1] (SH, st)) fun w h => m_ev none d 62 15 [some (.ref 84), some (.int x1)] (w.toList ++ [.int 0]) h := m_ev_K _ _ _ _ _ _ _
set_option maxRecDepth 20000 in
theorem eX7_hears_15 (d : Nat) (st : Nat → Nat → Int32) (x1 t0 t1 : Int32) : m_ev none d 62 15 [some (.ref 84), some (.int x1)] [.int t0, .int t1] (SH, st) = some (some (.int (t1 - t0)), (SH, st)) := m_ev_K _ _ _ _ _ _ _
set_option maxRecDepth 20000 in
theorem eX7_shares_0 (d : Nat) (st : Nat → Nat → Int32) (x1 : Int32) : m_ev none d 63 0 [some (.ref 84), some (.int x1)] [] (SH, st) = m_bd (m_evc d 66 [.ref 76, .int 61] (SH, st)) fun w h => m_ev none d 63 9 [some (.ref 84), some (.int x1)] (w.toList ++ []) h := m_ev_K _ _ _ _ _ _ _
set_option maxRecDepth 20000 in
theorem eX7_shares_9 (d : Nat) (st : Nat → Nat → Int32) (x1 : Int32) : m_ev none d 63 9 [some (.ref 84), some (.int x1)] [] (SH, st) = m_bd (m_evc d 20 [.ref 84, .int x1] (SH, st)) fun w h => m_ev none d 63 14 [some (.ref 84), some (.int x1)] (w.toList ++ []) h := m_ev_K _ _ _ _ _ _ _
set_option maxRecDepth 20000 in
theorem eX7_shares_14 (d : Nat) (st : Nat → Nat → Int32) (x1 t0 : Int32) : m_ev none d 63 14 [some (.ref 84), some (.int x1)] [.int t0] (SH, st) = m_bd (m_evc d 75 [.ref 84, .int (st 84 2)] (SH, st)) fun w h => m_ev none d 63 22 [some (.ref 84), some (.int x1)] (w.toList ++ [.int t0]) h := m_ev_K _ _ _ _ _ _ _
set_option maxRecDepth 20000 in
theorem eX7_shares_22 (d : Nat) (st : Nat → Nat → Int32) (x1 t0 t1 : Int32) : m_ev none d 63 22 [some (.ref 84), some (.int x1)] [.int t0, .int t1] (SH, st) = some (some (.int (t1 + t0)), (SH, st)) := m_ev_K _ _ _ _ _ _ _
set_option maxRecDepth 20000 in
theorem eX8_clear_0 (d : Nat) (st : Nat → Nat → Int32) : m_ev none d 65 0 [some (.ref 76)] [] (SH, st) = some (none, (SH, (m_up (m_up st 76 0 0) 76 2 0))) := m_ev_K _ _ _ _ _ _ _
set_option maxRecDepth 20000 in
theorem eX8_begin_0 (d : Nat) (st : Nat → Nat → Int32) (x1 : Int32) : m_ev none d 66 0 [some (.ref 76), some (.int x1)] [] (SH, st) = if (st 76 2) = 0 then (if (st 76 0) < 30 then (m_ob (m_ix (st 76 0) 30) fun q1 => m_ev none d 66 36 [some (.ref 76), some (.int x1)] [] (SH, (m_up (m_up st 76 0 ((st 76 0) + 1)) 77 q1 x1))) else (m_ev none d 66 36 [some (.ref 76), some (.int x1)] [] (SH, st))) else (m_ev none d 66 36 [some (.ref 76), some (.int x1)] [] (SH, st)) := m_ev_K _ _ _ _ _ _ _
set_option maxRecDepth 20000 in
theorem eX8_begin_36 (d : Nat) (st : Nat → Nat → Int32) (x1 : Int32) : m_ev none d 66 36 [some (.ref 76), some (.int x1)] [] (SH, st) = some (none, (SH, st)) := m_ev_K _ _ _ _ _ _ _
set_option maxRecDepth 20000 in
theorem eaX10_cries_0 (d : Nat) (st : Nat → Nat → Int32) (x1 : Int32) : m_ev none d 75 0 [some (.ref 79), some (.int x1)] [] (SH, st) = m_bd (m_evc d 66 [.ref 76, .int 10] (SH, st)) fun w h => m_ev none d 75 9 [some (.ref 79), some (.int x1)] (w.toList ++ []) h := m_ev_K _ _ _ _ _ _ _
set_option maxRecDepth 20000 in
theorem eaX10_cries_9 (d : Nat) (st : Nat → Nat → Int32) (x1 : Int32) : m_ev none d 75 9 [some (.ref 79), some (.int x1)] [] (SH, st) = some (some (.int (x1 + (st 79 1))), (SH, st)) := m_ev_K _ _ _ _ _ _ _
set_option maxRecDepth 20000 in
theorem ebX10_cries_0 (d : Nat) (st : Nat → Nat → Int32) (x1 : Int32) : m_ev none d 75 0 [some (.ref 80), some (.int x1)] [] (SH, st) = m_bd (m_evc d 66 [.ref 76, .int 10] (SH, st)) fun w h => m_ev none d 75 9 [some (.ref 80), some (.int x1)] (w.toList ++ []) h := m_ev_K _ _ _ _ _ _ _
set_option maxRecDepth 20000 in
theorem ebX10_cries_9 (d : Nat) (st : Nat → Nat → Int32) (x1 : Int32) : m_ev none d 75 9 [some (.ref 80), some (.int x1)] [] (SH, st) = some (some (.int (x1 + (st 80 1))), (SH, st)) := m_ev_K _ _ _ _ _ _ _
set_option maxRecDepth 20000 in
theorem ecX10_cries_0 (d : Nat) (st : Nat → Nat → Int32) (x1 : Int32) : m_ev none d 75 0 [some (.ref 81), some (.int x1)] [] (SH, st) = m_bd (m_evc d 66 [.ref 76, .int 10] (SH, st)) fun w h => m_ev none d 75 9 [some (.ref 81), some (.int x1)] (w.toList ++ []) h := m_ev_K _ _ _ _ _ _ _
set_option maxRecDepth 20000 in
theorem ecX10_cries_9 (d : Nat) (st : Nat → Nat → Int32) (x1 : Int32) : m_ev none d 75 9 [some (.ref 81), some (.int x1)] [] (SH, st) = some (some (.int (x1 + (st 81 1))), (SH, st)) := m_ev_K _ _ _ _ _ _ _
set_option maxRecDepth 20000 in
theorem edX10_cries_0 (d : Nat) (st : Nat → Nat → Int32) (x1 : Int32) : m_ev none d 75 0 [some (.ref 82), some (.int x1)] [] (SH, st) = m_bd (m_evc d 66 [.ref 76, .int 10] (SH, st)) fun w h => m_ev none d 75 9 [some (.ref 82), some (.int x1)] (w.toList ++ []) h := m_ev_K _ _ _ _ _ _ _
set_option maxRecDepth 20000 in
theorem edX10_cries_9 (d : Nat) (st : Nat → Nat → Int32) (x1 : Int32) : m_ev none d 75 9 [some (.ref 82), some (.int x1)] [] (SH, st) = some (some (.int (x1 + (st 82 1))), (SH, st)) := m_ev_K _ _ _ _ _ _ _
set_option maxRecDepth 20000 in
theorem eeX10_cries_0 (d : Nat) (st : Nat → Nat → Int32) (x1 : Int32) : m_ev none d 75 0 [some (.ref 83), some (.int x1)] [] (SH, st) = m_bd (m_evc d 66 [.ref 76, .int 10] (SH, st)) fun w h => m_ev none d 75 9 [some (.ref 83), some (.int x1)] (w.toList ++ []) h := m_ev_K _ _ _ _ _ _ _
set_option maxRecDepth 20000 in
theorem eeX10_cries_9 (d : Nat) (st : Nat → Nat → Int32) (x1 : Int32) : m_ev none d 75 9 [some (.ref 83), some (.int x1)] [] (SH, st) = some (some (.int (x1 + (st 83 1))), (SH, st)) := m_ev_K _ _ _ _ _ _ _
set_option maxRecDepth 20000 in
theorem efX10_cries_0 (d : Nat) (st : Nat → Nat → Int32) (x1 : Int32) : m_ev none d 75 0 [some (.ref 84), some (.int x1)] [] (SH, st) = m_bd (m_evc d 66 [.ref 76, .int 10] (SH, st)) fun w h => m_ev none d 75 9 [some (.ref 84), some (.int x1)] (w.toList ++ []) h := m_ev_K _ _ _ _ _ _ _
set_option maxRecDepth 20000 in
theorem efX10_cries_9 (d : Nat) (st : Nat → Nat → Int32) (x1 : Int32) : m_ev none d 75 9 [some (.ref 84), some (.int x1)] [] (SH, st) = some (some (.int (x1 + (st 84 1))), (SH, st)) := m_ev_K _ _ _ _ _ _ _
set_option maxRecDepth 20000 in
theorem eaX10_hears_0 (d : Nat) (st : Nat → Nat → Int32) (x1 : Int32) : m_ev none d 76 0 [some (.ref 79), some (.int x1)] [] (SH, st) = m_bd (m_evc d 66 [.ref 76, .int 11] (SH, st)) fun w h => m_ev none d 76 9 [some (.ref 79), some (.int x1)] (w.toList ++ []) h := m_ev_K _ _ _ _ _ _ _
set_option maxRecDepth 20000 in
theorem eaX10_hears_9 (d : Nat) (st : Nat → Nat → Int32) (x1 : Int32) : m_ev none d 76 9 [some (.ref 79), some (.int x1)] [] (SH, st) = m_bd (m_evc d 75 [.ref 79, .int x1] (SH, st)) fun w h => m_ev none d 76 14 [some (.ref 79), some (.int x1)] (w.toList ++ []) h := m_ev_K _ _ _ _ _ _ _
set_option maxRecDepth 20000 in
theorem eaX10_hears_14 (d : Nat) (st : Nat → Nat → Int32) (x1 t0 : Int32) : m_ev none d 76 14 [some (.ref 79), some (.int x1)] [.int t0] (SH, st) = some (some (.int (t0 * 2)), (SH, st)) := m_ev_K _ _ _ _ _ _ _
set_option maxRecDepth 20000 in
theorem ebX10_hears_0 (d : Nat) (st : Nat → Nat → Int32) (x1 : Int32) : m_ev none d 76 0 [some (.ref 80), some (.int x1)] [] (SH, st) = m_bd (m_evc d 66 [.ref 76, .int 11] (SH, st)) fun w h => m_ev none d 76 9 [some (.ref 80), some (.int x1)] (w.toList ++ []) h := m_ev_K _ _ _ _ _ _ _
set_option maxRecDepth 20000 in
theorem ebX10_hears_9 (d : Nat) (st : Nat → Nat → Int32) (x1 : Int32) : m_ev none d 76 9 [some (.ref 80), some (.int x1)] [] (SH, st) = m_bd (m_evc d 22 [.ref 80, .int x1] (SH, st)) fun w h => m_ev none d 76 14 [some (.ref 80), some (.int x1)] (w.toList ++ []) h := m_ev_K _ _ _ _ _ _ _
set_option maxRecDepth 20000 in
theorem ebX10_hears_14 (d : Nat) (st : Nat → Nat → Int32) (x1 t0 : Int32) : m_ev none d 76 14 [some (.ref 80), some (.int x1)] [.int t0] (SH, st) = some (some (.int (t0 * 2)), (SH, st)) := m_ev_K _ _ _ _ _ _ _
set_option maxRecDepth 20000 in
theorem ecX10_hears_0 (d : Nat) (st : Nat → Nat → Int32) (x1 : Int32) : m_ev none d 76 0 [some (.ref 81), some (.int x1)] [] (SH, st) = m_bd (m_evc d 66 [.ref 76, .int 11] (SH, st)) fun w h => m_ev none d 76 9 [some (.ref 81), some (.int x1)] (w.toList ++ []) h := m_ev_K _ _ _ _ _ _ _
set_option maxRecDepth 20000 in
theorem ecX10_hears_9 (d : Nat) (st : Nat → Nat → Int32) (x1 : Int32) : m_ev none d 76 9 [some (.ref 81), some (.int x1)] [] (SH, st) = m_bd (m_evc d 75 [.ref 81, .int x1] (SH, st)) fun w h => m_ev none d 76 14 [some (.ref 81), some (.int x1)] (w.toList ++ []) h := m_ev_K _ _ _ _ _ _ _
set_option maxRecDepth 20000 in
theorem ecX10_hears_14 (d : Nat) (st : Nat → Nat → Int32) (x1 t0 : Int32) : m_ev none d 76 14 [some (.ref 81), some (.int x1)] [.int t0] (SH, st) = some (some (.int (t0 * 2)), (SH, st)) := m_ev_K _ _ _ _ _ _ _
set_option maxRecDepth 20000 in
theorem edX10_hears_0 (d : Nat) (st : Nat → Nat → Int32) (x1 : Int32) : m_ev none d 76 0 [some (.ref 82), some (.int x1)] [] (SH, st) = m_bd (m_evc d 66 [.ref 76, .int 11] (SH, st)) fun w h => m_ev none d 76 9 [some (.ref 82), some (.int x1)] (w.toList ++ []) h := m_ev_K _ _ _ _ _ _ _
set_option maxRecDepth 20000 in
theorem edX10_hears_9 (d : Nat) (st : Nat → Nat → Int32) (x1 : Int32) : m_ev none d 76 9 [some (.ref 82), some (.int x1)] [] (SH, st) = m_bd (m_evc d 17 [.ref 82, .int x1] (SH, st)) fun w h => m_ev none d 76 14 [some (.ref 82), some (.int x1)] (w.toList ++ []) h := m_ev_K _ _ _ _ _ _ _
set_option maxRecDepth 20000 in
theorem edX10_hears_14 (d : Nat) (st : Nat → Nat → Int32) (x1 t0 : Int32) : m_ev none d 76 14 [some (.ref 82), some (.int x1)] [.int t0] (SH, st) = some (some (.int (t0 * 2)), (SH, st)) := m_ev_K _ _ _ _ _ _ _
set_option maxRecDepth 20000 in
theorem eeX10_hears_0 (d : Nat) (st : Nat → Nat → Int32) (x1 : Int32) : m_ev none d 76 0 [some (.ref 83), some (.int x1)] [] (SH, st) = m_bd (m_evc d 66 [.ref 76, .int 11] (SH, st)) fun w h => m_ev none d 76 9 [some (.ref 83), some (.int x1)] (w.toList ++ []) h := m_ev_K _ _ _ _ _ _ _
set_option maxRecDepth 20000 in
theorem eeX10_hears_9 (d : Nat) (st : Nat → Nat → Int32) (x1 : Int32) : m_ev none d 76 9 [some (.ref 83), some (.int x1)] [] (SH, st) = m_bd (m_evc d 75 [.ref 83, .int x1] (SH, st)) fun w h => m_ev none d 76 14 [some (.ref 83), some (.int x1)] (w.toList ++ []) h := m_ev_K _ _ _ _ _ _ _
set_option maxRecDepth 20000 in
theorem eeX10_hears_14 (d : Nat) (st : Nat → Nat → Int32) (x1 t0 : Int32) : m_ev none d 76 14 [some (.ref 83), some (.int x1)] [.int t0] (SH, st) = some (some (.int (t0 * 2)), (SH, st)) := m_ev_K _ _ _ _ _ _ _
set_option maxRecDepth 20000 in
theorem efX10_hears_0 (d : Nat) (st : Nat → Nat → Int32) (x1 : Int32) : m_ev none d 76 0 [some (.ref 84), some (.int x1)] [] (SH, st) = m_bd (m_evc d 66 [.ref 76, .int 11] (SH, st)) fun w h => m_ev none d 76 9 [some (.ref 84), some (.int x1)] (w.toList ++ []) h := m_ev_K _ _ _ _ _ _ _
set_option maxRecDepth 20000 in
theorem efX10_hears_9 (d : Nat) (st : Nat → Nat → Int32) (x1 : Int32) : m_ev none d 76 9 [some (.ref 84), some (.int x1)] [] (SH, st) = m_bd (m_evc d 75 [.ref 84, .int x1] (SH, st)) fun w h => m_ev none d 76 14 [some (.ref 84), some (.int x1)] (w.toList ++ []) h := m_ev_K _ _ _ _ _ _ _
set_option maxRecDepth 20000 in
theorem efX10_hears_14 (d : Nat) (st : Nat → Nat → Int32) (x1 t0 : Int32) : m_ev none d 76 14 [some (.ref 84), some (.int x1)] [.int t0] (SH, st) = some (some (.int (t0 * 2)), (SH, st)) := m_ev_K _ _ _ _ _ _ _
set_option maxRecDepth 20000 in
theorem eaX10_shares_0 (d : Nat) (st : Nat → Nat → Int32) (x1 : Int32) : m_ev none d 77 0 [some (.ref 79), some (.int x1), none] [] (SH, st) = m_bd (m_evc d 66 [.ref 76, .int 12] (SH, st)) fun w h => m_ev none d 77 9 [some (.ref 79), some (.int x1), none] (w.toList ++ []) h := m_ev_K _ _ _ _ _ _ _
set_option maxRecDepth 20000 in
theorem eaX10_shares_9 (d : Nat) (st : Nat → Nat → Int32) (x1 : Int32) : m_ev none d 77 9 [some (.ref 79), some (.int x1), none] [] (SH, st) = if ((st 79 2) - (st 79 1)) = 0 then (some (some (.int 0), (SH, (m_up st 76 2 1)))) else (m_ev none d 77 33 [some (.ref 79), some (.int x1), some (.int ((st 79 2) - (st 79 1)))] [] (SH, st)) := m_ev_K _ _ _ _ _ _ _
set_option maxRecDepth 20000 in
theorem eaX10_shares_33 (d : Nat) (st : Nat → Nat → Int32) (x1 x2 : Int32) : m_ev none d 77 33 [some (.ref 79), some (.int x1), some (.int x2)] [] (SH, st) = if x2 = 0 then none else (some (some (.int (x1 / x2)), (SH, st))) := m_ev_K _ _ _ _ _ _ _
set_option maxRecDepth 20000 in
theorem ebX10_shares_0 (d : Nat) (st : Nat → Nat → Int32) (x1 : Int32) : m_ev none d 77 0 [some (.ref 80), some (.int x1), none] [] (SH, st) = m_bd (m_evc d 66 [.ref 76, .int 12] (SH, st)) fun w h => m_ev none d 77 9 [some (.ref 80), some (.int x1), none] (w.toList ++ []) h := m_ev_K _ _ _ _ _ _ _
set_option maxRecDepth 20000 in
theorem ebX10_shares_9 (d : Nat) (st : Nat → Nat → Int32) (x1 : Int32) : m_ev none d 77 9 [some (.ref 80), some (.int x1), none] [] (SH, st) = if ((st 80 2) - (st 80 1)) = 0 then (some (some (.int 0), (SH, (m_up st 76 2 1)))) else (m_ev none d 77 33 [some (.ref 80), some (.int x1), some (.int ((st 80 2) - (st 80 1)))] [] (SH, st)) := m_ev_K _ _ _ _ _ _ _
set_option maxRecDepth 20000 in
theorem ebX10_shares_33 (d : Nat) (st : Nat → Nat → Int32) (x1 x2 : Int32) : m_ev none d 77 33 [some (.ref 80), some (.int x1), some (.int x2)] [] (SH, st) = if x2 = 0 then none else (some (some (.int (x1 / x2)), (SH, st))) := m_ev_K _ _ _ _ _ _ _
set_option maxRecDepth 20000 in
theorem ecX10_shares_0 (d : Nat) (st : Nat → Nat → Int32) (x1 : Int32) : m_ev none d 77 0 [some (.ref 81), some (.int x1), none] [] (SH, st) = m_bd (m_evc d 66 [.ref 76, .int 12] (SH, st)) fun w h => m_ev none d 77 9 [some (.ref 81), some (.int x1), none] (w.toList ++ []) h := m_ev_K _ _ _ _ _ _ _
set_option maxRecDepth 20000 in
theorem ecX10_shares_9 (d : Nat) (st : Nat → Nat → Int32) (x1 : Int32) : m_ev none d 77 9 [some (.ref 81), some (.int x1), none] [] (SH, st) = if ((st 81 2) - (st 81 1)) = 0 then (some (some (.int 0), (SH, (m_up st 76 2 1)))) else (m_ev none d 77 33 [some (.ref 81), some (.int x1), some (.int ((st 81 2) - (st 81 1)))] [] (SH, st)) := m_ev_K _ _ _ _ _ _ _
set_option maxRecDepth 20000 in
theorem ecX10_shares_33 (d : Nat) (st : Nat → Nat → Int32) (x1 x2 : Int32) : m_ev none d 77 33 [some (.ref 81), some (.int x1), some (.int x2)] [] (SH, st) = if x2 = 0 then none else (some (some (.int (x1 / x2)), (SH, st))) := m_ev_K _ _ _ _ _ _ _
set_option maxRecDepth 20000 in
theorem edX10_shares_0 (d : Nat) (st : Nat → Nat → Int32) (x1 : Int32) : m_ev none d 77 0 [some (.ref 82), some (.int x1), none] [] (SH, st) = m_bd (m_evc d 66 [.ref 76, .int 12] (SH, st)) fun w h => m_ev none d 77 9 [some (.ref 82), some (.int x1), none] (w.toList ++ []) h := m_ev_K _ _ _ _ _ _ _
set_option maxRecDepth 20000 in
theorem edX10_shares_9 (d : Nat) (st : Nat → Nat → Int32) (x1 : Int32) : m_ev none d 77 9 [some (.ref 82), some (.int x1), none] [] (SH, st) = if ((st 82 2) - (st 82 1)) = 0 then (some (some (.int 0), (SH, (m_up st 76 2 1)))) else (m_ev none d 77 33 [some (.ref 82), some (.int x1), some (.int ((st 82 2) - (st 82 1)))] [] (SH, st)) := m_ev_K _ _ _ _ _ _ _
set_option maxRecDepth 20000 in
theorem edX10_shares_33 (d : Nat) (st : Nat → Nat → Int32) (x1 x2 : Int32) : m_ev none d 77 33 [some (.ref 82), some (.int x1), some (.int x2)] [] (SH, st) = if x2 = 0 then none else (some (some (.int (x1 / x2)), (SH, st))) := m_ev_K _ _ _ _ _ _ _
set_option maxRecDepth 20000 in
theorem eeX10_shares_0 (d : Nat) (st : Nat → Nat → Int32) (x1 : Int32) : m_ev none d 77 0 [some (.ref 83), some (.int x1), none] [] (SH, st) = m_bd (m_evc d 66 [.ref 76, .int 12] (SH, st)) fun w h => m_ev none d 77 9 [some (.ref 83), some (.int x1), none] (w.toList ++ []) h := m_ev_K _ _ _ _ _ _ _
set_option maxRecDepth 20000 in
theorem eeX10_shares_9 (d : Nat) (st : Nat → Nat → Int32) (x1 : Int32) : m_ev none d 77 9 [some (.ref 83), some (.int x1), none] [] (SH, st) = if ((st 83 2) - (st 83 1)) = 0 then (some (some (.int 0), (SH, (m_up st 76 2 1)))) else (m_ev none d 77 33 [some (.ref 83), some (.int x1), some (.int ((st 83 2) - (st 83 1)))] [] (SH, st)) := m_ev_K _ _ _ _ _ _ _
set_option maxRecDepth 20000 in
theorem eeX10_shares_33 (d : Nat) (st : Nat → Nat → Int32) (x1 x2 : Int32) : m_ev none d 77 33 [some (.ref 83), some (.int x1), some (.int x2)] [] (SH, st) = if x2 = 0 then none else (some (some (.int (x1 / x2)), (SH, st))) := m_ev_K _ _ _ _ _ _ _
set_option maxRecDepth 20000 in
theorem efX10_shares_0 (d : Nat) (st : Nat → Nat → Int32) (x1 : Int32) : m_ev none d 77 0 [some (.ref 84), some (.int x1), none] [] (SH, st) = m_bd (m_evc d 66 [.ref 76, .int 12] (SH, st)) fun w h => m_ev none d 77 9 [some (.ref 84), some (.int x1), none] (w.toList ++ []) h := m_ev_K _ _ _ _ _ _ _
set_option maxRecDepth 20000 in
theorem efX10_shares_9 (d : Nat) (st : Nat → Nat → Int32) (x1 : Int32) : m_ev none d 77 9 [some (.ref 84), some (.int x1), none] [] (SH, st) = if ((st 84 2) - (st 84 1)) = 0 then (some (some (.int 0), (SH, (m_up st 76 2 1)))) else (m_ev none d 77 33 [some (.ref 84), some (.int x1), some (.int ((st 84 2) - (st 84 1)))] [] (SH, st)) := m_ev_K _ _ _ _ _ _ _
set_option maxRecDepth 20000 in
theorem efX10_shares_33 (d : Nat) (st : Nat → Nat → Int32) (x1 x2 : Int32) : m_ev none d 77 33 [some (.ref 84), some (.int x1), some (.int x2)] [] (SH, st) = if x2 = 0 then none else (some (some (.int (x1 / x2)), (SH, st))) := m_ev_K _ _ _ _ _ _ _
set_option maxRecDepth 20000 in
theorem eaX10_tells_0 (d : Nat) (st : Nat → Nat → Int32) (x1 : Int32) : m_ev none d 78 0 [some (.ref 79), some (.int x1)] [] (SH, st) = m_bd (m_evc d 66 [.ref 76, .int 13] (SH, st)) fun w h => m_ev none d 78 9 [some (.ref 79), some (.int x1)] (w.toList ++ []) h := m_ev_K _ _ _ _ _ _ _
set_option maxRecDepth 20000 in
theorem eaX10_tells_9 (d : Nat) (st : Nat → Nat → Int32) (x1 : Int32) : m_ev none d 78 9 [some (.ref 79), some (.int x1)] [] (SH, st) = m_bd (m_evc d 76 [.ref 79, .int x1] (SH, st)) fun w h => m_ev none d 78 14 [some (.ref 79), some (.int x1)] (w.toList ++ []) h := m_ev_K _ _ _ _ _ _ _
set_option maxRecDepth 20000 in
theorem eaX10_tells_14 (d : Nat) (st : Nat → Nat → Int32) (x1 t0 : Int32) : m_ev none d 78 14 [some (.ref 79), some (.int x1)] [.int t0] (SH, st) = some (some (.int (t0 ^^^ (st 79 2))), (SH, st)) := m_ev_K _ _ _ _ _ _ _
set_option maxRecDepth 20000 in
theorem ebX10_tells_0 (d : Nat) (st : Nat → Nat → Int32) (x1 : Int32) : m_ev none d 78 0 [some (.ref 80), some (.int x1)] [] (SH, st) = m_bd (m_evc d 66 [.ref 76, .int 13] (SH, st)) fun w h => m_ev none d 78 9 [some (.ref 80), some (.int x1)] (w.toList ++ []) h := m_ev_K _ _ _ _ _ _ _
set_option maxRecDepth 20000 in
theorem ebX10_tells_9 (d : Nat) (st : Nat → Nat → Int32) (x1 : Int32) : m_ev none d 78 9 [some (.ref 80), some (.int x1)] [] (SH, st) = m_bd (m_evc d 76 [.ref 80, .int x1] (SH, st)) fun w h => m_ev none d 78 14 [some (.ref 80), some (.int x1)] (w.toList ++ []) h := m_ev_K _ _ _ _ _ _ _
set_option maxRecDepth 20000 in
theorem ebX10_tells_14 (d : Nat) (st : Nat → Nat → Int32) (x1 t0 : Int32) : m_ev none d 78 14 [some (.ref 80), some (.int x1)] [.int t0] (SH, st) = some (some (.int (t0 ^^^ (st 80 2))), (SH, st)) := m_ev_K _ _ _ _ _ _ _
set_option maxRecDepth 20000 in
theorem ecX10_tells_0 (d : Nat) (st : Nat → Nat → Int32) (x1 : Int32) : m_ev none d 78 0 [some (.ref 81), some (.int x1)] [] (SH, st) = m_bd (m_evc d 66 [.ref 76, .int 13] (SH, st)) fun w h => m_ev none d 78 9 [some (.ref 81), some (.int x1)] (w.toList ++ []) h := m_ev_K _ _ _ _ _ _ _
set_option maxRecDepth 20000 in
theorem ecX10_tells_9 (d : Nat) (st : Nat → Nat → Int32) (x1 : Int32) : m_ev none d 78 9 [some (.ref 81), some (.int x1)] [] (SH, st) = m_bd (m_evc d 24 [.ref 81, .int x1] (SH, st)) fun w h => m_ev none d 78 14 [some (.ref 81), some (.int x1)] (w.toList ++ []) h := m_ev_K _ _ _ _ _ _ _
set_option maxRecDepth 20000 in
theorem ecX10_tells_14 (d : Nat) (st : Nat → Nat → Int32) (x1 t0 : Int32) : m_ev none d 78 14 [some (.ref 81), some (.int x1)] [.int t0] (SH, st) = some (some (.int (t0 ^^^ (st 81 2))), (SH, st)) := m_ev_K _ _ _ _ _ _ _
set_option maxRecDepth 20000 in
theorem edX10_tells_0 (d : Nat) (st : Nat → Nat → Int32) (x1 : Int32) : m_ev none d 78 0 [some (.ref 82), some (.int x1)] [] (SH, st) = m_bd (m_evc d 66 [.ref 76, .int 13] (SH, st)) fun w h => m_ev none d 78 9 [some (.ref 82), some (.int x1)] (w.toList ++ []) h := m_ev_K _ _ _ _ _ _ _
set_option maxRecDepth 20000 in
theorem edX10_tells_9 (d : Nat) (st : Nat → Nat → Int32) (x1 : Int32) : m_ev none d 78 9 [some (.ref 82), some (.int x1)] [] (SH, st) = m_bd (m_evc d 24 [.ref 82, .int x1] (SH, st)) fun w h => m_ev none d 78 14 [some (.ref 82), some (.int x1)] (w.toList ++ []) h := m_ev_K _ _ _ _ _ _ _
set_option maxRecDepth 20000 in
theorem edX10_tells_14 (d : Nat) (st : Nat → Nat → Int32) (x1 t0 : Int32) : m_ev none d 78 14 [some (.ref 82), some (.int x1)] [.int t0] (SH, st) = some (some (.int (t0 ^^^ (st 82 2))), (SH, st)) := m_ev_K _ _ _ _ _ _ _
set_option maxRecDepth 20000 in
theorem eeX10_tells_0 (d : Nat) (st : Nat → Nat → Int32) (x1 : Int32) : m_ev none d 78 0 [some (.ref 83), some (.int x1)] [] (SH, st) = m_bd (m_evc d 66 [.ref 76, .int 13] (SH, st)) fun w h => m_ev none d 78 9 [some (.ref 83), some (.int x1)] (w.toList ++ []) h := m_ev_K _ _ _ _ _ _ _
set_option maxRecDepth 20000 in
theorem eeX10_tells_9 (d : Nat) (st : Nat → Nat → Int32) (x1 : Int32) : m_ev none d 78 9 [some (.ref 83), some (.int x1)] [] (SH, st) = m_bd (m_evc d 76 [.ref 83, .int x1] (SH, st)) fun w h => m_ev none d 78 14 [some (.ref 83), some (.int x1)] (w.toList ++ []) h := m_ev_K _ _ _ _ _ _ _
set_option maxRecDepth 20000 in
theorem eeX10_tells_14 (d : Nat) (st : Nat → Nat → Int32) (x1 t0 : Int32) : m_ev none d 78 14 [some (.ref 83), some (.int x1)] [.int t0] (SH, st) = some (some (.int (t0 ^^^ (st 83 2))), (SH, st)) := m_ev_K _ _ _ _ _ _ _
set_option maxRecDepth 20000 in
theorem efX10_tells_0 (d : Nat) (st : Nat → Nat → Int32) (x1 : Int32) : m_ev none d 78 0 [some (.ref 84), some (.int x1)] [] (SH, st) = m_bd (m_evc d 66 [.ref 76, .int 13] (SH, st)) fun w h => m_ev none d 78 9 [some (.ref 84), some (.int x1)] (w.toList ++ []) h := m_ev_K _ _ _ _ _ _ _
set_option maxRecDepth 20000 in
theorem efX10_tells_9 (d : Nat) (st : Nat → Nat → Int32) (x1 : Int32) : m_ev none d 78 9 [some (.ref 84), some (.int x1)] [] (SH, st) = m_bd (m_evc d 62 [.ref 84, .int x1] (SH, st)) fun w h => m_ev none d 78 14 [some (.ref 84), some (.int x1)] (w.toList ++ []) h := m_ev_K _ _ _ _ _ _ _
set_option maxRecDepth 20000 in
theorem efX10_tells_14 (d : Nat) (st : Nat → Nat → Int32) (x1 t0 : Int32) : m_ev none d 78 14 [some (.ref 84), some (.int x1)] [.int t0] (SH, st) = some (some (.int (t0 ^^^ (st 84 2))), (SH, st)) := m_ev_K _ _ _ _ _ _ _
