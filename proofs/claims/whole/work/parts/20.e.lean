set_option maxRecDepth 20000 in
theorem eaX0_takeDay_0 (d : Nat) (st : Nat → Nat → Int32) (x1 : Int32) : m_ev none d 1 0 [some (.ref 44), some (.int x1), none, none] [] (SH, st) = m_bd (m_evc d 70 [.ref 1, .int x1, .int 1] (SH, st)) fun w h => m_ev none d 1 10 [some (.ref 44), some (.int x1), none, none] (w.toList ++ [.ref 44]) h := m_ev_K _ _ _ _ _ _ _
set_option maxRecDepth 20000 in
theorem eaX0_takeDay_10 (d : Nat) (st : Nat → Nat → Int32) (x1 t0 : Int32) : m_ev none d 1 10 [some (.ref 44), some (.int x1), none, none] [.int t0, .ref 44] (SH, st) = m_bd (m_evc d 70 [.ref 1, .int x1, .int 0] (SH, (m_up st 44 3 t0))) fun w h => m_ev none d 1 23 [some (.ref 44), some (.int x1), none, none] (w.toList ++ [.ref 44]) h := m_ev_K _ _ _ _ _ _ _
set_option maxRecDepth 20000 in
theorem eaX0_takeDay_23 (d : Nat) (st : Nat → Nat → Int32) (x1 t0 : Int32) : m_ev none d 1 23 [some (.ref 44), some (.int x1), none, none] [.int t0, .ref 44] (SH, st) = m_ev none d 1 28 [some (.ref 44), some (.int x1), some (.int 0), none] [] (SH, (m_up st 44 4 t0)) := m_ev_K _ _ _ _ _ _ _
set_option maxRecDepth 20000 in
theorem eaX0_takeDay_28 (d : Nat) (st : Nat → Nat → Int32) (x1 x2 : Int32) (x3 : Option Value) : m_ev none d 1 28 [some (.ref 44), some (.int x1), some (.int x2), x3] [] (SH, st) = if x2 < (st 1 0) then (m_bd (m_evc d 71 [.ref 1, .int x2, .int x1] (SH, st)) fun w h => m_ev none d 1 48 [some (.ref 44), some (.int x1), some (.int x2), x3] (w.toList ++ []) h) else (m_ev none d 1 88 [some (.ref 44), some (.int x1), some (.int x2), x3] [] (SH, st)) := m_ev_K _ _ _ _ _ _ _
set_option maxRecDepth 20000 in
theorem eaX0_takeDay_48 (d : Nat) (st : Nat → Nat → Int32) (x1 x2 t0 : Int32) (x3 : Option Value) : m_ev none d 1 48 [some (.ref 44), some (.int x1), some (.int x2), x3] [.int t0] (SH, st) = m_bd (m_evc d 72 [.ref 1, .int t0, .int x2, .int x1] (SH, st)) fun w h => m_ev none d 1 64 [some (.ref 44), some (.int x1), some (.int x2), some (.int t0)] (w.toList ++ [.int x2, .ref 45]) h := m_ev_K _ _ _ _ _ _ _
set_option maxRecDepth 20000 in
theorem eaX0_takeDay_64 (d : Nat) (st : Nat → Nat → Int32) (x1 x2 x3 t0 t1 : Int32) : m_ev none d 1 64 [some (.ref 44), some (.int x1), some (.int x2), some (.int x3)] [.int t0, .int t1, .ref 45] (SH, st) = m_ob (m_ix t1 9) fun q1 => m_bd (m_evc d 32 [.ref 9, .int x3] (SH, (m_up st 45 q1 t0))) fun w h => m_ev none d 1 81 [some (.ref 44), some (.int x1), some (.int x2), some (.int x3)] (w.toList ++ [.int x2, .ref 46]) h := m_ev_K _ _ _ _ _ _ _
set_option maxRecDepth 20000 in
theorem eaX0_takeDay_81 (d : Nat) (st : Nat → Nat → Int32) (x1 x2 x3 t0 t1 : Int32) : m_ev none d 1 81 [some (.ref 44), some (.int x1), some (.int x2), some (.int x3)] [.int t0, .int t1, .ref 46] (SH, st) = m_ob (m_ix t1 9) fun q1 => m_ev none d 1 28 [some (.ref 44), some (.int x1), some (.int (x2 + 1)), some (.int x3)] [] (SH, (m_up st 46 q1 (vp_nar .boolean t0))) := m_ev_K _ _ _ _ _ _ _
set_option maxRecDepth 20000 in
theorem eaX0_takeDay_88 (d : Nat) (st : Nat → Nat → Int32) (x1 x2 : Int32) (x3 : Option Value) : m_ev none d 1 88 [some (.ref 44), some (.int x1), some (.int x2), x3] [] (SH, st) = some (none, (SH, st)) := m_ev_K _ _ _ _ _ _ _
set_option maxRecDepth 20000 in
theorem ebX0_takeDay_0 (d : Nat) (st : Nat → Nat → Int32) (x1 : Int32) : m_ev none d 1 0 [some (.ref 49), some (.int x1), none, none] [] (SH, st) = m_bd (m_evc d 70 [.ref 1, .int x1, .int 1] (SH, st)) fun w h => m_ev none d 1 10 [some (.ref 49), some (.int x1), none, none] (w.toList ++ [.ref 49]) h := m_ev_K _ _ _ _ _ _ _
set_option maxRecDepth 20000 in
theorem ebX0_takeDay_10 (d : Nat) (st : Nat → Nat → Int32) (x1 t0 : Int32) : m_ev none d 1 10 [some (.ref 49), some (.int x1), none, none] [.int t0, .ref 49] (SH, st) = m_bd (m_evc d 70 [.ref 1, .int x1, .int 0] (SH, (m_up st 49 3 t0))) fun w h => m_ev none d 1 23 [some (.ref 49), some (.int x1), none, none] (w.toList ++ [.ref 49]) h := m_ev_K _ _ _ _ _ _ _
set_option maxRecDepth 20000 in
theorem ebX0_takeDay_23 (d : Nat) (st : Nat → Nat → Int32) (x1 t0 : Int32) : m_ev none d 1 23 [some (.ref 49), some (.int x1), none, none] [.int t0, .ref 49] (SH, st) = m_ev none d 1 28 [some (.ref 49), some (.int x1), some (.int 0), none] [] (SH, (m_up st 49 4 t0)) := m_ev_K _ _ _ _ _ _ _
set_option maxRecDepth 20000 in
theorem ebX0_takeDay_28 (d : Nat) (st : Nat → Nat → Int32) (x1 x2 : Int32) (x3 : Option Value) : m_ev none d 1 28 [some (.ref 49), some (.int x1), some (.int x2), x3] [] (SH, st) = if x2 < (st 1 0) then (m_bd (m_evc d 71 [.ref 1, .int x2, .int x1] (SH, st)) fun w h => m_ev none d 1 48 [some (.ref 49), some (.int x1), some (.int x2), x3] (w.toList ++ []) h) else (m_ev none d 1 88 [some (.ref 49), some (.int x1), some (.int x2), x3] [] (SH, st)) := m_ev_K _ _ _ _ _ _ _
set_option maxRecDepth 20000 in
theorem ebX0_takeDay_48 (d : Nat) (st : Nat → Nat → Int32) (x1 x2 t0 : Int32) (x3 : Option Value) : m_ev none d 1 48 [some (.ref 49), some (.int x1), some (.int x2), x3] [.int t0] (SH, st) = m_bd (m_evc d 72 [.ref 1, .int t0, .int x2, .int x1] (SH, st)) fun w h => m_ev none d 1 64 [some (.ref 49), some (.int x1), some (.int x2), some (.int t0)] (w.toList ++ [.int x2, .ref 50]) h := m_ev_K _ _ _ _ _ _ _
set_option maxRecDepth 20000 in
theorem ebX0_takeDay_64 (d : Nat) (st : Nat → Nat → Int32) (x1 x2 x3 t0 t1 : Int32) : m_ev none d 1 64 [some (.ref 49), some (.int x1), some (.int x2), some (.int x3)] [.int t0, .int t1, .ref 50] (SH, st) = m_ob (m_ix t1 9) fun q1 => m_bd (m_evc d 32 [.ref 9, .int x3] (SH, (m_up st 50 q1 t0))) fun w h => m_ev none d 1 81 [some (.ref 49), some (.int x1), some (.int x2), some (.int x3)] (w.toList ++ [.int x2, .ref 51]) h := m_ev_K _ _ _ _ _ _ _
set_option maxRecDepth 20000 in
theorem ebX0_takeDay_81 (d : Nat) (st : Nat → Nat → Int32) (x1 x2 x3 t0 t1 : Int32) : m_ev none d 1 81 [some (.ref 49), some (.int x1), some (.int x2), some (.int x3)] [.int t0, .int t1, .ref 51] (SH, st) = m_ob (m_ix t1 9) fun q1 => m_ev none d 1 28 [some (.ref 49), some (.int x1), some (.int (x2 + 1)), some (.int x3)] [] (SH, (m_up st 51 q1 (vp_nar .boolean t0))) := m_ev_K _ _ _ _ _ _ _
set_option maxRecDepth 20000 in
theorem ebX0_takeDay_88 (d : Nat) (st : Nat → Nat → Int32) (x1 x2 : Int32) (x3 : Option Value) : m_ev none d 1 88 [some (.ref 49), some (.int x1), some (.int x2), x3] [] (SH, st) = some (none, (SH, st)) := m_ev_K _ _ _ _ _ _ _
set_option maxRecDepth 20000 in
theorem eaX0_goBothWays_0 (d : Nat) (st : Nat → Nat → Int32) (x1 x2 : Int32) : m_ev none d 2 0 [some (.ref 44), some (.int x1), some (.int x2)] [] (SH, st) = m_bd (m_evc d 5 [.ref 44, .int (1 <<< (x1 &&& 31)), .int x2] (SH, st)) fun w h => m_ev none d 2 8 [some (.ref 44), some (.int x1), some (.int x2)] (w.toList ++ []) h := m_ev_K _ _ _ _ _ _ _
set_option maxRecDepth 20000 in
theorem eaX0_goBothWays_8 (d : Nat) (st : Nat → Nat → Int32) (x1 x2 : Int32) : m_ev none d 2 8 [some (.ref 44), some (.int x1), some (.int x2)] [] (SH, st) = m_bd (m_evc d 6 [.ref 44, .int x1] (SH, st)) fun w h => m_ev none d 2 13 [some (.ref 44), some (.int x1), some (.int x2)] (w.toList ++ []) h := m_ev_K _ _ _ _ _ _ _
set_option maxRecDepth 20000 in
theorem eaX0_goBothWays_13 (d : Nat) (st : Nat → Nat → Int32) (x1 x2 : Int32) : m_ev none d 2 13 [some (.ref 44), some (.int x1), some (.int x2)] [] (SH, st) = m_bd (m_evc d 7 [.ref 44, .int x1] (SH, st)) fun w h => m_ev none d 2 18 [some (.ref 44), some (.int x1), some (.int x2)] (w.toList ++ []) h := m_ev_K _ _ _ _ _ _ _
set_option maxRecDepth 20000 in
theorem eaX0_goBothWays_18 (d : Nat) (st : Nat → Nat → Int32) (x1 x2 : Int32) : m_ev none d 2 18 [some (.ref 44), some (.int x1), some (.int x2)] [] (SH, st) = some (none, (SH, st)) := m_ev_K _ _ _ _ _ _ _
set_option maxRecDepth 20000 in
theorem ebX0_goBothWays_0 (d : Nat) (st : Nat → Nat → Int32) (x1 x2 : Int32) : m_ev none d 2 0 [some (.ref 49), some (.int x1), some (.int x2)] [] (SH, st) = m_bd (m_evc d 5 [.ref 49, .int (1 <<< (x1 &&& 31)), .int x2] (SH, st)) fun w h => m_ev none d 2 8 [some (.ref 49), some (.int x1), some (.int x2)] (w.toList ++ []) h := m_ev_K _ _ _ _ _ _ _
set_option maxRecDepth 20000 in
theorem ebX0_goBothWays_8 (d : Nat) (st : Nat → Nat → Int32) (x1 x2 : Int32) : m_ev none d 2 8 [some (.ref 49), some (.int x1), some (.int x2)] [] (SH, st) = m_bd (m_evc d 6 [.ref 49, .int x1] (SH, st)) fun w h => m_ev none d 2 13 [some (.ref 49), some (.int x1), some (.int x2)] (w.toList ++ []) h := m_ev_K _ _ _ _ _ _ _
set_option maxRecDepth 20000 in
theorem ebX0_goBothWays_13 (d : Nat) (st : Nat → Nat → Int32) (x1 x2 : Int32) : m_ev none d 2 13 [some (.ref 49), some (.int x1), some (.int x2)] [] (SH, st) = m_bd (m_evc d 7 [.ref 49, .int x1] (SH, st)) fun w h => m_ev none d 2 18 [some (.ref 49), some (.int x1), some (.int x2)] (w.toList ++ []) h := m_ev_K _ _ _ _ _ _ _
set_option maxRecDepth 20000 in
theorem ebX0_goBothWays_18 (d : Nat) (st : Nat → Nat → Int32) (x1 x2 : Int32) : m_ev none d 2 18 [some (.ref 49), some (.int x1), some (.int x2)] [] (SH, st) = some (none, (SH, st)) := m_ev_K _ _ _ _ _ _ _
set_option maxRecDepth 20000 in
theorem eX0_goOneWay_0 (d : Nat) (st : Nat → Nat → Int32) (x1 x2 x3 : Int32) : m_ev none d 3 0 [some (.ref 44), some (.int x1), some (.int x2), some (.int x3)] [] (SH, st) = m_bd (m_evc d 5 [.ref 44, .int (1 <<< (x1 &&& 31)), .int x2] (SH, st)) fun w h => m_ev none d 3 8 [some (.ref 44), some (.int x1), some (.int x2), some (.int x3)] (w.toList ++ []) h := m_ev_K _ _ _ _ _ _ _
set_option maxRecDepth 20000 in
theorem eX0_goOneWay_8 (d : Nat) (st : Nat → Nat → Int32) (x1 x2 x3 : Int32) : m_ev none d 3 8 [some (.ref 44), some (.int x1), some (.int x2), some (.int x3)] [] (SH, st) = if x3 = 0 then (m_ev none d 3 20 [some (.ref 44), some (.int x1), some (.int x2), some (.int x3)] [] (SH, st)) else (m_bd (m_evc d 6 [.ref 44, .int x1] (SH, st)) fun w h => m_ev none d 3 17 [some (.ref 44), some (.int x1), some (.int x2), some (.int x3)] (w.toList ++ []) h) := m_ev_K _ _ _ _ _ _ _
set_option maxRecDepth 20000 in
theorem eX0_goOneWay_17 (d : Nat) (st : Nat → Nat → Int32) (x1 x2 x3 : Int32) : m_ev none d 3 17 [some (.ref 44), some (.int x1), some (.int x2), some (.int x3)] [] (SH, st) = m_ev none d 3 25 [some (.ref 44), some (.int x1), some (.int x2), some (.int x3)] [] (SH, st) := m_ev_K _ _ _ _ _ _ _
set_option maxRecDepth 20000 in
theorem eX0_goOneWay_20 (d : Nat) (st : Nat → Nat → Int32) (x1 x2 x3 : Int32) : m_ev none d 3 20 [some (.ref 44), some (.int x1), some (.int x2), some (.int x3)] [] (SH, st) = m_bd (m_evc d 7 [.ref 44, .int x1] (SH, st)) fun w h => m_ev none d 3 25 [some (.ref 44), some (.int x1), some (.int x2), some (.int x3)] (w.toList ++ []) h := m_ev_K _ _ _ _ _ _ _
set_option maxRecDepth 20000 in
theorem eX0_goOneWay_25 (d : Nat) (st : Nat → Nat → Int32) (x1 x2 x3 : Int32) : m_ev none d 3 25 [some (.ref 44), some (.int x1), some (.int x2), some (.int x3)] [] (SH, st) = some (none, (SH, st)) := m_ev_K _ _ _ _ _ _ _
set_option maxRecDepth 20000 in
theorem eX0_farthestByClocks_0 (d : Nat) (st : Nat → Nat → Int32) (x1 x2 : Int32) : m_ev none d 4 0 [some (.ref 44), some (.int x1), some (.int x2), none, none] [] (SH, st) = m_bd (m_evc d 5 [.ref 44, .int x1, .int x2] (SH, st)) fun w h => m_ev none d 4 6 [some (.ref 44), some (.int x1), some (.int x2), none, none] (w.toList ++ []) h := m_ev_K _ _ _ _ _ _ _
set_option maxRecDepth 20000 in
theorem eX0_farthestByClocks_6 (d : Nat) (st : Nat → Nat → Int32) (x1 x2 : Int32) : m_ev none d 4 6 [some (.ref 44), some (.int x1), some (.int x2), none, none] [] (SH, st) = m_bd (m_evc d 6 [.ref 44, .int 0] (SH, st)) fun w h => m_ev none d 4 11 [some (.ref 44), some (.int x1), some (.int x2), none, none] (w.toList ++ []) h := m_ev_K _ _ _ _ _ _ _
set_option maxRecDepth 20000 in
theorem eX0_farthestByClocks_11 (d : Nat) (st : Nat → Nat → Int32) (x1 x2 : Int32) : m_ev none d 4 11 [some (.ref 44), some (.int x1), some (.int x2), none, none] [] (SH, st) = m_ev none d 4 16 [some (.ref 44), some (.int x1), some (.int x2), some (.int 0), some (.int 0)] [] (SH, st) := m_ev_K _ _ _ _ _ _ _
set_option maxRecDepth 20000 in
theorem eX0_farthestByClocks_16 (d : Nat) (st : Nat → Nat → Int32) (x1 x2 x3 x4 : Int32) : m_ev none d 4 16 [some (.ref 44), some (.int x1), some (.int x2), some (.int x3), some (.int x4)] [] (SH, st) = if x4 < (st 1 0) then (m_bd (m_evc d 10 [.ref 44, .int x4] (SH, st)) fun w h => m_ev none d 4 34 [some (.ref 44), some (.int x1), some (.int x2), some (.int x3), some (.int x4)] (w.toList ++ []) h) else (m_ev none d 4 56 [some (.ref 44), some (.int x1), some (.int x2), some (.int x3), some (.int x4)] [] (SH, st)) := m_ev_K _ _ _ _ _ _ _
set_option maxRecDepth 20000 in
theorem eX0_farthestByClocks_34 (d : Nat) (st : Nat → Nat → Int32) (x1 x2 x3 x4 t0 : Int32) : m_ev none d 4 34 [some (.ref 44), some (.int x1), some (.int x2), some (.int x3), some (.int x4)] [.int t0] (SH, st) = if t0 = 0 then (some (some (.int (-1)), (SH, st))) else (m_ev none d 4 39 [some (.ref 44), some (.int x1), some (.int x2), some (.int x3), some (.int x4)] [] (SH, st)) := m_ev_K _ _ _ _ _ _ _
set_option maxRecDepth 20000 in
theorem eX0_farthestByClocks_39 (d : Nat) (st : Nat → Nat → Int32) (x1 x2 x3 x4 : Int32) : m_ev none d 4 39 [some (.ref 44), some (.int x1), some (.int x2), some (.int x3), some (.int x4)] [] (SH, st) = m_bd (m_evc d 13 [.ref 44, .int x4] (SH, st)) fun w h => m_ev none d 4 46 [some (.ref 44), some (.int x1), some (.int x2), some (.int x3), some (.int x4)] (w.toList ++ [.int x3]) h := m_ev_K _ _ _ _ _ _ _
set_option maxRecDepth 20000 in
theorem eX0_farthestByClocks_46 (d : Nat) (st : Nat → Nat → Int32) (x1 x2 x3 x4 t0 t1 : Int32) : m_ev none d 4 46 [some (.ref 44), some (.int x1), some (.int x2), some (.int x3), some (.int x4)] [.int t0, .int t1] (SH, st) = m_ev none d 4 16 [some (.ref 44), some (.int x1), some (.int x2), some (.int (if t1 < t0 then t0 else t1)), some (.int (x4 + 1))] [] (SH, st) := m_ev_K _ _ _ _ _ _ _
set_option maxRecDepth 20000 in
theorem eX0_farthestByClocks_56 (d : Nat) (st : Nat → Nat → Int32) (x1 x2 x3 x4 : Int32) : m_ev none d 4 56 [some (.ref 44), some (.int x1), some (.int x2), some (.int x3), some (.int x4)] [] (SH, st) = some (some (.int x3), (SH, st)) := m_ev_K _ _ _ _ _ _ _
set_option maxRecDepth 20000 in
theorem eaX0_beginAt_0 (d : Nat) (st : Nat → Nat → Int32) (x1 x2 : Int32) : m_ev none d 5 0 [some (.ref 44), some (.int x1), some (.int x2), none] [] (SH, st) = m_ev none d 5 7 [some (.ref 44), some (.int x1), some (.int x2), some (.int 0)] [] (SH, (m_up st 44 5 x1)) := m_ev_K _ _ _ _ _ _ _
set_option maxRecDepth 20000 in
theorem eaX0_beginAt_7 (d : Nat) (st : Nat → Nat → Int32) (x1 x2 x3 : Int32) : m_ev none d 5 7 [some (.ref 44), some (.int x1), some (.int x2), some (.int x3)] [] (SH, st) = if x3 < 9 then (m_bd (m_evc d 8 [.ref 44, .int x3] (SH, st)) fun w h => m_ev none d 5 23 [some (.ref 44), some (.int x1), some (.int x2), some (.int x3)] (w.toList ++ [.int x3, .ref 47]) h) else (m_ev none d 5 51 [some (.ref 44), some (.int x1), some (.int x2), some (.int x3)] [] (SH, st)) := m_ev_K _ _ _ _ _ _ _
set_option maxRecDepth 20000 in
theorem eaX0_beginAt_23 (d : Nat) (st : Nat → Nat → Int32) (x1 x2 x3 t0 t1 : Int32) : m_ev none d 5 23 [some (.ref 44), some (.int x1), some (.int x2), some (.int x3)] [.int t0, .int t1, .ref 47] (SH, st) = if t0 = 0 then (m_ev none d 5 30 [some (.ref 44), some (.int x1), some (.int x2), some (.int x3)] [.int t1, .ref 47] (SH, st)) else (m_ev none d 5 32 [some (.ref 44), some (.int x1), some (.int x2), some (.int x3)] [.int x2, .int t1, .ref 47] (SH, st)) := m_ev_K _ _ _ _ _ _ _
set_option maxRecDepth 20000 in
theorem eaX0_beginAt_30 (d : Nat) (st : Nat → Nat → Int32) (x1 x2 x3 t0 : Int32) : m_ev none d 5 30 [some (.ref 44), some (.int x1), some (.int x2), some (.int x3)] [.int t0, .ref 47] (SH, st) = m_ev none d 5 32 [some (.ref 44), some (.int x1), some (.int x2), some (.int x3)] [.int (-9), .int t0, .ref 47] (SH, st) := m_ev_K _ _ _ _ _ _ _
set_option maxRecDepth 20000 in
theorem eaX0_beginAt_32 (d : Nat) (st : Nat → Nat → Int32) (x1 x2 x3 t0 t1 : Int32) : m_ev none d 5 32 [some (.ref 44), some (.int x1), some (.int x2), some (.int x3)] [.int t0, .int t1, .ref 47] (SH, st) = m_ob (m_ix t1 9) fun q1 => m_ob (m_ix x3 9) fun q2 => m_ob (m_ix x3 9) fun q3 => m_ev none d 5 7 [some (.ref 44), some (.int x1), some (.int x2), some (.int (x3 + 1))] [] (SH, (m_up (m_up st 47 q1 t0) 48 q3 ((m_up st 47 q1 t0) 47 q2))) := m_ev_K _ _ _ _ _ _ _
set_option maxRecDepth 20000 in
theorem eaX0_beginAt_51 (d : Nat) (st : Nat → Nat → Int32) (x1 x2 x3 : Int32) : m_ev none d 5 51 [some (.ref 44), some (.int x1), some (.int x2), some (.int x3)] [] (SH, st) = some (none, (SH, st)) := m_ev_K _ _ _ _ _ _ _
set_option maxRecDepth 20000 in
theorem ebX0_beginAt_0 (d : Nat) (st : Nat → Nat → Int32) (x1 x2 : Int32) : m_ev none d 5 0 [some (.ref 49), some (.int x1), some (.int x2), none] [] (SH, st) = m_ev none d 5 7 [some (.ref 49), some (.int x1), some (.int x2), some (.int 0)] [] (SH, (m_up st 49 5 x1)) := m_ev_K _ _ _ _ _ _ _
set_option maxRecDepth 20000 in
theorem ebX0_beginAt_7 (d : Nat) (st : Nat → Nat → Int32) (x1 x2 x3 : Int32) : m_ev none d 5 7 [some (.ref 49), some (.int x1), some (.int x2), some (.int x3)] [] (SH, st) = if x3 < 9 then (m_bd (m_evc d 8 [.ref 49, .int x3] (SH, st)) fun w h => m_ev none d 5 23 [some (.ref 49), some (.int x1), some (.int x2), some (.int x3)] (w.toList ++ [.int x3, .ref 52]) h) else (m_ev none d 5 51 [some (.ref 49), some (.int x1), some (.int x2), some (.int x3)] [] (SH, st)) := m_ev_K _ _ _ _ _ _ _
set_option maxRecDepth 20000 in
theorem ebX0_beginAt_23 (d : Nat) (st : Nat → Nat → Int32) (x1 x2 x3 t0 t1 : Int32) : m_ev none d 5 23 [some (.ref 49), some (.int x1), some (.int x2), some (.int x3)] [.int t0, .int t1, .ref 52] (SH, st) = if t0 = 0 then (m_ev none d 5 30 [some (.ref 49), some (.int x1), some (.int x2), some (.int x3)] [.int t1, .ref 52] (SH, st)) else (m_ev none d 5 32 [some (.ref 49), some (.int x1), some (.int x2), some (.int x3)] [.int x2, .int t1, .ref 52] (SH, st)) := m_ev_K _ _ _ _ _ _ _
set_option maxRecDepth 20000 in
theorem ebX0_beginAt_30 (d : Nat) (st : Nat → Nat → Int32) (x1 x2 x3 t0 : Int32) : m_ev none d 5 30 [some (.ref 49), some (.int x1), some (.int x2), some (.int x3)] [.int t0, .ref 52] (SH, st) = m_ev none d 5 32 [some (.ref 49), some (.int x1), some (.int x2), some (.int x3)] [.int (-9), .int t0, .ref 52] (SH, st) := m_ev_K _ _ _ _ _ _ _
set_option maxRecDepth 20000 in
theorem ebX0_beginAt_32 (d : Nat) (st : Nat → Nat → Int32) (x1 x2 x3 t0 t1 : Int32) : m_ev none d 5 32 [some (.ref 49), some (.int x1), some (.int x2), some (.int x3)] [.int t0, .int t1, .ref 52] (SH, st) = m_ob (m_ix t1 9) fun q1 => m_ob (m_ix x3 9) fun q2 => m_ob (m_ix x3 9) fun q3 => m_ev none d 5 7 [some (.ref 49), some (.int x1), some (.int x2), some (.int (x3 + 1))] [] (SH, (m_up (m_up st 52 q1 t0) 53 q3 ((m_up st 52 q1 t0) 52 q2))) := m_ev_K _ _ _ _ _ _ _
set_option maxRecDepth 20000 in
theorem ebX0_beginAt_51 (d : Nat) (st : Nat → Nat → Int32) (x1 x2 x3 : Int32) : m_ev none d 5 51 [some (.ref 49), some (.int x1), some (.int x2), some (.int x3)] [] (SH, st) = some (none, (SH, st)) := m_ev_K _ _ _ _ _ _ _
set_option maxRecDepth 20000 in
theorem eaX0_goWest_0 (d : Nat) (st : Nat → Nat → Int32) (x1 : Int32) : m_ev none d 6 0 [some (.ref 44), some (.int x1), none] [] (SH, st) = m_ev none d 6 2 [some (.ref 44), some (.int x1), some (.int x1)] [] (SH, st) := m_ev_K _ _ _ _ _ _ _
set_option maxRecDepth 20000 in
theorem eaX0_goWest_2 (d : Nat) (st : Nat → Nat → Int32) (x1 x2 : Int32) : m_ev none d 6 2 [some (.ref 44), some (.int x1), some (.int x2)] [] (SH, st) = if (x2 + 1) < (st 1 0) then (m_bd (m_evc d 8 [.ref 44, .int (x2 + 1)] (SH, st)) fun w h => m_ev none d 6 22 [some (.ref 44), some (.int x1), some (.int x2)] (w.toList ++ []) h) else (m_ev none d 6 55 [some (.ref 44), some (.int x1), some (.int x2)] [] (SH, st)) := m_ev_K _ _ _ _ _ _ _
set_option maxRecDepth 20000 in
theorem eaX0_goWest_22 (d : Nat) (st : Nat → Nat → Int32) (x1 x2 t0 : Int32) : m_ev none d 6 22 [some (.ref 44), some (.int x1), some (.int x2)] [.int t0] (SH, st) = if t0 = 0 then (m_ob (m_ix (x2 + 1) 9) fun q1 => m_bd (m_evc d 9 [.ref 44, .int x2, .int (x2 + 1), .int ((st 5 q1) * (st 44 3))] (SH, st)) fun w h => m_ev none d 6 49 [some (.ref 44), some (.int x1), some (.int x2)] (w.toList ++ []) h) else (m_ev none d 6 49 [some (.ref 44), some (.int x1), some (.int x2)] [] (SH, st)) := m_ev_K _ _ _ _ _ _ _
set_option maxRecDepth 20000 in
theorem eaX0_goWest_49 (d : Nat) (st : Nat → Nat → Int32) (x1 x2 : Int32) : m_ev none d 6 49 [some (.ref 44), some (.int x1), some (.int x2)] [] (SH, st) = m_ev none d 6 2 [some (.ref 44), some (.int x1), some (.int (x2 + 1))] [] (SH, st) := m_ev_K _ _ _ _ _ _ _
set_option maxRecDepth 20000 in
theorem eaX0_goWest_55 (d : Nat) (st : Nat → Nat → Int32) (x1 x2 : Int32) : m_ev none d 6 55 [some (.ref 44), some (.int x1), some (.int x2)] [] (SH, st) = some (none, (SH, st)) := m_ev_K _ _ _ _ _ _ _
set_option maxRecDepth 20000 in
theorem ebX0_goWest_0 (d : Nat) (st : Nat → Nat → Int32) (x1 : Int32) : m_ev none d 6 0 [some (.ref 49), some (.int x1), none] [] (SH, st) = m_ev none d 6 2 [some (.ref 49), some (.int x1), some (.int x1)] [] (SH, st) := m_ev_K _ _ _ _ _ _ _
set_option maxRecDepth 20000 in
theorem ebX0_goWest_2 (d : Nat) (st : Nat → Nat → Int32) (x1 x2 : Int32) : m_ev none d 6 2 [some (.ref 49), some (.int x1), some (.int x2)] [] (SH, st) = if (x2 + 1) < (st 1 0) then (m_bd (m_evc d 8 [.ref 49, .int (x2 + 1)] (SH, st)) fun w h => m_ev none d 6 22 [some (.ref 49), some (.int x1), some (.int x2)] (w.toList ++ []) h) else (m_ev none d 6 55 [some (.ref 49), some (.int x1), some (.int x2)] [] (SH, st)) := m_ev_K _ _ _ _ _ _ _
set_option maxRecDepth 20000 in
theorem ebX0_goWest_22 (d : Nat) (st : Nat → Nat → Int32) (x1 x2 t0 : Int32) : m_ev none d 6 22 [some (.ref 49), some (.int x1), some (.int x2)] [.int t0] (SH, st) = if t0 = 0 then (m_ob (m_ix (x2 + 1) 9) fun q1 => m_bd (m_evc d 9 [.ref 49, .int x2, .int (x2 + 1), .int ((st 5 q1) * (st 49 3))] (SH, st)) fun w h => m_ev none d 6 49 [some (.ref 49), some (.int x1), some (.int x2)] (w.toList ++ []) h) else (m_ev none d 6 49 [some (.ref 49), some (.int x1), some (.int x2)] [] (SH, st)) := m_ev_K _ _ _ _ _ _ _
set_option maxRecDepth 20000 in
theorem ebX0_goWest_49 (d : Nat) (st : Nat → Nat → Int32) (x1 x2 : Int32) : m_ev none d 6 49 [some (.ref 49), some (.int x1), some (.int x2)] [] (SH, st) = m_ev none d 6 2 [some (.ref 49), some (.int x1), some (.int (x2 + 1))] [] (SH, st) := m_ev_K _ _ _ _ _ _ _
set_option maxRecDepth 20000 in
theorem ebX0_goWest_55 (d : Nat) (st : Nat → Nat → Int32) (x1 x2 : Int32) : m_ev none d 6 55 [some (.ref 49), some (.int x1), some (.int x2)] [] (SH, st) = some (none, (SH, st)) := m_ev_K _ _ _ _ _ _ _
set_option maxRecDepth 20000 in
theorem eaX0_goEast_0 (d : Nat) (st : Nat → Nat → Int32) (x1 : Int32) : m_ev none d 7 0 [some (.ref 44), some (.int x1), none] [] (SH, st) = m_ev none d 7 2 [some (.ref 44), some (.int x1), some (.int x1)] [] (SH, st) := m_ev_K _ _ _ _ _ _ _
set_option maxRecDepth 20000 in
theorem eaX0_goEast_2 (d : Nat) (st : Nat → Nat → Int32) (x1 x2 : Int32) : m_ev none d 7 2 [some (.ref 44), some (.int x1), some (.int x2)] [] (SH, st) = if 0 < x2 then (m_ob (m_ix x2 9) fun q1 => m_bd (m_evc d 9 [.ref 44, .int x2, .int (x2 - 1), .int ((st 5 q1) * (st 44 4))] (SH, st)) fun w h => m_ev none d 7 28 [some (.ref 44), some (.int x1), some (.int x2)] (w.toList ++ []) h) else (m_ev none d 7 34 [some (.ref 44), some (.int x1), some (.int x2)] [] (SH, st)) := m_ev_K _ _ _ _ _ _ _
set_option maxRecDepth 20000 in
theorem eaX0_goEast_28 (d : Nat) (st : Nat → Nat → Int32) (x1 x2 : Int32) : m_ev none d 7 28 [some (.ref 44), some (.int x1), some (.int x2)] [] (SH, st) = m_ev none d 7 2 [some (.ref 44), some (.int x1), some (.int (x2 + (-1)))] [] (SH, st) := m_ev_K _ _ _ _ _ _ _
set_option maxRecDepth 20000 in
theorem eaX0_goEast_34 (d : Nat) (st : Nat → Nat → Int32) (x1 x2 : Int32) : m_ev none d 7 34 [some (.ref 44), some (.int x1), some (.int x2)] [] (SH, st) = some (none, (SH, st)) := m_ev_K _ _ _ _ _ _ _
set_option maxRecDepth 20000 in
theorem ebX0_goEast_0 (d : Nat) (st : Nat → Nat → Int32) (x1 : Int32) : m_ev none d 7 0 [some (.ref 49), some (.int x1), none] [] (SH, st) = m_ev none d 7 2 [some (.ref 49), some (.int x1), some (.int x1)] [] (SH, st) := m_ev_K _ _ _ _ _ _ _
set_option maxRecDepth 20000 in
theorem ebX0_goEast_2 (d : Nat) (st : Nat → Nat → Int32) (x1 x2 : Int32) : m_ev none d 7 2 [some (.ref 49), some (.int x1), some (.int x2)] [] (SH, st) = if 0 < x2 then (m_ob (m_ix x2 9) fun q1 => m_bd (m_evc d 9 [.ref 49, .int x2, .int (x2 - 1), .int ((st 5 q1) * (st 49 4))] (SH, st)) fun w h => m_ev none d 7 28 [some (.ref 49), some (.int x1), some (.int x2)] (w.toList ++ []) h) else (m_ev none d 7 34 [some (.ref 49), some (.int x1), some (.int x2)] [] (SH, st)) := m_ev_K _ _ _ _ _ _ _
set_option maxRecDepth 20000 in
theorem ebX0_goEast_28 (d : Nat) (st : Nat → Nat → Int32) (x1 x2 : Int32) : m_ev none d 7 28 [some (.ref 49), some (.int x1), some (.int x2)] [] (SH, st) = m_ev none d 7 2 [some (.ref 49), some (.int x1), some (.int (x2 + (-1)))] [] (SH, st) := m_ev_K _ _ _ _ _ _ _
set_option maxRecDepth 20000 in
theorem ebX0_goEast_34 (d : Nat) (st : Nat → Nat → Int32) (x1 x2 : Int32) : m_ev none d 7 34 [some (.ref 49), some (.int x1), some (.int x2)] [] (SH, st) = some (none, (SH, st)) := m_ev_K _ _ _ _ _ _ _
set_option maxRecDepth 20000 in
theorem eaX0_isBeginning_0 (d : Nat) (st : Nat → Nat → Int32) (x1 : Int32) : m_ev none d 8 0 [some (.ref 44), some (.int x1)] [] (SH, st) = if ((((st 44 5) : Int32).toUInt32 >>> ((x1 : Int32).toUInt32 &&& Int32.toUInt32 31)).toInt32 &&& 1) = 1 then (m_ev none d 8 17 [some (.ref 44), some (.int x1)] [.int 1] (SH, st)) else (m_ev none d 8 16 [some (.ref 44), some (.int x1)] [] (SH, st)) := m_ev_K _ _ _ _ _ _ _
set_option maxRecDepth 20000 in
theorem eaX0_isBeginning_16 (d : Nat) (st : Nat → Nat → Int32) (x1 : Int32) : m_ev none d 8 16 [some (.ref 44), some (.int x1)] [] (SH, st) = m_ev none d 8 17 [some (.ref 44), some (.int x1)] [.int 0] (SH, st) := m_ev_K _ _ _ _ _ _ _
set_option maxRecDepth 20000 in
theorem eaX0_isBeginning_17 (d : Nat) (st : Nat → Nat → Int32) (x1 t0 : Int32) : m_ev none d 8 17 [some (.ref 44), some (.int x1)] [.int t0] (SH, st) = if t0 = 0 ∨ t0 = 1 then some (some (.int t0), (SH, st)) else none := m_ev_K _ _ _ _ _ _ _
set_option maxRecDepth 20000 in
theorem ebX0_isBeginning_0 (d : Nat) (st : Nat → Nat → Int32) (x1 : Int32) : m_ev none d 8 0 [some (.ref 49), some (.int x1)] [] (SH, st) = if ((((st 49 5) : Int32).toUInt32 >>> ((x1 : Int32).toUInt32 &&& Int32.toUInt32 31)).toInt32 &&& 1) = 1 then (m_ev none d 8 17 [some (.ref 49), some (.int x1)] [.int 1] (SH, st)) else (m_ev none d 8 16 [some (.ref 49), some (.int x1)] [] (SH, st)) := m_ev_K _ _ _ _ _ _ _
set_option maxRecDepth 20000 in
theorem ebX0_isBeginning_16 (d : Nat) (st : Nat → Nat → Int32) (x1 : Int32) : m_ev none d 8 16 [some (.ref 49), some (.int x1)] [] (SH, st) = m_ev none d 8 17 [some (.ref 49), some (.int x1)] [.int 0] (SH, st) := m_ev_K _ _ _ _ _ _ _
set_option maxRecDepth 20000 in
theorem ebX0_isBeginning_17 (d : Nat) (st : Nat → Nat → Int32) (x1 t0 : Int32) : m_ev none d 8 17 [some (.ref 49), some (.int x1)] [.int t0] (SH, st) = if t0 = 0 ∨ t0 = 1 then some (some (.int t0), (SH, st)) else none := m_ev_K _ _ _ _ _ _ _
set_option maxRecDepth 20000 in
theorem eaX0_bring_0 (d : Nat) (st : Nat → Nat → Int32) (x1 x2 x3 : Int32) : m_ev none d 9 0 [some (.ref 44), some (.int x1), some (.int x2), some (.int x3), none] [] (SH, st) = m_bd (m_evc d 10 [.ref 44, .int x1] (SH, st)) fun w h => m_ev none d 9 5 [some (.ref 44), some (.int x1), some (.int x2), some (.int x3), none] (w.toList ++ []) h := m_ev_K _ _ _ _ _ _ _
set_option maxRecDepth 20000 in
theorem eaX0_bring_5 (d : Nat) (st : Nat → Nat → Int32) (x1 x2 x3 t0 : Int32) : m_ev none d 9 5 [some (.ref 44), some (.int x1), some (.int x2), some (.int x3), none] [.int t0] (SH, st) = if t0 = 0 then (m_ev none d 9 25 [some (.ref 44), some (.int x1), some (.int x2), some (.int x3), none] [] (SH, st)) else (m_ob (m_ix x1 9) fun q1 => if (st 46 q1) = 0 then (m_ev none d 9 26 [some (.ref 44), some (.int x1), some (.int x2), some (.int x3), none] [] (SH, st)) else (m_bd (m_evc d 8 [.ref 44, .int x1] (SH, st)) fun w h => m_ev none d 9 22 [some (.ref 44), some (.int x1), some (.int x2), some (.int x3), none] (w.toList ++ []) h)) := m_ev_K _ _ _ _ _ _ _
set_option maxRecDepth 20000 in
theorem eaX0_bring_22 (d : Nat) (st : Nat → Nat → Int32) (x1 x2 x3 t0 : Int32) : m_ev none d 9 22 [some (.ref 44), some (.int x1), some (.int x2), some (.int x3), none] [.int t0] (SH, st) = if t0 = 0 then (m_ev none d 9 25 [some (.ref 44), some (.int x1), some (.int x2), some (.int x3), none] [] (SH, st)) else (m_ev none d 9 26 [some (.ref 44), some (.int x1), some (.int x2), some (.int x3), none] [] (SH, st)) := m_ev_K _ _ _ _ _ _ _
set_option maxRecDepth 20000 in
theorem eaX0_bring_25 (d : Nat) (st : Nat → Nat → Int32) (x1 x2 x3 : Int32) : m_ev none d 9 25 [some (.ref 44), some (.int x1), some (.int x2), some (.int x3), none] [] (SH, st) = some (none, (SH, st)) := m_ev_K _ _ _ _ _ _ _
set_option maxRecDepth 20000 in
theorem eaX0_bring_26 (d : Nat) (st : Nat → Nat → Int32) (x1 x2 x3 : Int32) : m_ev none d 9 26 [some (.ref 44), some (.int x1), some (.int x2), some (.int x3), none] [] (SH, st) = m_ob (m_ix x1 9) fun q1 => m_bd (m_evc d 8 [.ref 44, .int x1] (SH, st)) fun w h => m_ev none d 9 37 [some (.ref 44), some (.int x1), some (.int x2), some (.int x3), none] (w.toList ++ [.int (st 47 q1)]) h := m_ev_K _ _ _ _ _ _ _
set_option maxRecDepth 20000 in
theorem eaX0_bring_37 (d : Nat) (st : Nat → Nat → Int32) (x1 x2 x3 t0 t1 : Int32) : m_ev none d 9 37 [some (.ref 44), some (.int x1), some (.int x2), some (.int x3), none] [.int t0, .int t1] (SH, st) = if t0 = 0 then (m_ev none d 9 44 [some (.ref 44), some (.int x1), some (.int x2), some (.int x3), none] [.int t1] (SH, st)) else (m_ev none d 9 53 [some (.ref 44), some (.int x1), some (.int x2), some (.int x3), none] [.int 0, .int t1] (SH, st)) := m_ev_K _ _ _ _ _ _ _
set_option maxRecDepth 20000 in
theorem eaX0_bring_44 (d : Nat) (st : Nat → Nat → Int32) (x1 x2 x3 t0 : Int32) : m_ev none d 9 44 [some (.ref 44), some (.int x1), some (.int x2), some (.int x3), none] [.int t0] (SH, st) = m_ob (m_ix x1 9) fun q1 => m_ev none d 9 53 [some (.ref 44), some (.int x1), some (.int x2), some (.int x3), none] [.int (st 4 q1), .int t0] (SH, st) := m_ev_K _ _ _ _ _ _ _
set_option maxRecDepth 20000 in
theorem eaX0_bring_53 (d : Nat) (st : Nat → Nat → Int32) (x1 x2 x3 t0 t1 : Int32) : m_ev none d 9 53 [some (.ref 44), some (.int x1), some (.int x2), some (.int x3), none] [.int t0, .int t1] (SH, st) = m_ob (m_ix x2 9) fun q1 => if (st 2 q1) = 5 then (if ((t1 + t0) + x3) < 360 then (some (none, (SH, st))) else (m_ev none d 9 80 [some (.ref 44), some (.int x1), some (.int x2), some (.int x3), some (.int ((t1 + t0) + x3))] [] (SH, st))) else (m_ev none d 9 80 [some (.ref 44), some (.int x1), some (.int x2), some (.int x3), some (.int ((t1 + t0) + x3))] [] (SH, st)) := m_ev_K _ _ _ _ _ _ _
set_option maxRecDepth 20000 in
theorem eaX0_bring_80 (d : Nat) (st : Nat → Nat → Int32) (x1 x2 x3 x4 : Int32) : m_ev none d 9 80 [some (.ref 44), some (.int x1), some (.int x2), some (.int x3), some (.int x4)] [] (SH, st) = m_ob (m_ix x2 9) fun q1 => m_ob (m_ix x1 9) fun q2 => m_ob (m_ix x2 9) fun q3 => m_ob (m_ix x2 9) fun q4 => some (none, (SH, (m_up (m_up st 47 q1 x4) 48 q4 ((st 48 q2) + (st 45 q3))))) := m_ev_K _ _ _ _ _ _ _
set_option maxRecDepth 20000 in
theorem ebX0_bring_0 (d : Nat) (st : Nat → Nat → Int32) (x1 x2 x3 : Int32) : m_ev none d 9 0 [some (.ref 49), some (.int x1), some (.int x2), some (.int x3), none] [] (SH, st) = m_bd (m_evc d 10 [.ref 49, .int x1] (SH, st)) fun w h => m_ev none d 9 5 [some (.ref 49), some (.int x1), some (.int x2), some (.int x3), none] (w.toList ++ []) h := m_ev_K _ _ _ _ _ _ _
set_option maxRecDepth 20000 in
theorem ebX0_bring_5 (d : Nat) (st : Nat → Nat → Int32) (x1 x2 x3 t0 : Int32) : m_ev none d 9 5 [some (.ref 49), some (.int x1), some (.int x2), some (.int x3), none] [.int t0] (SH, st) = if t0 = 0 then (m_ev none d 9 25 [some (.ref 49), some (.int x1), some (.int x2), some (.int x3), none] [] (SH, st)) else (m_ob (m_ix x1 9) fun q1 => if (st 51 q1) = 0 then (m_ev none d 9 26 [some (.ref 49), some (.int x1), some (.int x2), some (.int x3), none] [] (SH, st)) else (m_bd (m_evc d 8 [.ref 49, .int x1] (SH, st)) fun w h => m_ev none d 9 22 [some (.ref 49), some (.int x1), some (.int x2), some (.int x3), none] (w.toList ++ []) h)) := m_ev_K _ _ _ _ _ _ _
set_option maxRecDepth 20000 in
theorem ebX0_bring_22 (d : Nat) (st : Nat → Nat → Int32) (x1 x2 x3 t0 : Int32) : m_ev none d 9 22 [some (.ref 49), some (.int x1), some (.int x2), some (.int x3), none] [.int t0] (SH, st) = if t0 = 0 then (m_ev none d 9 25 [some (.ref 49), some (.int x1), some (.int x2), some (.int x3), none] [] (SH, st)) else (m_ev none d 9 26 [some (.ref 49), some (.int x1), some (.int x2), some (.int x3), none] [] (SH, st)) := m_ev_K _ _ _ _ _ _ _
set_option maxRecDepth 20000 in
theorem ebX0_bring_25 (d : Nat) (st : Nat → Nat → Int32) (x1 x2 x3 : Int32) : m_ev none d 9 25 [some (.ref 49), some (.int x1), some (.int x2), some (.int x3), none] [] (SH, st) = some (none, (SH, st)) := m_ev_K _ _ _ _ _ _ _
set_option maxRecDepth 20000 in
theorem ebX0_bring_26 (d : Nat) (st : Nat → Nat → Int32) (x1 x2 x3 : Int32) : m_ev none d 9 26 [some (.ref 49), some (.int x1), some (.int x2), some (.int x3), none] [] (SH, st) = m_ob (m_ix x1 9) fun q1 => m_bd (m_evc d 8 [.ref 49, .int x1] (SH, st)) fun w h => m_ev none d 9 37 [some (.ref 49), some (.int x1), some (.int x2), some (.int x3), none] (w.toList ++ [.int (st 52 q1)]) h := m_ev_K _ _ _ _ _ _ _
set_option maxRecDepth 20000 in
theorem ebX0_bring_37 (d : Nat) (st : Nat → Nat → Int32) (x1 x2 x3 t0 t1 : Int32) : m_ev none d 9 37 [some (.ref 49), some (.int x1), some (.int x2), some (.int x3), none] [.int t0, .int t1] (SH, st) = if t0 = 0 then (m_ev none d 9 44 [some (.ref 49), some (.int x1), some (.int x2), some (.int x3), none] [.int t1] (SH, st)) else (m_ev none d 9 53 [some (.ref 49), some (.int x1), some (.int x2), some (.int x3), none] [.int 0, .int t1] (SH, st)) := m_ev_K _ _ _ _ _ _ _
set_option maxRecDepth 20000 in
theorem ebX0_bring_44 (d : Nat) (st : Nat → Nat → Int32) (x1 x2 x3 t0 : Int32) : m_ev none d 9 44 [some (.ref 49), some (.int x1), some (.int x2), some (.int x3), none] [.int t0] (SH, st) = m_ob (m_ix x1 9) fun q1 => m_ev none d 9 53 [some (.ref 49), some (.int x1), some (.int x2), some (.int x3), none] [.int (st 4 q1), .int t0] (SH, st) := m_ev_K _ _ _ _ _ _ _
set_option maxRecDepth 20000 in
theorem ebX0_bring_53 (d : Nat) (st : Nat → Nat → Int32) (x1 x2 x3 t0 t1 : Int32) : m_ev none d 9 53 [some (.ref 49), some (.int x1), some (.int x2), some (.int x3), none] [.int t0, .int t1] (SH, st) = m_ob (m_ix x2 9) fun q1 => if (st 2 q1) = 5 then (if ((t1 + t0) + x3) < 360 then (some (none, (SH, st))) else (m_ev none d 9 80 [some (.ref 49), some (.int x1), some (.int x2), some (.int x3), some (.int ((t1 + t0) + x3))] [] (SH, st))) else (m_ev none d 9 80 [some (.ref 49), some (.int x1), some (.int x2), some (.int x3), some (.int ((t1 + t0) + x3))] [] (SH, st)) := m_ev_K _ _ _ _ _ _ _
set_option maxRecDepth 20000 in
theorem ebX0_bring_80 (d : Nat) (st : Nat → Nat → Int32) (x1 x2 x3 x4 : Int32) : m_ev none d 9 80 [some (.ref 49), some (.int x1), some (.int x2), some (.int x3), some (.int x4)] [] (SH, st) = m_ob (m_ix x2 9) fun q1 => m_ob (m_ix x1 9) fun q2 => m_ob (m_ix x2 9) fun q3 => m_ob (m_ix x2 9) fun q4 => some (none, (SH, (m_up (m_up st 52 q1 x4) 53 q4 ((st 53 q2) + (st 50 q3))))) := m_ev_K _ _ _ _ _ _ _
set_option maxRecDepth 20000 in
theorem eaX0_reaches_0 (d : Nat) (st : Nat → Nat → Int32) (x1 : Int32) : m_ev none d 10 0 [some (.ref 44), some (.int x1)] [] (SH, st) = m_ob (m_ix x1 9) fun q1 => if (st 47 q1) = (-9) then (m_ev none d 10 15 [some (.ref 44), some (.int x1)] [] (SH, st)) else (m_ev none d 10 16 [some (.ref 44), some (.int x1)] [.int 1] (SH, st)) := m_ev_K _ _ _ _ _ _ _
set_option maxRecDepth 20000 in
theorem eaX0_reaches_15 (d : Nat) (st : Nat → Nat → Int32) (x1 : Int32) : m_ev none d 10 15 [some (.ref 44), some (.int x1)] [] (SH, st) = m_ev none d 10 16 [some (.ref 44), some (.int x1)] [.int 0] (SH, st) := m_ev_K _ _ _ _ _ _ _
set_option maxRecDepth 20000 in
theorem eaX0_reaches_16 (d : Nat) (st : Nat → Nat → Int32) (x1 t0 : Int32) : m_ev none d 10 16 [some (.ref 44), some (.int x1)] [.int t0] (SH, st) = if t0 = 0 ∨ t0 = 1 then some (some (.int t0), (SH, st)) else none := m_ev_K _ _ _ _ _ _ _
set_option maxRecDepth 20000 in
theorem ebX0_reaches_0 (d : Nat) (st : Nat → Nat → Int32) (x1 : Int32) : m_ev none d 10 0 [some (.ref 49), some (.int x1)] [] (SH, st) = m_ob (m_ix x1 9) fun q1 => if (st 52 q1) = (-9) then (m_ev none d 10 15 [some (.ref 49), some (.int x1)] [] (SH, st)) else (m_ev none d 10 16 [some (.ref 49), some (.int x1)] [.int 1] (SH, st)) := m_ev_K _ _ _ _ _ _ _
set_option maxRecDepth 20000 in
theorem ebX0_reaches_15 (d : Nat) (st : Nat → Nat → Int32) (x1 : Int32) : m_ev none d 10 15 [some (.ref 49), some (.int x1)] [] (SH, st) = m_ev none d 10 16 [some (.ref 49), some (.int x1)] [.int 0] (SH, st) := m_ev_K _ _ _ _ _ _ _
set_option maxRecDepth 20000 in
theorem ebX0_reaches_16 (d : Nat) (st : Nat → Nat → Int32) (x1 t0 : Int32) : m_ev none d 10 16 [some (.ref 49), some (.int x1)] [.int t0] (SH, st) = if t0 = 0 ∨ t0 = 1 then some (some (.int t0), (SH, st)) else none := m_ev_K _ _ _ _ _ _ _
set_option maxRecDepth 20000 in
theorem eX0_reached_0 (d : Nat) (st : Nat → Nat → Int32) : m_ev none d 11 0 [some (.ref 44), none, none] [] (SH, st) = m_ev none d 11 4 [some (.ref 44), some (.int 0), some (.int 0)] [] (SH, st) := m_ev_K _ _ _ _ _ _ _
set_option maxRecDepth 20000 in
theorem eX0_reached_4 (d : Nat) (st : Nat → Nat → Int32) (x1 x2 : Int32) : m_ev none d 11 4 [some (.ref 44), some (.int x1), some (.int x2)] [] (SH, st) = if x2 < (st 1 0) then (m_bd (m_evc d 10 [.ref 44, .int x2] (SH, st)) fun w h => m_ev none d 11 20 [some (.ref 44), some (.int x1), some (.int x2)] (w.toList ++ []) h) else (m_ev none d 11 32 [some (.ref 44), some (.int x1), some (.int x2)] [] (SH, st)) := m_ev_K _ _ _ _ _ _ _
set_option maxRecDepth 20000 in
theorem eX0_reached_20 (d : Nat) (st : Nat → Nat → Int32) (x1 x2 t0 : Int32) : m_ev none d 11 20 [some (.ref 44), some (.int x1), some (.int x2)] [.int t0] (SH, st) = if t0 = 0 then (m_ev none d 11 26 [some (.ref 44), some (.int x1), some (.int x2)] [] (SH, st)) else (m_ev none d 11 26 [some (.ref 44), some (.int (x1 + 1)), some (.int x2)] [] (SH, st)) := m_ev_K _ _ _ _ _ _ _
set_option maxRecDepth 20000 in
theorem eX0_reached_26 (d : Nat) (st : Nat → Nat → Int32) (x1 x2 : Int32) : m_ev none d 11 26 [some (.ref 44), some (.int x1), some (.int x2)] [] (SH, st) = m_ev none d 11 4 [some (.ref 44), some (.int x1), some (.int (x2 + 1))] [] (SH, st) := m_ev_K _ _ _ _ _ _ _
set_option maxRecDepth 20000 in
theorem eX0_reached_32 (d : Nat) (st : Nat → Nat → Int32) (x1 x2 : Int32) : m_ev none d 11 32 [some (.ref 44), some (.int x1), some (.int x2)] [] (SH, st) = some (some (.int x1), (SH, st)) := m_ev_K _ _ _ _ _ _ _
set_option maxRecDepth 20000 in
theorem eX0_offOf_0 (d : Nat) (st : Nat → Nat → Int32) (x1 : Int32) : m_ev none d 12 0 [some (.ref 44), some (.int x1)] [] (SH, st) = m_ob (m_ix x1 9) fun q1 => m_ob (m_ix x1 9) fun q2 => some (some (.int ((st 48 q1) - (st 47 q2))), (SH, st)) := m_ev_K _ _ _ _ _ _ _
set_option maxRecDepth 20000 in
theorem eX0_distanceOf_0 (d : Nat) (st : Nat → Nat → Int32) (x1 : Int32) : m_ev none d 13 0 [some (.ref 44), some (.int x1)] [] (SH, st) = m_bd (m_evc d 12 [.ref 44, .int x1] (SH, st)) fun w h => m_ev none d 13 5 [some (.ref 44), some (.int x1)] (w.toList ++ []) h := m_ev_K _ _ _ _ _ _ _
set_option maxRecDepth 20000 in
theorem eX0_distanceOf_5 (d : Nat) (st : Nat → Nat → Int32) (x1 t0 : Int32) : m_ev none d 13 5 [some (.ref 44), some (.int x1)] [.int t0] (SH, st) = some (some (.int (if 0 ≤ t0 then t0 else 0 - t0)), (SH, st)) := m_ev_K _ _ _ _ _ _ _
set_option maxRecDepth 20000 in
theorem eX0_sumOfDistances_0 (d : Nat) (st : Nat → Nat → Int32) : m_ev none d 14 0 [some (.ref 44), none, none] [] (SH, st) = m_ev none d 14 4 [some (.ref 44), some (.int 0), some (.int 0)] [] (SH, st) := m_ev_K _ _ _ _ _ _ _
set_option maxRecDepth 20000 in
theorem eX0_sumOfDistances_4 (d : Nat) (st : Nat → Nat → Int32) (x1 x2 : Int32) : m_ev none d 14 4 [some (.ref 44), some (.int x1), some (.int x2)] [] (SH, st) = if x2 < (st 1 0) then (m_bd (m_evc d 10 [.ref 44, .int x2] (SH, st)) fun w h => m_ev none d 14 20 [some (.ref 44), some (.int x1), some (.int x2)] (w.toList ++ []) h) else (m_ev none d 14 37 [some (.ref 44), some (.int x1), some (.int x2)] [] (SH, st)) := m_ev_K _ _ _ _ _ _ _
set_option maxRecDepth 20000 in
theorem eX0_sumOfDistances_20 (d : Nat) (st : Nat → Nat → Int32) (x1 x2 t0 : Int32) : m_ev none d 14 20 [some (.ref 44), some (.int x1), some (.int x2)] [.int t0] (SH, st) = if t0 = 0 then (m_ev none d 14 31 [some (.ref 44), some (.int x1), some (.int x2)] [] (SH, st)) else (m_bd (m_evc d 13 [.ref 44, .int x2] (SH, st)) fun w h => m_ev none d 14 29 [some (.ref 44), some (.int x1), some (.int x2)] (w.toList ++ [.int x1]) h) := m_ev_K _ _ _ _ _ _ _
set_option maxRecDepth 20000 in
theorem eX0_sumOfDistances_29 (d : Nat) (st : Nat → Nat → Int32) (x1 x2 t0 t1 : Int32) : m_ev none d 14 29 [some (.ref 44), some (.int x1), some (.int x2)] [.int t0, .int t1] (SH, st) = m_ev none d 14 31 [some (.ref 44), some (.int (t1 + t0)), some (.int x2)] [] (SH, st) := m_ev_K _ _ _ _ _ _ _
set_option maxRecDepth 20000 in
theorem eX0_sumOfDistances_31 (d : Nat) (st : Nat → Nat → Int32) (x1 x2 : Int32) : m_ev none d 14 31 [some (.ref 44), some (.int x1), some (.int x2)] [] (SH, st) = m_ev none d 14 4 [some (.ref 44), some (.int x1), some (.int (x2 + 1))] [] (SH, st) := m_ev_K _ _ _ _ _ _ _
set_option maxRecDepth 20000 in
theorem eX0_sumOfDistances_37 (d : Nat) (st : Nat → Nat → Int32) (x1 x2 : Int32) : m_ev none d 14 37 [some (.ref 44), some (.int x1), some (.int x2)] [] (SH, st) = some (some (.int x1), (SH, st)) := m_ev_K _ _ _ _ _ _ _
set_option maxRecDepth 20000 in
theorem eX0_noonOf_0 (d : Nat) (st : Nat → Nat → Int32) (x1 : Int32) : m_ev none d 15 0 [some (.ref 44), some (.int x1)] [] (SH, st) = m_ob (m_ix x1 9) fun q1 => m_ob (m_ix x1 9) fun q2 => some (some (.int (((st 47 q1) + 720) - (st 48 q2))), (SH, st)) := m_ev_K _ _ _ _ _ _ _
