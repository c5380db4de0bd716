set_option maxRecDepth 20000 in
theorem eX9_isTower_0 (d : Nat) (st : Nat → Nat → Int32) (x1 : Int32) : m_ev none d 68 0 [some (.ref 1), some (.int x1)] [] (SH, st) = if x1 < 0 then (m_ev none d 68 16 [some (.ref 1), some (.int x1)] [] (SH, st)) else (if x1 < (st 1 0) then (m_ev none d 68 17 [some (.ref 1), some (.int x1)] [.int 1] (SH, st)) else (m_ev none d 68 16 [some (.ref 1), some (.int x1)] [] (SH, st))) := m_ev_K _ _ _ _ _ _ _
set_option maxRecDepth 20000 in
theorem eX9_isTower_16 (d : Nat) (st : Nat → Nat → Int32) (x1 : Int32) : m_ev none d 68 16 [some (.ref 1), some (.int x1)] [] (SH, st) = m_ev none d 68 17 [some (.ref 1), some (.int x1)] [.int 0] (SH, st) := m_ev_K _ _ _ _ _ _ _
set_option maxRecDepth 20000 in
theorem eX9_isTower_17 (d : Nat) (st : Nat → Nat → Int32) (x1 t0 : Int32) : m_ev none d 68 17 [some (.ref 1), some (.int x1)] [.int t0] (SH, st) = if t0 = 0 ∨ t0 = 1 then some (some (.int t0), (SH, st)) else none := m_ev_K _ _ _ _ _ _ _
set_option maxRecDepth 20000 in
theorem eX9_holding_0 (d : Nat) (st : Nat → Nat → Int32) : m_ev none d 69 0 [some (.ref 1), none, none] [] (SH, st) = m_ev none d 69 4 [some (.ref 1), some (.int 0), some (.int 0)] [] (SH, st) := m_ev_K _ _ _ _ _ _ _
set_option maxRecDepth 20000 in
theorem eX9_holding_4 (d : Nat) (st : Nat → Nat → Int32) (x1 x2 : Int32) : m_ev none d 69 4 [some (.ref 1), some (.int x1), some (.int x2)] [] (SH, st) = if x2 < (st 1 0) then (m_ob (m_ix x2 9) fun q1 => if (st 7 q1) = (-9) then (m_ev none d 69 26 [some (.ref 1), some (.int x1), some (.int x2)] [] (SH, st)) else (m_ev none d 69 26 [some (.ref 1), some (.int (x1 + 1)), some (.int x2)] [] (SH, st))) else (m_ev none d 69 32 [some (.ref 1), some (.int x1), some (.int x2)] [] (SH, st)) := m_ev_K _ _ _ _ _ _ _
set_option maxRecDepth 20000 in
theorem eX9_holding_26 (d : Nat) (st : Nat → Nat → Int32) (x1 x2 : Int32) : m_ev none d 69 26 [some (.ref 1), some (.int x1), some (.int x2)] [] (SH, st) = m_ev none d 69 4 [some (.ref 1), some (.int x1), some (.int (x2 + 1))] [] (SH, st) := m_ev_K _ _ _ _ _ _ _
set_option maxRecDepth 20000 in
theorem eX9_holding_32 (d : Nat) (st : Nat → Nat → Int32) (x1 x2 : Int32) : m_ev none d 69 32 [some (.ref 1), some (.int x1), some (.int x2)] [] (SH, st) = some (some (.int x1), (SH, st)) := m_ev_K _ _ _ _ _ _ _
set_option maxRecDepth 20000 in
theorem eX9_minutesAMile_0 (d : Nat) (st : Nat → Nat → Int32) (x1 x2 : Int32) : m_ev none d 70 0 [some (.ref 1), some (.int x1), some (.int x2)] [] (SH, st) = if x2 = 0 then (m_ev none d 70 15 [some (.ref 1), some (.int x1), some (.int x2)] [] (SH, st)) else (m_ob (m_ix x1 7) fun q1 => m_ev none d 70 23 [some (.ref 1), some (.int x1), some (.int x2)] [.int (4 + (st 8 q1))] (SH, st)) := m_ev_K _ _ _ _ _ _ _
set_option maxRecDepth 20000 in
theorem eX9_minutesAMile_15 (d : Nat) (st : Nat → Nat → Int32) (x1 x2 : Int32) : m_ev none d 70 15 [some (.ref 1), some (.int x1), some (.int x2)] [] (SH, st) = m_ob (m_ix x1 7) fun q1 => m_ev none d 70 23 [some (.ref 1), some (.int x1), some (.int x2)] [.int (4 - (st 8 q1))] (SH, st) := m_ev_K _ _ _ _ _ _ _
set_option maxRecDepth 20000 in
theorem eX9_minutesAMile_23 (d : Nat) (st : Nat → Nat → Int32) (x1 x2 t0 : Int32) : m_ev none d 70 23 [some (.ref 1), some (.int x1), some (.int x2)] [.int t0] (SH, st) = some (some (.int t0), (SH, st)) := m_ev_K _ _ _ _ _ _ _
set_option maxRecDepth 20000 in
theorem eX9_ruleFor_0 (d : Nat) (st : Nat → Nat → Int32) (x1 x2 : Int32) : m_ev none d 71 0 [some (.ref 1), some (.int x1), some (.int x2)] [] (SH, st) = m_ob (m_ix x2 7) fun q1 => m_ob (m_ix x1 9) fun q2 => m_ob (m_ix x1 9) fun q3 => m_ob (m_ix x1 9) fun q4 => m_ob (m_ix x1 9) fun q5 => m_bd (m_evc d 29 [.ref 9, .int (st 2 q5), .ref 17] (SH, (m_up (m_up (m_up (m_up (m_up (m_up st 17 0 x2) 17 1 ((st 8 q1) + 3)) 17 2 (st 3 q2)) 17 3 (st 4 q3)) 17 4 (st 5 q4)) 17 5 x1))) fun w h => m_ev none d 71 81 [some (.ref 1), some (.int x1), some (.int x2)] (w.toList ++ []) h := m_ev_K _ _ _ _ _ _ _
set_option maxRecDepth 20000 in
theorem eX9_ruleFor_81 (d : Nat) (st : Nat → Nat → Int32) (x1 x2 t0 : Int32) : m_ev none d 71 81 [some (.ref 1), some (.int x1), some (.int x2)] [.int t0] (SH, st) = some (some (.int t0), (SH, st)) := m_ev_K _ _ _ _ _ _ _
set_option maxRecDepth 20000 in
theorem eX9_addedBy_0 (d : Nat) (st : Nat → Nat → Int32) (x1 x2 x3 : Int32) : m_ev none d 72 0 [some (.ref 1), some (.int x1), some (.int x2), some (.int x3), none] [] (SH, st) = m_ob (m_ix x2 9) fun q1 => m_ob (m_ix x2 9) fun q2 => m_bd (m_evc d 33 [.ref 9, .int x1, .int (st 3 q1), .int (st 5 q2)] (SH, st)) fun w h => m_ev none d 72 20 [some (.ref 1), some (.int x1), some (.int x2), some (.int x3), none] (w.toList ++ []) h := m_ev_K _ _ _ _ _ _ _
set_option maxRecDepth 20000 in
theorem eX9_addedBy_20 (d : Nat) (st : Nat → Nat → Int32) (x1 x2 x3 t0 : Int32) : m_ev none d 72 20 [some (.ref 1), some (.int x1), some (.int x2), some (.int x3), none] [.int t0] (SH, st) = m_ob (m_ix x2 9) fun q1 => m_ev none d 72 (m_case (st 2 q1) [[2, 60], [3, 65], [4, 83], [5, 93]] 103) [some (.ref 1), some (.int x1), some (.int x2), some (.int x3), some (.int t0)] [] (SH, st) := m_ev_K _ _ _ _ _ _ _
set_option maxRecDepth 20000 in
theorem eX9_addedBy_60 (d : Nat) (st : Nat → Nat → Int32) (x1 x2 x3 x4 : Int32) : m_ev none d 72 60 [some (.ref 1), some (.int x1), some (.int x2), some (.int x3), some (.int x4)] [] (SH, st) = some (some (.int (2 * x4)), (SH, st)) := m_ev_K _ _ _ _ _ _ _
set_option maxRecDepth 20000 in
theorem eX9_addedBy_65 (d : Nat) (st : Nat → Nat → Int32) (x1 x2 x3 x4 : Int32) : m_ev none d 72 65 [some (.ref 1), some (.int x1), some (.int x2), some (.int x3), some (.int x4)] [] (SH, st) = if x3 = 6 then (m_ev none d 72 81 [some (.ref 1), some (.int x1), some (.int x2), some (.int x3), some (.int x4)] [.int 10, .int (2 * x4)] (SH, st)) else (m_ev none d 72 80 [some (.ref 1), some (.int x1), some (.int x2), some (.int x3), some (.int x4)] [.int (2 * x4)] (SH, st)) := m_ev_K _ _ _ _ _ _ _
set_option maxRecDepth 20000 in
theorem eX9_addedBy_80 (d : Nat) (st : Nat → Nat → Int32) (x1 x2 x3 x4 t0 : Int32) : m_ev none d 72 80 [some (.ref 1), some (.int x1), some (.int x2), some (.int x3), some (.int x4)] [.int t0] (SH, st) = m_ev none d 72 81 [some (.ref 1), some (.int x1), some (.int x2), some (.int x3), some (.int x4)] [.int 0, .int t0] (SH, st) := m_ev_K _ _ _ _ _ _ _
set_option maxRecDepth 20000 in
theorem eX9_addedBy_81 (d : Nat) (st : Nat → Nat → Int32) (x1 x2 x3 x4 t0 t1 : Int32) : m_ev none d 72 81 [some (.ref 1), some (.int x1), some (.int x2), some (.int x3), some (.int x4)] [.int t0, .int t1] (SH, st) = some (some (.int (t1 + t0)), (SH, st)) := m_ev_K _ _ _ _ _ _ _
set_option maxRecDepth 20000 in
theorem eX9_addedBy_83 (d : Nat) (st : Nat → Nat → Int32) (x1 x2 x3 x4 : Int32) : m_ev none d 72 83 [some (.ref 1), some (.int x1), some (.int x2), some (.int x3), some (.int x4)] [] (SH, st) = m_ob (m_ix x2 9) fun q1 => some (some (.int (x4 + (st 4 q1))), (SH, st)) := m_ev_K _ _ _ _ _ _ _
set_option maxRecDepth 20000 in
theorem eX9_addedBy_93 (d : Nat) (st : Nat → Nat → Int32) (x1 x2 x3 x4 : Int32) : m_ev none d 72 93 [some (.ref 1), some (.int x1), some (.int x2), some (.int x3), some (.int x4)] [] (SH, st) = m_ob (m_ix x2 9) fun q1 => some (some (.int (x4 + (st 4 q1))), (SH, st)) := m_ev_K _ _ _ _ _ _ _
set_option maxRecDepth 20000 in
theorem eX9_addedBy_103 (d : Nat) (st : Nat → Nat → Int32) (x1 x2 x3 x4 : Int32) : m_ev none d 72 103 [some (.ref 1), some (.int x1), some (.int x2), some (.int x3), some (.int x4)] [] (SH, st) = some (some (.int x4), (SH, st)) := m_ev_K _ _ _ _ _ _ _
set_option maxRecDepth 20000 in
theorem eaX9_copyFrom_0 (d : Nat) (st : Nat → Nat → Int32) : m_ev none d 73 0 [some (.ref 1), some (.ref 18)] [] (SH, st) = m_bd (m_evc d 34 [.ref 9, .ref 26] (SH, (m_up (m_cpR (m_up (m_cpR (m_cpR (m_cpR (m_cpR (m_cpR (m_cpR (m_up st 1 0 (st 18 0)) 19 2 9) 20 3 9) 21 4 9) 22 5 9) 23 6 9) 24 7 9) 1 7 ((m_cpR (m_cpR (m_cpR (m_cpR (m_cpR (m_cpR (m_up st 1 0 (st 18 0)) 19 2 9) 20 3 9) 21 4 9) 22 5 9) 23 6 9) 24 7 9) 18 7)) 25 8 7) 1 9 ((m_cpR (m_up (m_cpR (m_cpR (m_cpR (m_cpR (m_cpR (m_cpR (m_up st 1 0 (st 18 0)) 19 2 9) 20 3 9) 21 4 9) 22 5 9) 23 6 9) 24 7 9) 1 7 ((m_cpR (m_cpR (m_cpR (m_cpR (m_cpR (m_cpR (m_up st 1 0 (st 18 0)) 19 2 9) 20 3 9) 21 4 9) 22 5 9) 23 6 9) 24 7 9) 18 7)) 25 8 7) 18 9)))) fun w h => m_ev none d 73 140 [some (.ref 1), some (.ref 18)] (w.toList ++ []) h := m_ev_K _ _ _ _ _ _ _
set_option maxRecDepth 20000 in
theorem eaX9_copyFrom_140 (d : Nat) (st : Nat → Nat → Int32) : m_ev none d 73 140 [some (.ref 1), some (.ref 18)] [] (SH, st) = some (none, (SH, (m_cpR (m_cpR (m_up st 1 11 (st 18 11)) 32 15 6) 33 16 6))) := m_ev_K _ _ _ _ _ _ _
set_option maxRecDepth 20000 in
theorem ebX9_copyFrom_0 (d : Nat) (st : Nat → Nat → Int32) : m_ev none d 73 0 [some (.ref 18), some (.ref 1)] [] (SH, st) = m_bd (m_evc d 34 [.ref 26, .ref 9] (SH, (m_up (m_cpR (m_up (m_cpR (m_cpR (m_cpR (m_cpR (m_cpR (m_cpR (m_up st 18 0 (st 1 0)) 2 19 9) 3 20 9) 4 21 9) 5 22 9) 6 23 9) 7 24 9) 18 7 ((m_cpR (m_cpR (m_cpR (m_cpR (m_cpR (m_cpR (m_up st 18 0 (st 1 0)) 2 19 9) 3 20 9) 4 21 9) 5 22 9) 6 23 9) 7 24 9) 1 7)) 8 25 7) 18 9 ((m_cpR (m_up (m_cpR (m_cpR (m_cpR (m_cpR (m_cpR (m_cpR (m_up st 18 0 (st 1 0)) 2 19 9) 3 20 9) 4 21 9) 5 22 9) 6 23 9) 7 24 9) 18 7 ((m_cpR (m_cpR (m_cpR (m_cpR (m_cpR (m_cpR (m_up st 18 0 (st 1 0)) 2 19 9) 3 20 9) 4 21 9) 5 22 9) 6 23 9) 7 24 9) 1 7)) 8 25 7) 1 9)))) fun w h => m_ev none d 73 140 [some (.ref 18), some (.ref 1)] (w.toList ++ []) h := m_ev_K _ _ _ _ _ _ _
set_option maxRecDepth 20000 in
theorem ebX9_copyFrom_140 (d : Nat) (st : Nat → Nat → Int32) : m_ev none d 73 140 [some (.ref 18), some (.ref 1)] [] (SH, st) = some (none, (SH, (m_cpR (m_cpR (m_up st 18 11 (st 1 11)) 15 32 6) 16 33 6))) := m_ev_K _ _ _ _ _ _ _
