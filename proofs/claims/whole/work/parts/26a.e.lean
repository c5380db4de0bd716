set_option maxRecDepth 20000 in
theorem eX11_tower_0 (d : Nat) (st : Nat → Nat → Int32) (x1 x2 x3 x4 : Int32) : m_ev none d 80 0 [some (.ref 0), some (.int x1), some (.int x2), some (.int x3), some (.int x4), none] [] (SH, st) = m_bd (m_evc d 87 [.int x1] (SH, st)) fun w h => m_ev none d 80 4 [some (.ref 0), some (.int x1), some (.int x2), some (.int x3), some (.int x4), none] (w.toList ++ []) h := m_ev_K _ _ _ _ _ _ _
set_option maxRecDepth 20000 in
theorem eX11_tower_4 (d : Nat) (st : Nat → Nat → Int32) (x1 x2 x3 x4 t0 : Int32) : m_ev none d 80 4 [some (.ref 0), some (.int x1), some (.int x2), some (.int x3), some (.int x4), none] [.int t0] (SH, st) = if t0 = 0 then (m_ev none d 80 32 [some (.ref 0), some (.int x1), some (.int x2), some (.int x3), some (.int x4), none] [] (SH, st)) else (m_bd (m_evc d 88 [.int 1, .int x2] (SH, st)) fun w h => m_ev none d 80 12 [some (.ref 0), some (.int x1), some (.int x2), some (.int x3), some (.int x4), none] (w.toList ++ []) h) := m_ev_K _ _ _ _ _ _ _
set_option maxRecDepth 20000 in
theorem eX11_tower_12 (d : Nat) (st : Nat → Nat → Int32) (x1 x2 x3 x4 t0 : Int32) : m_ev none d 80 12 [some (.ref 0), some (.int x1), some (.int x2), some (.int x3), some (.int x4), none] [.int t0] (SH, st) = if t0 = 0 then (m_ev none d 80 32 [some (.ref 0), some (.int x1), some (.int x2), some (.int x3), some (.int x4), none] [] (SH, st)) else (m_bd (m_evc d 88 [.int 2, .int x3] (SH, st)) fun w h => m_ev none d 80 20 [some (.ref 0), some (.int x1), some (.int x2), some (.int x3), some (.int x4), none] (w.toList ++ []) h) := m_ev_K _ _ _ _ _ _ _
set_option maxRecDepth 20000 in
theorem eX11_tower_20 (d : Nat) (st : Nat → Nat → Int32) (x1 x2 x3 x4 t0 : Int32) : m_ev none d 80 20 [some (.ref 0), some (.int x1), some (.int x2), some (.int x3), some (.int x4), none] [.int t0] (SH, st) = if t0 = 0 then (m_ev none d 80 32 [some (.ref 0), some (.int x1), some (.int x2), some (.int x3), some (.int x4), none] [] (SH, st)) else (m_bd (m_evc d 88 [.int 3, .int x4] (SH, st)) fun w h => m_ev none d 80 29 [some (.ref 0), some (.int x1), some (.int x2), some (.int x3), some (.int x4), none] (w.toList ++ []) h) := m_ev_K _ _ _ _ _ _ _
set_option maxRecDepth 20000 in
theorem eX11_tower_29 (d : Nat) (st : Nat → Nat → Int32) (x1 x2 x3 x4 t0 : Int32) : m_ev none d 80 29 [some (.ref 0), some (.int x1), some (.int x2), some (.int x3), some (.int x4), none] [.int t0] (SH, st) = if t0 = 0 then (m_ev none d 80 32 [some (.ref 0), some (.int x1), some (.int x2), some (.int x3), some (.int x4), none] [] (SH, st)) else (m_ev none d 80 34 [some (.ref 0), some (.int x1), some (.int x2), some (.int x3), some (.int x4), none] [] (SH, st)) := m_ev_K _ _ _ _ _ _ _
set_option maxRecDepth 20000 in
theorem eX11_tower_32 (d : Nat) (st : Nat → Nat → Int32) (x1 x2 x3 x4 : Int32) : m_ev none d 80 32 [some (.ref 0), some (.int x1), some (.int x2), some (.int x3), some (.int x4), none] [] (SH, st) = some (some (.int (-1)), (SH, st)) := m_ev_K _ _ _ _ _ _ _
set_option maxRecDepth 20000 in
theorem eX11_tower_34 (d : Nat) (st : Nat → Nat → Int32) (x1 x2 x3 x4 : Int32) : m_ev none d 80 34 [some (.ref 0), some (.int x1), some (.int x2), some (.int x3), some (.int x4), none] [] (SH, st) = if (st 1 0) < 9 then (m_ev none d 80 49 [some (.ref 0), some (.int x1), some (.int x2), some (.int x3), some (.int x4), none] [] (SH, st)) else (some (some (.int (-2)), (SH, st))) := m_ev_K _ _ _ _ _ _ _
set_option maxRecDepth 20000 in
theorem eX11_tower_49 (d : Nat) (st : Nat → Nat → Int32) (x1 x2 x3 x4 : Int32) : m_ev none d 80 49 [some (.ref 0), some (.int x1), some (.int x2), some (.int x3), some (.int x4), none] [] (SH, st) = m_ob (m_ix (st 1 0) 9) fun q1 => m_ob (m_ix (st 1 0) 9) fun q2 => m_ob (m_ix (st 1 0) 9) fun q3 => m_ob (m_ix (st 1 0) 9) fun q4 => m_ob (m_ix (st 1 0) 9) fun q5 => m_ob (m_ix (st 1 0) 9) fun q6 => some (some (.int (st 1 0)), (SH, (m_up (m_up (m_up (m_up (m_up (m_up (m_up st 1 0 ((st 1 0) + 1)) 2 q1 x1) 3 q2 x2) 4 q3 x3) 5 q4 x4) 6 q5 (-9)) 7 q6 (-9)))) := m_ev_K _ _ _ _ _ _ _
set_option maxRecDepth 20000 in
theorem eX11_towerOf_0 (d : Nat) (st : Nat → Nat → Int32) (x1 x2 : Int32) : m_ev none d 81 0 [some (.ref 0), some (.int x1), some (.int x2)] [] (SH, st) = m_bd (m_evc d 68 [.ref 1, .int x1] (SH, st)) fun w h => m_ev none d 81 8 [some (.ref 0), some (.int x1), some (.int x2)] (w.toList ++ []) h := m_ev_K _ _ _ _ _ _ _
set_option maxRecDepth 20000 in
theorem eX11_towerOf_8 (d : Nat) (st : Nat → Nat → Int32) (x1 x2 t0 : Int32) : m_ev none d 81 8 [some (.ref 0), some (.int x1), some (.int x2)] [.int t0] (SH, st) = if t0 = 0 then (some (some (.int (-1)), (SH, st))) else (m_ev none d 81 13 [some (.ref 0), some (.int x1), some (.int x2)] [] (SH, st)) := m_ev_K _ _ _ _ _ _ _
set_option maxRecDepth 20000 in
theorem eX11_towerOf_13 (d : Nat) (st : Nat → Nat → Int32) (x1 x2 : Int32) : m_ev none d 81 13 [some (.ref 0), some (.int x1), some (.int x2)] [] (SH, st) = m_ev none d 81 (m_case x2 [[0, 60], [1, 70], [2, 80], [3, 90], [4, 100], [5, 131], [6, 165], [7, 175]] 185) [some (.ref 0), some (.int x1), some (.int x2)] [] (SH, st) := m_ev_K _ _ _ _ _ _ _
set_option maxRecDepth 20000 in
theorem eX11_towerOf_60 (d : Nat) (st : Nat → Nat → Int32) (x1 x2 : Int32) : m_ev none d 81 60 [some (.ref 0), some (.int x1), some (.int x2)] [] (SH, st) = m_ob (m_ix x1 9) fun q1 => some (some (.int (st 2 q1)), (SH, st)) := m_ev_K _ _ _ _ _ _ _
set_option maxRecDepth 20000 in
theorem eX11_towerOf_70 (d : Nat) (st : Nat → Nat → Int32) (x1 x2 : Int32) : m_ev none d 81 70 [some (.ref 0), some (.int x1), some (.int x2)] [] (SH, st) = m_ob (m_ix x1 9) fun q1 => some (some (.int (st 3 q1)), (SH, st)) := m_ev_K _ _ _ _ _ _ _
set_option maxRecDepth 20000 in
theorem eX11_towerOf_80 (d : Nat) (st : Nat → Nat → Int32) (x1 x2 : Int32) : m_ev none d 81 80 [some (.ref 0), some (.int x1), some (.int x2)] [] (SH, st) = m_ob (m_ix x1 9) fun q1 => some (some (.int (st 4 q1)), (SH, st)) := m_ev_K _ _ _ _ _ _ _
set_option maxRecDepth 20000 in
theorem eX11_towerOf_90 (d : Nat) (st : Nat → Nat → Int32) (x1 x2 : Int32) : m_ev none d 81 90 [some (.ref 0), some (.int x1), some (.int x2)] [] (SH, st) = m_ob (m_ix x1 9) fun q1 => some (some (.int (st 5 q1)), (SH, st)) := m_ev_K _ _ _ _ _ _ _
set_option maxRecDepth 20000 in
theorem eX11_towerOf_100 (d : Nat) (st : Nat → Nat → Int32) (x1 x2 : Int32) : m_ev none d 81 100 [some (.ref 0), some (.int x1), some (.int x2)] [] (SH, st) = m_bd (m_evc d 71 [.ref 1, .int x1, .int (st 1 7)] (SH, st)) fun w h => m_ev none d 81 119 [some (.ref 0), some (.int x1), some (.int x2)] (w.toList ++ [.ref 1]) h := m_ev_K _ _ _ _ _ _ _
set_option maxRecDepth 20000 in
theorem eX11_towerOf_119 (d : Nat) (st : Nat → Nat → Int32) (x1 x2 t0 : Int32) : m_ev none d 81 119 [some (.ref 0), some (.int x1), some (.int x2)] [.int t0, .ref 1] (SH, st) = m_bd (m_evc d 72 [.ref 1, .int t0, .int x1, .int (st 1 7)] (SH, st)) fun w h => m_ev none d 81 130 [some (.ref 0), some (.int x1), some (.int x2)] (w.toList ++ []) h := m_ev_K _ _ _ _ _ _ _
set_option maxRecDepth 20000 in
theorem eX11_towerOf_130 (d : Nat) (st : Nat → Nat → Int32) (x1 x2 t0 : Int32) : m_ev none d 81 130 [some (.ref 0), some (.int x1), some (.int x2)] [.int t0] (SH, st) = some (some (.int t0), (SH, st)) := m_ev_K _ _ _ _ _ _ _
set_option maxRecDepth 20000 in
theorem eX11_towerOf_131 (d : Nat) (st : Nat → Nat → Int32) (x1 x2 : Int32) : m_ev none d 81 131 [some (.ref 0), some (.int x1), some (.int x2)] [] (SH, st) = m_bd (m_evc d 71 [.ref 1, .int x1, .int (st 1 7)] (SH, st)) fun w h => m_ev none d 81 153 [some (.ref 0), some (.int x1), some (.int x2)] (w.toList ++ [.ref 9]) h := m_ev_K _ _ _ _ _ _ _
set_option maxRecDepth 20000 in
theorem eX11_towerOf_153 (d : Nat) (st : Nat → Nat → Int32) (x1 x2 t0 : Int32) : m_ev none d 81 153 [some (.ref 0), some (.int x1), some (.int x2)] [.int t0, .ref 9] (SH, st) = m_bd (m_evc d 32 [.ref 9, .int t0] (SH, st)) fun w h => m_ev none d 81 156 [some (.ref 0), some (.int x1), some (.int x2)] (w.toList ++ []) h := m_ev_K _ _ _ _ _ _ _
set_option maxRecDepth 20000 in
theorem eX11_towerOf_156 (d : Nat) (st : Nat → Nat → Int32) (x1 x2 t0 : Int32) : m_ev none d 81 156 [some (.ref 0), some (.int x1), some (.int x2)] [.int t0] (SH, st) = if t0 = 0 then (m_ev none d 81 163 [some (.ref 0), some (.int x1), some (.int x2)] [] (SH, st)) else (m_ev none d 81 164 [some (.ref 0), some (.int x1), some (.int x2)] [.int 1] (SH, st)) := m_ev_K _ _ _ _ _ _ _
set_option maxRecDepth 20000 in
theorem eX11_towerOf_163 (d : Nat) (st : Nat → Nat → Int32) (x1 x2 : Int32) : m_ev none d 81 163 [some (.ref 0), some (.int x1), some (.int x2)] [] (SH, st) = m_ev none d 81 164 [some (.ref 0), some (.int x1), some (.int x2)] [.int 0] (SH, st) := m_ev_K _ _ _ _ _ _ _
set_option maxRecDepth 20000 in
theorem eX11_towerOf_164 (d : Nat) (st : Nat → Nat → Int32) (x1 x2 t0 : Int32) : m_ev none d 81 164 [some (.ref 0), some (.int x1), some (.int x2)] [.int t0] (SH, st) = some (some (.int t0), (SH, st)) := m_ev_K _ _ _ _ _ _ _
set_option maxRecDepth 20000 in
theorem eX11_towerOf_165 (d : Nat) (st : Nat → Nat → Int32) (x1 x2 : Int32) : m_ev none d 81 165 [some (.ref 0), some (.int x1), some (.int x2)] [] (SH, st) = m_ob (m_ix x1 9) fun q1 => some (some (.int (st 6 q1)), (SH, st)) := m_ev_K _ _ _ _ _ _ _
set_option maxRecDepth 20000 in
theorem eX11_towerOf_175 (d : Nat) (st : Nat → Nat → Int32) (x1 x2 : Int32) : m_ev none d 81 175 [some (.ref 0), some (.int x1), some (.int x2)] [] (SH, st) = m_ob (m_ix x1 9) fun q1 => some (some (.int (st 7 q1)), (SH, st)) := m_ev_K _ _ _ _ _ _ _
set_option maxRecDepth 20000 in
theorem eX11_towerOf_185 (d : Nat) (st : Nat → Nat → Int32) (x1 x2 : Int32) : m_ev none d 81 185 [some (.ref 0), some (.int x1), some (.int x2)] [] (SH, st) = some (some (.int (-1)), (SH, st)) := m_ev_K _ _ _ _ _ _ _
set_option maxRecDepth 20000 in
theorem eX11_change_0 (d : Nat) (st : Nat → Nat → Int32) (x1 x2 x3 : Int32) : m_ev none d 82 0 [some (.ref 0), some (.int x1), some (.int x2), some (.int x3), none, none] [] (SH, st) = m_bd (m_evc d 68 [.ref 1, .int x1] (SH, st)) fun w h => m_ev none d 82 8 [some (.ref 0), some (.int x1), some (.int x2), some (.int x3), none, none] (w.toList ++ []) h := m_ev_K _ _ _ _ _ _ _
set_option maxRecDepth 20000 in
theorem eX11_change_8 (d : Nat) (st : Nat → Nat → Int32) (x1 x2 x3 t0 : Int32) : m_ev none d 82 8 [some (.ref 0), some (.int x1), some (.int x2), some (.int x3), none, none] [.int t0] (SH, st) = if t0 = 0 then (m_ev none d 82 19 [some (.ref 0), some (.int x1), some (.int x2), some (.int x3), none, none] [] (SH, st)) else (m_bd (m_evc d 88 [.int x2, .int x3] (SH, st)) fun w h => m_ev none d 82 16 [some (.ref 0), some (.int x1), some (.int x2), some (.int x3), none, none] (w.toList ++ []) h) := m_ev_K _ _ _ _ _ _ _
set_option maxRecDepth 20000 in
theorem eX11_change_16 (d : Nat) (st : Nat → Nat → Int32) (x1 x2 x3 t0 : Int32) : m_ev none d 82 16 [some (.ref 0), some (.int x1), some (.int x2), some (.int x3), none, none] [.int t0] (SH, st) = if t0 = 0 then (m_ev none d 82 19 [some (.ref 0), some (.int x1), some (.int x2), some (.int x3), none, none] [] (SH, st)) else (m_ev none d 82 21 [some (.ref 0), some (.int x1), some (.int x2), some (.int x3), none, none] [] (SH, st)) := m_ev_K _ _ _ _ _ _ _
set_option maxRecDepth 20000 in
theorem eX11_change_19 (d : Nat) (st : Nat → Nat → Int32) (x1 x2 x3 : Int32) : m_ev none d 82 19 [some (.ref 0), some (.int x1), some (.int x2), some (.int x3), none, none] [] (SH, st) = some (some (.int (-1)), (SH, st)) := m_ev_K _ _ _ _ _ _ _
set_option maxRecDepth 20000 in
theorem eX11_change_21 (d : Nat) (st : Nat → Nat → Int32) (x1 x2 x3 : Int32) : m_ev none d 82 21 [some (.ref 0), some (.int x1), some (.int x2), some (.int x3), none, none] [] (SH, st) = if x2 = 1 then (m_ev none d 82 58 [some (.ref 0), some (.int x1), some (.int x2), some (.int x3), none, none] [.ref 3] (SH, st)) else (m_ev none d 82 36 [some (.ref 0), some (.int x1), some (.int x2), some (.int x3), none, none] [] (SH, st)) := m_ev_K _ _ _ _ _ _ _
set_option maxRecDepth 20000 in
theorem eX11_change_36 (d : Nat) (st : Nat → Nat → Int32) (x1 x2 x3 : Int32) : m_ev none d 82 36 [some (.ref 0), some (.int x1), some (.int x2), some (.int x3), none, none] [] (SH, st) = if x2 = 2 then (m_ev none d 82 58 [some (.ref 0), some (.int x1), some (.int x2), some (.int x3), none, none] [.ref 4] (SH, st)) else (m_ev none d 82 51 [some (.ref 0), some (.int x1), some (.int x2), some (.int x3), none, none] [] (SH, st)) := m_ev_K _ _ _ _ _ _ _
set_option maxRecDepth 20000 in
theorem eX11_change_51 (d : Nat) (st : Nat → Nat → Int32) (x1 x2 x3 : Int32) : m_ev none d 82 51 [some (.ref 0), some (.int x1), some (.int x2), some (.int x3), none, none] [] (SH, st) = m_ev none d 82 58 [some (.ref 0), some (.int x1), some (.int x2), some (.int x3), none, none] [.ref 5] (SH, st) := m_ev_K _ _ _ _ _ _ _
set_option maxRecDepth 20000 in
theorem eX11_change_58_v0 (d : Nat) (st : Nat → Nat → Int32) (x1 x2 x3 : Int32) : m_ev none d 82 58 [some (.ref 0), some (.int x1), some (.int x2), some (.int x3), none, none] [.ref 3] (SH, st) = m_ob (m_ix x1 9) fun q1 => m_ob (m_ix x1 9) fun q2 => some (some (.int (st 3 q1)), (SH, (m_up st 3 q2 x3))) := m_ev_K _ _ _ _ _ _ _
set_option maxRecDepth 20000 in
theorem eX11_change_58_v1 (d : Nat) (st : Nat → Nat → Int32) (x1 x2 x3 : Int32) : m_ev none d 82 58 [some (.ref 0), some (.int x1), some (.int x2), some (.int x3), none, none] [.ref 4] (SH, st) = m_ob (m_ix x1 9) fun q1 => m_ob (m_ix x1 9) fun q2 => some (some (.int (st 4 q1)), (SH, (m_up st 4 q2 x3))) := m_ev_K _ _ _ _ _ _ _
set_option maxRecDepth 20000 in
theorem eX11_change_58_v2 (d : Nat) (st : Nat → Nat → Int32) (x1 x2 x3 : Int32) : m_ev none d 82 58 [some (.ref 0), some (.int x1), some (.int x2), some (.int x3), none, none] [.ref 5] (SH, st) = m_ob (m_ix x1 9) fun q1 => m_ob (m_ix x1 9) fun q2 => some (some (.int (st 5 q1)), (SH, (m_up st 5 q2 x3))) := m_ev_K _ _ _ _ _ _ _
set_option maxRecDepth 20000 in
theorem eX11_turn_0 (d : Nat) (st : Nat → Nat → Int32) (x1 x2 : Int32) : m_ev none d 83 0 [some (.ref 0), some (.int x1), some (.int x2), none] [] (SH, st) = m_bd (m_evc d 68 [.ref 1, .int x1] (SH, st)) fun w h => m_ev none d 83 8 [some (.ref 0), some (.int x1), some (.int x2), none] (w.toList ++ []) h := m_ev_K _ _ _ _ _ _ _
set_option maxRecDepth 20000 in
theorem eX11_turn_8 (d : Nat) (st : Nat → Nat → Int32) (x1 x2 t0 : Int32) : m_ev none d 83 8 [some (.ref 0), some (.int x1), some (.int x2), none] [.int t0] (SH, st) = if t0 = 0 then (m_ev none d 83 18 [some (.ref 0), some (.int x1), some (.int x2), none] [] (SH, st)) else (m_bd (m_evc d 87 [.int x2] (SH, st)) fun w h => m_ev none d 83 15 [some (.ref 0), some (.int x1), some (.int x2), none] (w.toList ++ []) h) := m_ev_K _ _ _ _ _ _ _
set_option maxRecDepth 20000 in
theorem eX11_turn_15 (d : Nat) (st : Nat → Nat → Int32) (x1 x2 t0 : Int32) : m_ev none d 83 15 [some (.ref 0), some (.int x1), some (.int x2), none] [.int t0] (SH, st) = if t0 = 0 then (m_ev none d 83 18 [some (.ref 0), some (.int x1), some (.int x2), none] [] (SH, st)) else (m_ev none d 83 20 [some (.ref 0), some (.int x1), some (.int x2), none] [] (SH, st)) := m_ev_K _ _ _ _ _ _ _
set_option maxRecDepth 20000 in
theorem eX11_turn_18 (d : Nat) (st : Nat → Nat → Int32) (x1 x2 : Int32) : m_ev none d 83 18 [some (.ref 0), some (.int x1), some (.int x2), none] [] (SH, st) = some (some (.int (-1)), (SH, st)) := m_ev_K _ _ _ _ _ _ _
set_option maxRecDepth 20000 in
theorem eX11_turn_20 (d : Nat) (st : Nat → Nat → Int32) (x1 x2 : Int32) : m_ev none d 83 20 [some (.ref 0), some (.int x1), some (.int x2), none] [] (SH, st) = m_ob (m_ix x1 9) fun q1 => m_ob (m_ix x1 9) fun q2 => some (some (.int (st 2 q1)), (SH, (m_up st 2 q2 x2))) := m_ev_K _ _ _ _ _ _ _
set_option maxRecDepth 20000 in
theorem eX11_day_0 (d : Nat) (st : Nat → Nat → Int32) (x1 : Int32) : m_ev none d 84 0 [some (.ref 0), some (.int x1), none] [] (SH, st) = m_bd (m_evc d 89 [.int x1] (SH, st)) fun w h => m_ev none d 84 4 [some (.ref 0), some (.int x1), none] (w.toList ++ []) h := m_ev_K _ _ _ _ _ _ _
set_option maxRecDepth 20000 in
theorem eX11_day_4 (d : Nat) (st : Nat → Nat → Int32) (x1 t0 : Int32) : m_ev none d 84 4 [some (.ref 0), some (.int x1), none] [.int t0] (SH, st) = if t0 = 0 then (some (some (.int (-1)), (SH, st))) else (m_ev none d 84 9 [some (.ref 0), some (.int x1), none] [] (SH, st)) := m_ev_K _ _ _ _ _ _ _
set_option maxRecDepth 20000 in
theorem eX11_day_9 (d : Nat) (st : Nat → Nat → Int32) (x1 : Int32) : m_ev none d 84 9 [some (.ref 0), some (.int x1), none] [] (SH, st) = some (some (.int (st 1 7)), (SH, (m_up st 1 7 x1))) := m_ev_K _ _ _ _ _ _ _
set_option maxRecDepth 20000 in
theorem eX11_wind_0 (d : Nat) (st : Nat → Nat → Int32) (x1 x2 : Int32) : m_ev none d 85 0 [some (.ref 0), some (.int x1), some (.int x2), none] [] (SH, st) = m_bd (m_evc d 89 [.int x1] (SH, st)) fun w h => m_ev none d 85 4 [some (.ref 0), some (.int x1), some (.int x2), none] (w.toList ++ []) h := m_ev_K _ _ _ _ _ _ _
set_option maxRecDepth 20000 in
theorem eX11_wind_4 (d : Nat) (st : Nat → Nat → Int32) (x1 x2 t0 : Int32) : m_ev none d 85 4 [some (.ref 0), some (.int x1), some (.int x2), none] [.int t0] (SH, st) = if t0 = 0 then (m_ev none d 85 18 [some (.ref 0), some (.int x1), some (.int x2), none] [] (SH, st)) else (if x2 < (-3) then (m_ev none d 85 18 [some (.ref 0), some (.int x1), some (.int x2), none] [] (SH, st)) else (if 3 < x2 then (m_ev none d 85 18 [some (.ref 0), some (.int x1), some (.int x2), none] [] (SH, st)) else (m_ev none d 85 20 [some (.ref 0), some (.int x1), some (.int x2), none] [] (SH, st)))) := m_ev_K _ _ _ _ _ _ _
set_option maxRecDepth 20000 in
theorem eX11_wind_18 (d : Nat) (st : Nat → Nat → Int32) (x1 x2 : Int32) : m_ev none d 85 18 [some (.ref 0), some (.int x1), some (.int x2), none] [] (SH, st) = some (some (.int (-1)), (SH, st)) := m_ev_K _ _ _ _ _ _ _
set_option maxRecDepth 20000 in
theorem eX11_wind_20 (d : Nat) (st : Nat → Nat → Int32) (x1 x2 : Int32) : m_ev none d 85 20 [some (.ref 0), some (.int x1), some (.int x2), none] [] (SH, st) = m_ob (m_ix x1 7) fun q1 => m_ob (m_ix x1 7) fun q2 => some (some (.int ((st 8 q1) + 100)), (SH, (m_up st 8 q2 x2))) := m_ev_K _ _ _ _ _ _ _
set_option maxRecDepth 20000 in
theorem eX11_pace_0 (d : Nat) (st : Nat → Nat → Int32) (x1 : Int32) : m_ev none d 86 0 [some (.ref 0), some (.int x1)] [] (SH, st) = m_bd (m_evc d 70 [.ref 1, .int (st 1 7), .int x1] (SH, st)) fun w h => m_ev none d 86 15 [some (.ref 0), some (.int x1)] (w.toList ++ []) h := m_ev_K _ _ _ _ _ _ _
set_option maxRecDepth 20000 in
theorem eX11_pace_15 (d : Nat) (st : Nat → Nat → Int32) (x1 t0 : Int32) : m_ev none d 86 15 [some (.ref 0), some (.int x1)] [.int t0] (SH, st) = some (some (.int t0), (SH, st)) := m_ev_K _ _ _ _ _ _ _
set_option maxRecDepth 20000 in
theorem eX11_isTowerKind_0 (d : Nat) (st : Nat → Nat → Int32) (x0 : Int32) : m_ev none d 87 0 [some (.int x0)] [] (SH, st) = if x0 < 1 then (m_ev none d 87 14 [some (.int x0)] [] (SH, st)) else (if 5 < x0 then (m_ev none d 87 14 [some (.int x0)] [] (SH, st)) else (m_ev none d 87 15 [some (.int x0)] [.int 1] (SH, st))) := m_ev_K _ _ _ _ _ _ _
set_option maxRecDepth 20000 in
theorem eX11_isTowerKind_14 (d : Nat) (st : Nat → Nat → Int32) (x0 : Int32) : m_ev none d 87 14 [some (.int x0)] [] (SH, st) = m_ev none d 87 15 [some (.int x0)] [.int 0] (SH, st) := m_ev_K _ _ _ _ _ _ _
set_option maxRecDepth 20000 in
theorem eX11_isTowerKind_15 (d : Nat) (st : Nat → Nat → Int32) (x0 t0 : Int32) : m_ev none d 87 15 [some (.int x0)] [.int t0] (SH, st) = if t0 = 0 ∨ t0 = 1 then some (some (.int t0), (SH, st)) else none := m_ev_K _ _ _ _ _ _ _
set_option maxRecDepth 20000 in
theorem eX11_isMeasure_0 (d : Nat) (st : Nat → Nat → Int32) (x0 x1 : Int32) : m_ev none d 88 0 [some (.int x0), some (.int x1)] [] (SH, st) = m_ev none d 88 (m_case x0 [[1, 28], [2, 44], [3, 60]] 77) [some (.int x0), some (.int x1)] [] (SH, st) := m_ev_K _ _ _ _ _ _ _
set_option maxRecDepth 20000 in
theorem eX11_isMeasure_28 (d : Nat) (st : Nat → Nat → Int32) (x0 x1 : Int32) : m_ev none d 88 28 [some (.int x0), some (.int x1)] [] (SH, st) = if x1 < 0 then (m_ev none d 88 42 [some (.int x0), some (.int x1)] [] (SH, st)) else (if 99 < x1 then (m_ev none d 88 42 [some (.int x0), some (.int x1)] [] (SH, st)) else (m_ev none d 88 43 [some (.int x0), some (.int x1)] [.int 1] (SH, st))) := m_ev_K _ _ _ _ _ _ _
set_option maxRecDepth 20000 in
theorem eX11_isMeasure_42 (d : Nat) (st : Nat → Nat → Int32) (x0 x1 : Int32) : m_ev none d 88 42 [some (.int x0), some (.int x1)] [] (SH, st) = m_ev none d 88 43 [some (.int x0), some (.int x1)] [.int 0] (SH, st) := m_ev_K _ _ _ _ _ _ _
set_option maxRecDepth 20000 in
theorem eX11_isMeasure_43 (d : Nat) (st : Nat → Nat → Int32) (x0 x1 t0 : Int32) : m_ev none d 88 43 [some (.int x0), some (.int x1)] [.int t0] (SH, st) = if t0 = 0 ∨ t0 = 1 then some (some (.int t0), (SH, st)) else none := m_ev_K _ _ _ _ _ _ _
set_option maxRecDepth 20000 in
theorem eX11_isMeasure_44 (d : Nat) (st : Nat → Nat → Int32) (x0 x1 : Int32) : m_ev none d 88 44 [some (.int x0), some (.int x1)] [] (SH, st) = if x1 < 0 then (m_ev none d 88 58 [some (.int x0), some (.int x1)] [] (SH, st)) else (if 9 < x1 then (m_ev none d 88 58 [some (.int x0), some (.int x1)] [] (SH, st)) else (m_ev none d 88 59 [some (.int x0), some (.int x1)] [.int 1] (SH, st))) := m_ev_K _ _ _ _ _ _ _
set_option maxRecDepth 20000 in
theorem eX11_isMeasure_58 (d : Nat) (st : Nat → Nat → Int32) (x0 x1 : Int32) : m_ev none d 88 58 [some (.int x0), some (.int x1)] [] (SH, st) = m_ev none d 88 59 [some (.int x0), some (.int x1)] [.int 0] (SH, st) := m_ev_K _ _ _ _ _ _ _
set_option maxRecDepth 20000 in
theorem eX11_isMeasure_59 (d : Nat) (st : Nat → Nat → Int32) (x0 x1 t0 : Int32) : m_ev none d 88 59 [some (.int x0), some (.int x1)] [.int t0] (SH, st) = if t0 = 0 ∨ t0 = 1 then some (some (.int t0), (SH, st)) else none := m_ev_K _ _ _ _ _ _ _
set_option maxRecDepth 20000 in
theorem eX11_isMeasure_60 (d : Nat) (st : Nat → Nat → Int32) (x0 x1 : Int32) : m_ev none d 88 60 [some (.int x0), some (.int x1)] [] (SH, st) = if x1 < 1 then (m_ev none d 88 75 [some (.int x0), some (.int x1)] [] (SH, st)) else (if 20 < x1 then (m_ev none d 88 75 [some (.int x0), some (.int x1)] [] (SH, st)) else (m_ev none d 88 76 [some (.int x0), some (.int x1)] [.int 1] (SH, st))) := m_ev_K _ _ _ _ _ _ _
set_option maxRecDepth 20000 in
theorem eX11_isMeasure_75 (d : Nat) (st : Nat → Nat → Int32) (x0 x1 : Int32) : m_ev none d 88 75 [some (.int x0), some (.int x1)] [] (SH, st) = m_ev none d 88 76 [some (.int x0), some (.int x1)] [.int 0] (SH, st) := m_ev_K _ _ _ _ _ _ _
set_option maxRecDepth 20000 in
theorem eX11_isMeasure_76 (d : Nat) (st : Nat → Nat → Int32) (x0 x1 t0 : Int32) : m_ev none d 88 76 [some (.int x0), some (.int x1)] [.int t0] (SH, st) = if t0 = 0 ∨ t0 = 1 then some (some (.int t0), (SH, st)) else none := m_ev_K _ _ _ _ _ _ _
set_option maxRecDepth 20000 in
theorem eX11_isMeasure_77 (d : Nat) (st : Nat → Nat → Int32) (x0 x1 : Int32) : m_ev none d 88 77 [some (.int x0), some (.int x1)] [] (SH, st) = some (some (.int 0), (SH, st)) := m_ev_K _ _ _ _ _ _ _
set_option maxRecDepth 20000 in
theorem eX11_isDay_0 (d : Nat) (st : Nat → Nat → Int32) (x0 : Int32) : m_ev none d 89 0 [some (.int x0)] [] (SH, st) = if x0 < 0 then (m_ev none d 89 14 [some (.int x0)] [] (SH, st)) else (if x0 < 7 then (m_ev none d 89 15 [some (.int x0)] [.int 1] (SH, st)) else (m_ev none d 89 14 [some (.int x0)] [] (SH, st))) := m_ev_K _ _ _ _ _ _ _
set_option maxRecDepth 20000 in
theorem eX11_isDay_14 (d : Nat) (st : Nat → Nat → Int32) (x0 : Int32) : m_ev none d 89 14 [some (.int x0)] [] (SH, st) = m_ev none d 89 15 [some (.int x0)] [.int 0] (SH, st) := m_ev_K _ _ _ _ _ _ _
set_option maxRecDepth 20000 in
theorem eX11_isDay_15 (d : Nat) (st : Nat → Nat → Int32) (x0 t0 : Int32) : m_ev none d 89 15 [some (.int x0)] [.int t0] (SH, st) = if t0 = 0 ∨ t0 = 1 then some (some (.int t0), (SH, st)) else none := m_ev_K _ _ _ _ _ _ _
set_option maxRecDepth 20000 in
theorem eX11_isUnder_0 (d : Nat) (st : Nat → Nat → Int32) (x0 x1 : Int32) : m_ev none d 90 0 [some (.int x0), some (.int x1)] [] (SH, st) = if x0 = x1 then (m_ev none d 90 29 [some (.int x0), some (.int x1)] [] (SH, st)) else (if x1 = 0 then (m_ev none d 90 29 [some (.int x0), some (.int x1)] [] (SH, st)) else (if x0 = 3 then (if x1 = 2 then (m_ev none d 90 29 [some (.int x0), some (.int x1)] [] (SH, st)) else (m_ev none d 90 19 [some (.int x0), some (.int x1)] [] (SH, st))) else (m_ev none d 90 19 [some (.int x0), some (.int x1)] [] (SH, st)))) := m_ev_K _ _ _ _ _ _ _
set_option maxRecDepth 20000 in
theorem eX11_isUnder_19 (d : Nat) (st : Nat → Nat → Int32) (x0 x1 : Int32) : m_ev none d 90 19 [some (.int x0), some (.int x1)] [] (SH, st) = if x0 = 5 then (if x1 = 4 then (m_ev none d 90 29 [some (.int x0), some (.int x1)] [] (SH, st)) else (m_ev none d 90 33 [some (.int x0), some (.int x1)] [] (SH, st))) else (m_ev none d 90 33 [some (.int x0), some (.int x1)] [] (SH, st)) := m_ev_K _ _ _ _ _ _ _
set_option maxRecDepth 20000 in
theorem eX11_isUnder_29 (d : Nat) (st : Nat → Nat → Int32) (x0 x1 : Int32) : m_ev none d 90 29 [some (.int x0), some (.int x1)] [] (SH, st) = m_ev none d 90 34 [some (.int x0), some (.int x1)] [.int 1] (SH, st) := m_ev_K _ _ _ _ _ _ _
set_option maxRecDepth 20000 in
theorem eX11_isUnder_33 (d : Nat) (st : Nat → Nat → Int32) (x0 x1 : Int32) : m_ev none d 90 33 [some (.int x0), some (.int x1)] [] (SH, st) = m_ev none d 90 34 [some (.int x0), some (.int x1)] [.int 0] (SH, st) := m_ev_K _ _ _ _ _ _ _
set_option maxRecDepth 20000 in
theorem eX11_isUnder_34 (d : Nat) (st : Nat → Nat → Int32) (x0 x1 t0 : Int32) : m_ev none d 90 34 [some (.int x0), some (.int x1)] [.int t0] (SH, st) = if t0 = 0 ∨ t0 = 1 then some (some (.int t0), (SH, st)) else none := m_ev_K _ _ _ _ _ _ _
set_option maxRecDepth 20000 in
theorem eX11_feed_0 (d : Nat) (st : Nat → Nat → Int32) (x3 : Int32) (x1 : Int64) : m_ev none d 91 0 [some (.ref 0), some (.long x1), none, some (.int x3), none] [] (SH, st) = if x3 < 1 then (m_ev none d 91 11 [some (.ref 0), some (.long x1), none, some (.int x3), none] [] (SH, st)) else (if 8 < x3 then (m_ev none d 91 11 [some (.ref 0), some (.long x1), none, some (.int x3), none] [] (SH, st)) else (m_ev none d 91 13 [some (.ref 0), some (.long x1), none, some (.int x3), none] [] (SH, st))) := m_ev_K _ _ _ _ _ _ _
set_option maxRecDepth 20000 in
theorem eX11_feed_11 (d : Nat) (st : Nat → Nat → Int32) (x3 : Int32) (x1 : Int64) : m_ev none d 91 11 [some (.ref 0), some (.long x1), none, some (.int x3), none] [] (SH, st) = some (some (.int (-1)), (SH, st)) := m_ev_K _ _ _ _ _ _ _
set_option maxRecDepth 20000 in
theorem eX11_feed_13 (d : Nat) (st : Nat → Nat → Int32) (x3 : Int32) (x1 : Int64) : m_ev none d 91 13 [some (.ref 0), some (.long x1), none, some (.int x3), none] [] (SH, st) = if 200 < ((st 35 0) + x3) then (some (some (.int (-2)), (SH, st))) else (m_ev none d 91 31 [some (.ref 0), some (.long x1), none, some (.int x3), none] [] (SH, st)) := m_ev_K _ _ _ _ _ _ _
set_option maxRecDepth 20000 in
theorem eX11_feed_31 (d : Nat) (st : Nat → Nat → Int32) (x3 : Int32) (x1 : Int64) : m_ev none d 91 31 [some (.ref 0), some (.long x1), none, some (.int x3), none] [] (SH, st) = m_ev none d 91 34 [some (.ref 0), some (.long x1), none, some (.int x3), some (.int 0)] [] (SH, st) := m_ev_K _ _ _ _ _ _ _
set_option maxRecDepth 20000 in
theorem eX11_feed_34 (d : Nat) (st : Nat → Nat → Int32) (x3 x4 : Int32) (x1 : Int64) : m_ev none d 91 34 [some (.ref 0), some (.long x1), none, some (.int x3), some (.int x4)] [] (SH, st) = if x4 < x3 then (m_ob (m_ix ((st 35 0) + x4) 200) fun q1 => m_ev none d 91 34 [some (.ref 0), some (.long x1), none, some (.int x3), some (.int (x4 + 1))] [] (SH, (m_up st 36 q1 (vp_nar .byte (((((x1 : Int64).toUInt64 >>> (((8 * x4) : Int32).toInt64.toUInt64 &&& Int64.toUInt64 63)).toInt64 : Int64).toInt32 : Int32).toInt8.toInt32))))) else (m_ev none d 91 73 [some (.ref 0), some (.long x1), none, some (.int x3), some (.int x4)] [] (SH, st)) := m_ev_K _ _ _ _ _ _ _
set_option maxRecDepth 20000 in
theorem eX11_feed_73 (d : Nat) (st : Nat → Nat → Int32) (x3 x4 : Int32) (x1 : Int64) : m_ev none d 91 73 [some (.ref 0), some (.long x1), none, some (.int x3), some (.int x4)] [] (SH, st) = some (some (.int ((st 35 0) + x3)), (SH, (m_up st 35 0 ((st 35 0) + x3)))) := m_ev_K _ _ _ _ _ _ _
set_option maxRecDepth 20000 in
theorem eX11_rules_0 (d : Nat) (st : Nat → Nat → Int32) : m_ev none d 92 0 [some (.ref 0), none] [] (SH, st) = m_bd (m_evc d 36 [.ref 35] (SH, st)) fun w h => m_ev none d 92 7 [some (.ref 0), none] (w.toList ++ []) h := m_ev_K _ _ _ _ _ _ _
set_option maxRecDepth 20000 in
theorem eX11_rules_7 (d : Nat) (st : Nat → Nat → Int32) (t0 : Int32) : m_ev none d 92 7 [some (.ref 0), none] [.int t0] (SH, st) = if t0 = (-1) then (m_ev none d 92 26 [some (.ref 0), some (.int t0)] [] (SH, (m_up st 35 0 0))) else (some (some (.int ((-100) - t0)), (SH, (m_up st 35 0 0)))) := m_ev_K _ _ _ _ _ _ _
set_option maxRecDepth 20000 in
theorem eX11_rules_26 (d : Nat) (st : Nat → Nat → Int32) (x1 : Int32) : m_ev none d 92 26 [some (.ref 0), some (.int x1)] [] (SH, st) = m_bd (m_evc d 34 [.ref 9, .ref 37] (SH, st)) fun w h => m_ev none d 92 43 [some (.ref 0), some (.int x1)] (w.toList ++ []) h := m_ev_K _ _ _ _ _ _ _
set_option maxRecDepth 20000 in
theorem eX11_rules_43 (d : Nat) (st : Nat → Nat → Int32) (x1 : Int32) : m_ev none d 92 43 [some (.ref 0), some (.int x1)] [] (SH, st) = some (some (.int (st 9 0)), (SH, st)) := m_ev_K _ _ _ _ _ _ _
set_option maxRecDepth 20000 in
theorem eX11_cry_0 (d : Nat) (st : Nat → Nat → Int32) (x1 x2 x3 : Int32) : m_ev none d 93 0 [some (.ref 0), some (.int x1), some (.int x2), some (.int x3), none] [] (SH, st) = m_bd (m_evc d 118 [.ref 0, .int x1, .int x2] (SH, st)) fun w h => m_ev none d 93 6 [some (.ref 0), some (.int x1), some (.int x2), some (.int x3), none] (w.toList ++ []) h := m_ev_K _ _ _ _ _ _ _
set_option maxRecDepth 20000 in
theorem eX11_cry_6 (d : Nat) (st : Nat → Nat → Int32) (x1 x2 x3 t0 : Int32) : m_ev none d 93 6 [some (.ref 0), some (.int x1), some (.int x2), some (.int x3), none] [.int t0] (SH, st) = if t0 = 0 then (some (some (.int (-1)), (SH, st))) else (m_ev none d 93 11 [some (.ref 0), some (.int x1), some (.int x2), some (.int x3), none] [] (SH, st)) := m_ev_K _ _ _ _ _ _ _
set_option maxRecDepth 20000 in
theorem eX11_cry_11 (d : Nat) (st : Nat → Nat → Int32) (x1 x2 x3 : Int32) : m_ev none d 93 11 [some (.ref 0), some (.int x1), some (.int x2), some (.int x3), none] [] (SH, st) = m_bd (m_evc d 121 [.ref 0, .int x1, .int x2, .int x3] (SH, st)) fun w h => m_ev none d 93 18 [some (.ref 0), some (.int x1), some (.int x2), some (.int x3), none] (w.toList ++ []) h := m_ev_K _ _ _ _ _ _ _
set_option maxRecDepth 20000 in
theorem eX11_cry_18 (d : Nat) (st : Nat → Nat → Int32) (x1 x2 x3 : Int32) : m_ev none d 93 18 [some (.ref 0), some (.int x1), some (.int x2), some (.int x3), none] [] (SH, st) = m_ev none d 93 21 [some (.ref 0), some (.int x1), some (.int x2), some (.int x3), some (.int 0)] [] (SH, st) := m_ev_K _ _ _ _ _ _ _
set_option maxRecDepth 20000 in
theorem eX11_cry_21 (d : Nat) (st : Nat → Nat → Int32) (x1 x2 x3 x4 : Int32) : m_ev none d 93 21 [some (.ref 0), some (.int x1), some (.int x2), some (.int x3), some (.int x4)] [] (SH, st) = if x4 < (st 1 0) then (m_bd (m_evc d 10 [.ref 44, .int x4] (SH, st)) fun w h => m_ev none d 93 42 [some (.ref 0), some (.int x1), some (.int x2), some (.int x3), some (.int x4)] (w.toList ++ []) h) else (m_ev none d 93 91 [some (.ref 0), some (.int x1), some (.int x2), some (.int x3), some (.int x4)] [] (SH, st)) := m_ev_K _ _ _ _ _ _ _
set_option maxRecDepth 20000 in
theorem eX11_cry_42 (d : Nat) (st : Nat → Nat → Int32) (x1 x2 x3 x4 t0 : Int32) : m_ev none d 93 42 [some (.ref 0), some (.int x1), some (.int x2), some (.int x3), some (.int x4)] [.int t0] (SH, st) = if t0 = 0 then (m_ev none d 93 85 [some (.ref 0), some (.int x1), some (.int x2), some (.int x3), some (.int x4)] [] (SH, st)) else (m_ob (m_ix x4 9) fun q1 => m_ob (m_ix x4 9) fun q2 => m_ob (m_ix x4 9) fun q3 => m_ob (m_ix x4 9) fun q4 => m_ev none d 93 85 [some (.ref 0), some (.int x1), some (.int x2), some (.int x3), some (.int x4)] [] (SH, (m_up (m_up st 6 q2 (st 48 q1)) 7 q4 (st 47 q3)))) := m_ev_K _ _ _ _ _ _ _
set_option maxRecDepth 20000 in
theorem eX11_cry_85 (d : Nat) (st : Nat → Nat → Int32) (x1 x2 x3 x4 : Int32) : m_ev none d 93 85 [some (.ref 0), some (.int x1), some (.int x2), some (.int x3), some (.int x4)] [] (SH, st) = m_ev none d 93 21 [some (.ref 0), some (.int x1), some (.int x2), some (.int x3), some (.int (x4 + 1))] [] (SH, st) := m_ev_K _ _ _ _ _ _ _
set_option maxRecDepth 20000 in
theorem eX11_cry_91 (d : Nat) (st : Nat → Nat → Int32) (x1 x2 x3 x4 : Int32) : m_ev none d 93 91 [some (.ref 0), some (.int x1), some (.int x2), some (.int x3), some (.int x4)] [] (SH, st) = m_bd (m_evc d 11 [.ref 44] (SH, st)) fun w h => m_ev none d 93 98 [some (.ref 0), some (.int x1), some (.int x2), some (.int x3), some (.int x4)] (w.toList ++ []) h := m_ev_K _ _ _ _ _ _ _
set_option maxRecDepth 20000 in
theorem eX11_cry_98 (d : Nat) (st : Nat → Nat → Int32) (x1 x2 x3 x4 t0 : Int32) : m_ev none d 93 98 [some (.ref 0), some (.int x1), some (.int x2), some (.int x3), some (.int x4)] [.int t0] (SH, st) = some (some (.int t0), (SH, st)) := m_ev_K _ _ _ _ _ _ _
set_option maxRecDepth 20000 in
theorem eX11_shows_0 (d : Nat) (st : Nat → Nat → Int32) (x1 x2 : Int32) : m_ev none d 94 0 [some (.ref 0), some (.int x1), some (.int x2)] [] (SH, st) = m_bd (m_evc d 68 [.ref 1, .int x1] (SH, st)) fun w h => m_ev none d 94 8 [some (.ref 0), some (.int x1), some (.int x2)] (w.toList ++ []) h := m_ev_K _ _ _ _ _ _ _
set_option maxRecDepth 20000 in
theorem eX11_shows_8 (d : Nat) (st : Nat → Nat → Int32) (x1 x2 t0 : Int32) : m_ev none d 94 8 [some (.ref 0), some (.int x1), some (.int x2)] [.int t0] (SH, st) = if t0 = 0 then (m_ev none d 94 18 [some (.ref 0), some (.int x1), some (.int x2)] [] (SH, st)) else (m_bd (m_evc d 116 [.int x2] (SH, st)) fun w h => m_ev none d 94 15 [some (.ref 0), some (.int x1), some (.int x2)] (w.toList ++ []) h) := m_ev_K _ _ _ _ _ _ _
set_option maxRecDepth 20000 in
theorem eX11_shows_15 (d : Nat) (st : Nat → Nat → Int32) (x1 x2 t0 : Int32) : m_ev none d 94 15 [some (.ref 0), some (.int x1), some (.int x2)] [.int t0] (SH, st) = if t0 = 0 then (m_ev none d 94 18 [some (.ref 0), some (.int x1), some (.int x2)] [] (SH, st)) else (m_ev none d 94 20 [some (.ref 0), some (.int x1), some (.int x2)] [] (SH, st)) := m_ev_K _ _ _ _ _ _ _
set_option maxRecDepth 20000 in
theorem eX11_shows_18 (d : Nat) (st : Nat → Nat → Int32) (x1 x2 : Int32) : m_ev none d 94 18 [some (.ref 0), some (.int x1), some (.int x2)] [] (SH, st) = some (some (.int (-1)), (SH, st)) := m_ev_K _ _ _ _ _ _ _
set_option maxRecDepth 20000 in
theorem eX11_shows_20 (d : Nat) (st : Nat → Nat → Int32) (x1 x2 : Int32) : m_ev none d 94 20 [some (.ref 0), some (.int x1), some (.int x2)] [] (SH, st) = m_ob (m_ix x1 9) fun q1 => if (st 7 q1) = (-9) then (some (some (.int (-3)), (SH, st))) else (m_ev none d 94 37 [some (.ref 0), some (.int x1), some (.int x2)] [] (SH, st)) := m_ev_K _ _ _ _ _ _ _
set_option maxRecDepth 20000 in
theorem eX11_shows_37 (d : Nat) (st : Nat → Nat → Int32) (x1 x2 : Int32) : m_ev none d 94 37 [some (.ref 0), some (.int x1), some (.int x2)] [] (SH, st) = m_ob (m_ix x1 9) fun q1 => if x2 < (st 7 q1) then (m_ev none d 94 76 [some (.ref 0), some (.int x1), some (.int x2)] [.int (-4)] (SH, st)) else (m_ev none d 94 55 [some (.ref 0), some (.int x1), some (.int x2)] [] (SH, st)) := m_ev_K _ _ _ _ _ _ _
set_option maxRecDepth 20000 in
theorem eX11_shows_55 (d : Nat) (st : Nat → Nat → Int32) (x1 x2 : Int32) : m_ev none d 94 55 [some (.ref 0), some (.int x1), some (.int x2)] [] (SH, st) = m_ob (m_ix x1 9) fun q1 => m_ob (m_ix x1 9) fun q2 => m_ev none d 94 76 [some (.ref 0), some (.int x1), some (.int x2)] [.int (((st 6 q1) + x2) - (st 7 q2))] (SH, st) := m_ev_K _ _ _ _ _ _ _
set_option maxRecDepth 20000 in
theorem eX11_shows_76 (d : Nat) (st : Nat → Nat → Int32) (x1 x2 t0 : Int32) : m_ev none d 94 76 [some (.ref 0), some (.int x1), some (.int x2)] [.int t0] (SH, st) = some (some (.int t0), (SH, st)) := m_ev_K _ _ _ _ _ _ _
set_option maxRecDepth 20000 in
theorem eX11_hush_0 (d : Nat) (st : Nat → Nat → Int32) : m_ev none d 95 0 [some (.ref 0), none] [] (SH, st) = m_bd (m_evc d 69 [.ref 1] (SH, st)) fun w h => m_ev none d 95 7 [some (.ref 0), none] (w.toList ++ []) h := m_ev_K _ _ _ _ _ _ _
set_option maxRecDepth 20000 in
theorem eX11_hush_7 (d : Nat) (st : Nat → Nat → Int32) (t0 : Int32) : m_ev none d 95 7 [some (.ref 0), none] [.int t0] (SH, st) = m_bd (m_evc d 267 [.ref 6, .int (-9)] (SH, st)) fun w h => m_ev none d 95 20 [some (.ref 0), some (.int t0)] (w.toList ++ []) h := m_ev_K _ _ _ _ _ _ _
set_option maxRecDepth 20000 in
theorem eX11_hush_20 (d : Nat) (st : Nat → Nat → Int32) (x1 : Int32) : m_ev none d 95 20 [some (.ref 0), some (.int x1)] [] (SH, st) = m_bd (m_evc d 267 [.ref 7, .int (-9)] (SH, st)) fun w h => m_ev none d 95 32 [some (.ref 0), some (.int x1)] (w.toList ++ []) h := m_ev_K _ _ _ _ _ _ _
set_option maxRecDepth 20000 in
theorem eX11_hush_32 (d : Nat) (st : Nat → Nat → Int32) (x1 : Int32) : m_ev none d 95 32 [some (.ref 0), some (.int x1)] [] (SH, st) = some (some (.int x1), (SH, st)) := m_ev_K _ _ _ _ _ _ _
set_option maxRecDepth 20000 in
theorem eX11_comes_0 (d : Nat) (st : Nat → Nat → Int32) (x1 x2 x3 : Int32) : m_ev none d 96 0 [some (.ref 0), some (.int x1), some (.int x2), some (.int x3)] [] (SH, st) = m_bd (m_evc d 118 [.ref 0, .int x1, .int x2] (SH, st)) fun w h => m_ev none d 96 6 [some (.ref 0), some (.int x1), some (.int x2), some (.int x3)] (w.toList ++ []) h := m_ev_K _ _ _ _ _ _ _
set_option maxRecDepth 20000 in
theorem eX11_comes_6 (d : Nat) (st : Nat → Nat → Int32) (x1 x2 x3 t0 : Int32) : m_ev none d 96 6 [some (.ref 0), some (.int x1), some (.int x2), some (.int x3)] [.int t0] (SH, st) = if t0 = 0 then (m_ev none d 96 20 [some (.ref 0), some (.int x1), some (.int x2), some (.int x3)] [] (SH, st)) else (m_bd (m_evc d 68 [.ref 1, .int x3] (SH, st)) fun w h => m_ev none d 96 17 [some (.ref 0), some (.int x1), some (.int x2), some (.int x3)] (w.toList ++ []) h) := m_ev_K _ _ _ _ _ _ _
set_option maxRecDepth 20000 in
theorem eX11_comes_17 (d : Nat) (st : Nat → Nat → Int32) (x1 x2 x3 t0 : Int32) : m_ev none d 96 17 [some (.ref 0), some (.int x1), some (.int x2), some (.int x3)] [.int t0] (SH, st) = if t0 = 0 then (m_ev none d 96 20 [some (.ref 0), some (.int x1), some (.int x2), some (.int x3)] [] (SH, st)) else (m_ev none d 96 22 [some (.ref 0), some (.int x1), some (.int x2), some (.int x3)] [] (SH, st)) := m_ev_K _ _ _ _ _ _ _
set_option maxRecDepth 20000 in
theorem eX11_comes_20 (d : Nat) (st : Nat → Nat → Int32) (x1 x2 x3 : Int32) : m_ev none d 96 20 [some (.ref 0), some (.int x1), some (.int x2), some (.int x3)] [] (SH, st) = some (some (.int (-1)), (SH, st)) := m_ev_K _ _ _ _ _ _ _
set_option maxRecDepth 20000 in
theorem eX11_comes_22 (d : Nat) (st : Nat → Nat → Int32) (x1 x2 x3 : Int32) : m_ev none d 96 22 [some (.ref 0), some (.int x1), some (.int x2), some (.int x3)] [] (SH, st) = m_bd (m_evc d 120 [.ref 0, .int x1, .int x2] (SH, st)) fun w h => m_ev none d 96 28 [some (.ref 0), some (.int x1), some (.int x2), some (.int x3)] (w.toList ++ []) h := m_ev_K _ _ _ _ _ _ _
set_option maxRecDepth 20000 in
theorem eX11_comes_28 (d : Nat) (st : Nat → Nat → Int32) (x1 x2 x3 : Int32) : m_ev none d 96 28 [some (.ref 0), some (.int x1), some (.int x2), some (.int x3)] [] (SH, st) = m_bd (m_evc d 10 [.ref 44, .int x3] (SH, st)) fun w h => m_ev none d 96 36 [some (.ref 0), some (.int x1), some (.int x2), some (.int x3)] (w.toList ++ []) h := m_ev_K _ _ _ _ _ _ _
set_option maxRecDepth 20000 in
theorem eX11_comes_36 (d : Nat) (st : Nat → Nat → Int32) (x1 x2 x3 t0 : Int32) : m_ev none d 96 36 [some (.ref 0), some (.int x1), some (.int x2), some (.int x3)] [.int t0] (SH, st) = if t0 = 0 then (m_ev none d 96 51 [some (.ref 0), some (.int x1), some (.int x2), some (.int x3)] [] (SH, st)) else (m_ob (m_ix x3 9) fun q1 => m_ev none d 96 53 [some (.ref 0), some (.int x1), some (.int x2), some (.int x3)] [.int (st 47 q1)] (SH, st)) := m_ev_K _ _ _ _ _ _ _
set_option maxRecDepth 20000 in
theorem eX11_comes_51 (d : Nat) (st : Nat → Nat → Int32) (x1 x2 x3 : Int32) : m_ev none d 96 51 [some (.ref 0), some (.int x1), some (.int x2), some (.int x3)] [] (SH, st) = m_ev none d 96 53 [some (.ref 0), some (.int x1), some (.int x2), some (.int x3)] [.int (-3)] (SH, st) := m_ev_K _ _ _ _ _ _ _
set_option maxRecDepth 20000 in
theorem eX11_comes_53 (d : Nat) (st : Nat → Nat → Int32) (x1 x2 x3 t0 : Int32) : m_ev none d 96 53 [some (.ref 0), some (.int x1), some (.int x2), some (.int x3)] [.int t0] (SH, st) = some (some (.int t0), (SH, st)) := m_ev_K _ _ _ _ _ _ _
set_option maxRecDepth 20000 in
theorem eX11_holds_0 (d : Nat) (st : Nat → Nat → Int32) (x1 x2 x3 : Int32) : m_ev none d 97 0 [some (.ref 0), some (.int x1), some (.int x2), some (.int x3)] [] (SH, st) = m_bd (m_evc d 118 [.ref 0, .int x1, .int x2] (SH, st)) fun w h => m_ev none d 97 6 [some (.ref 0), some (.int x1), some (.int x2), some (.int x3)] (w.toList ++ []) h := m_ev_K _ _ _ _ _ _ _
set_option maxRecDepth 20000 in
theorem eX11_holds_6 (d : Nat) (st : Nat → Nat → Int32) (x1 x2 x3 t0 : Int32) : m_ev none d 97 6 [some (.ref 0), some (.int x1), some (.int x2), some (.int x3)] [.int t0] (SH, st) = if t0 = 0 then (m_ev none d 97 20 [some (.ref 0), some (.int x1), some (.int x2), some (.int x3)] [] (SH, st)) else (m_bd (m_evc d 68 [.ref 1, .int x3] (SH, st)) fun w h => m_ev none d 97 17 [some (.ref 0), some (.int x1), some (.int x2), some (.int x3)] (w.toList ++ []) h) := m_ev_K _ _ _ _ _ _ _
set_option maxRecDepth 20000 in
theorem eX11_holds_17 (d : Nat) (st : Nat → Nat → Int32) (x1 x2 x3 t0 : Int32) : m_ev none d 97 17 [some (.ref 0), some (.int x1), some (.int x2), some (.int x3)] [.int t0] (SH, st) = if t0 = 0 then (m_ev none d 97 20 [some (.ref 0), some (.int x1), some (.int x2), some (.int x3)] [] (SH, st)) else (m_ev none d 97 22 [some (.ref 0), some (.int x1), some (.int x2), some (.int x3)] [] (SH, st)) := m_ev_K _ _ _ _ _ _ _
set_option maxRecDepth 20000 in
theorem eX11_holds_20 (d : Nat) (st : Nat → Nat → Int32) (x1 x2 x3 : Int32) : m_ev none d 97 20 [some (.ref 0), some (.int x1), some (.int x2), some (.int x3)] [] (SH, st) = some (some (.int (-1)), (SH, st)) := m_ev_K _ _ _ _ _ _ _
set_option maxRecDepth 20000 in
theorem eX11_holds_22 (d : Nat) (st : Nat → Nat → Int32) (x1 x2 x3 : Int32) : m_ev none d 97 22 [some (.ref 0), some (.int x1), some (.int x2), some (.int x3)] [] (SH, st) = m_bd (m_evc d 120 [.ref 0, .int x1, .int x2] (SH, st)) fun w h => m_ev none d 97 28 [some (.ref 0), some (.int x1), some (.int x2), some (.int x3)] (w.toList ++ []) h := m_ev_K _ _ _ _ _ _ _
set_option maxRecDepth 20000 in
theorem eX11_holds_28 (d : Nat) (st : Nat → Nat → Int32) (x1 x2 x3 : Int32) : m_ev none d 97 28 [some (.ref 0), some (.int x1), some (.int x2), some (.int x3)] [] (SH, st) = m_bd (m_evc d 10 [.ref 44, .int x3] (SH, st)) fun w h => m_ev none d 97 36 [some (.ref 0), some (.int x1), some (.int x2), some (.int x3)] (w.toList ++ []) h := m_ev_K _ _ _ _ _ _ _
set_option maxRecDepth 20000 in
theorem eX11_holds_36 (d : Nat) (st : Nat → Nat → Int32) (x1 x2 x3 t0 : Int32) : m_ev none d 97 36 [some (.ref 0), some (.int x1), some (.int x2), some (.int x3)] [.int t0] (SH, st) = if t0 = 0 then (m_ev none d 97 51 [some (.ref 0), some (.int x1), some (.int x2), some (.int x3)] [] (SH, st)) else (m_ob (m_ix x3 9) fun q1 => m_ev none d 97 53 [some (.ref 0), some (.int x1), some (.int x2), some (.int x3)] [.int (st 48 q1)] (SH, st)) := m_ev_K _ _ _ _ _ _ _
set_option maxRecDepth 20000 in
theorem eX11_holds_51 (d : Nat) (st : Nat → Nat → Int32) (x1 x2 x3 : Int32) : m_ev none d 97 51 [some (.ref 0), some (.int x1), some (.int x2), some (.int x3)] [] (SH, st) = m_ev none d 97 53 [some (.ref 0), some (.int x1), some (.int x2), some (.int x3)] [.int (-3)] (SH, st) := m_ev_K _ _ _ _ _ _ _
set_option maxRecDepth 20000 in
theorem eX11_holds_53 (d : Nat) (st : Nat → Nat → Int32) (x1 x2 x3 t0 : Int32) : m_ev none d 97 53 [some (.ref 0), some (.int x1), some (.int x2), some (.int x3)] [.int t0] (SH, st) = some (some (.int t0), (SH, st)) := m_ev_K _ _ _ _ _ _ _
set_option maxRecDepth 20000 in
theorem eX11_off_0 (d : Nat) (st : Nat → Nat → Int32) (x1 x2 x3 : Int32) : m_ev none d 98 0 [some (.ref 0), some (.int x1), some (.int x2), some (.int x3)] [] (SH, st) = m_bd (m_evc d 118 [.ref 0, .int x1, .int x2] (SH, st)) fun w h => m_ev none d 98 6 [some (.ref 0), some (.int x1), some (.int x2), some (.int x3)] (w.toList ++ []) h := m_ev_K _ _ _ _ _ _ _
set_option maxRecDepth 20000 in
theorem eX11_off_6 (d : Nat) (st : Nat → Nat → Int32) (x1 x2 x3 t0 : Int32) : m_ev none d 98 6 [some (.ref 0), some (.int x1), some (.int x2), some (.int x3)] [.int t0] (SH, st) = if t0 = 0 then (m_ev none d 98 20 [some (.ref 0), some (.int x1), some (.int x2), some (.int x3)] [] (SH, st)) else (m_bd (m_evc d 68 [.ref 1, .int x3] (SH, st)) fun w h => m_ev none d 98 17 [some (.ref 0), some (.int x1), some (.int x2), some (.int x3)] (w.toList ++ []) h) := m_ev_K _ _ _ _ _ _ _
set_option maxRecDepth 20000 in
theorem eX11_off_17 (d : Nat) (st : Nat → Nat → Int32) (x1 x2 x3 t0 : Int32) : m_ev none d 98 17 [some (.ref 0), some (.int x1), some (.int x2), some (.int x3)] [.int t0] (SH, st) = if t0 = 0 then (m_ev none d 98 20 [some (.ref 0), some (.int x1), some (.int x2), some (.int x3)] [] (SH, st)) else (m_ev none d 98 22 [some (.ref 0), some (.int x1), some (.int x2), some (.int x3)] [] (SH, st)) := m_ev_K _ _ _ _ _ _ _
set_option maxRecDepth 20000 in
theorem eX11_off_20 (d : Nat) (st : Nat → Nat → Int32) (x1 x2 x3 : Int32) : m_ev none d 98 20 [some (.ref 0), some (.int x1), some (.int x2), some (.int x3)] [] (SH, st) = some (some (.int (-1)), (SH, st)) := m_ev_K _ _ _ _ _ _ _
set_option maxRecDepth 20000 in
theorem eX11_off_22 (d : Nat) (st : Nat → Nat → Int32) (x1 x2 x3 : Int32) : m_ev none d 98 22 [some (.ref 0), some (.int x1), some (.int x2), some (.int x3)] [] (SH, st) = m_bd (m_evc d 120 [.ref 0, .int x1, .int x2] (SH, st)) fun w h => m_ev none d 98 28 [some (.ref 0), some (.int x1), some (.int x2), some (.int x3)] (w.toList ++ []) h := m_ev_K _ _ _ _ _ _ _
set_option maxRecDepth 20000 in
theorem eX11_off_28 (d : Nat) (st : Nat → Nat → Int32) (x1 x2 x3 : Int32) : m_ev none d 98 28 [some (.ref 0), some (.int x1), some (.int x2), some (.int x3)] [] (SH, st) = m_bd (m_evc d 10 [.ref 44, .int x3] (SH, st)) fun w h => m_ev none d 98 36 [some (.ref 0), some (.int x1), some (.int x2), some (.int x3)] (w.toList ++ []) h := m_ev_K _ _ _ _ _ _ _
set_option maxRecDepth 20000 in
theorem eX11_off_36 (d : Nat) (st : Nat → Nat → Int32) (x1 x2 x3 t0 : Int32) : m_ev none d 98 36 [some (.ref 0), some (.int x1), some (.int x2), some (.int x3)] [.int t0] (SH, st) = if t0 = 0 then (m_ev none d 98 54 [some (.ref 0), some (.int x1), some (.int x2), some (.int x3)] [] (SH, st)) else (m_bd (m_evc d 12 [.ref 44, .int x3] (SH, st)) fun w h => m_ev none d 98 47 [some (.ref 0), some (.int x1), some (.int x2), some (.int x3)] (w.toList ++ []) h) := m_ev_K _ _ _ _ _ _ _
set_option maxRecDepth 20000 in
theorem eX11_off_47 (d : Nat) (st : Nat → Nat → Int32) (x1 x2 x3 t0 : Int32) : m_ev none d 98 47 [some (.ref 0), some (.int x1), some (.int x2), some (.int x3)] [.int t0] (SH, st) = m_ev none d 98 56 [some (.ref 0), some (.int x1), some (.int x2), some (.int x3)] [.int (t0 + 10000)] (SH, st) := m_ev_K _ _ _ _ _ _ _
set_option maxRecDepth 20000 in
theorem eX11_off_54 (d : Nat) (st : Nat → Nat → Int32) (x1 x2 x3 : Int32) : m_ev none d 98 54 [some (.ref 0), some (.int x1), some (.int x2), some (.int x3)] [] (SH, st) = m_ev none d 98 56 [some (.ref 0), some (.int x1), some (.int x2), some (.int x3)] [.int (-3)] (SH, st) := m_ev_K _ _ _ _ _ _ _
set_option maxRecDepth 20000 in
theorem eX11_off_56 (d : Nat) (st : Nat → Nat → Int32) (x1 x2 x3 t0 : Int32) : m_ev none d 98 56 [some (.ref 0), some (.int x1), some (.int x2), some (.int x3)] [.int t0] (SH, st) = some (some (.int t0), (SH, st)) := m_ev_K _ _ _ _ _ _ _
set_option maxRecDepth 20000 in
theorem eX11_worst_0 (d : Nat) (st : Nat → Nat → Int32) (x1 x2 : Int32) : m_ev none d 99 0 [some (.ref 0), some (.int x1), some (.int x2), none, none, none] [] (SH, st) = m_bd (m_evc d 118 [.ref 0, .int x1, .int x2] (SH, st)) fun w h => m_ev none d 99 6 [some (.ref 0), some (.int x1), some (.int x2), none, none, none] (w.toList ++ []) h := m_ev_K _ _ _ _ _ _ _
set_option maxRecDepth 20000 in
theorem eX11_worst_6 (d : Nat) (st : Nat → Nat → Int32) (x1 x2 t0 : Int32) : m_ev none d 99 6 [some (.ref 0), some (.int x1), some (.int x2), none, none, none] [.int t0] (SH, st) = if t0 = 0 then (some (some (.int (-1)), (SH, st))) else (m_ev none d 99 11 [some (.ref 0), some (.int x1), some (.int x2), none, none, none] [] (SH, st)) := m_ev_K _ _ _ _ _ _ _
set_option maxRecDepth 20000 in
theorem eX11_worst_11 (d : Nat) (st : Nat → Nat → Int32) (x1 x2 : Int32) : m_ev none d 99 11 [some (.ref 0), some (.int x1), some (.int x2), none, none, none] [] (SH, st) = m_bd (m_evc d 120 [.ref 0, .int x1, .int x2] (SH, st)) fun w h => m_ev none d 99 17 [some (.ref 0), some (.int x1), some (.int x2), none, none, none] (w.toList ++ []) h := m_ev_K _ _ _ _ _ _ _
set_option maxRecDepth 20000 in
theorem eX11_worst_17 (d : Nat) (st : Nat → Nat → Int32) (x1 x2 : Int32) : m_ev none d 99 17 [some (.ref 0), some (.int x1), some (.int x2), none, none, none] [] (SH, st) = m_ev none d 99 25 [some (.ref 0), some (.int x1), some (.int x2), some (.int x1), some (.int (-1)), some (.int 0)] [] (SH, st) := m_ev_K _ _ _ _ _ _ _
set_option maxRecDepth 20000 in
theorem eX11_worst_25 (d : Nat) (st : Nat → Nat → Int32) (x1 x2 x3 x4 x5 : Int32) : m_ev none d 99 25 [some (.ref 0), some (.int x1), some (.int x2), some (.int x3), some (.int x4), some (.int x5)] [] (SH, st) = if x5 < (st 1 0) then (m_bd (m_evc d 10 [.ref 44, .int x5] (SH, st)) fun w h => m_ev none d 99 46 [some (.ref 0), some (.int x1), some (.int x2), some (.int x3), some (.int x4), some (.int x5)] (w.toList ++ []) h) else (m_ev none d 99 83 [some (.ref 0), some (.int x1), some (.int x2), some (.int x3), some (.int x4), some (.int x5)] [] (SH, st)) := m_ev_K _ _ _ _ _ _ _
set_option maxRecDepth 20000 in
theorem eX11_worst_46 (d : Nat) (st : Nat → Nat → Int32) (x1 x2 x3 x4 x5 t0 : Int32) : m_ev none d 99 46 [some (.ref 0), some (.int x1), some (.int x2), some (.int x3), some (.int x4), some (.int x5)] [.int t0] (SH, st) = if t0 = 0 then (m_ev none d 99 77 [some (.ref 0), some (.int x1), some (.int x2), some (.int x3), some (.int x4), some (.int x5)] [] (SH, st)) else (m_bd (m_evc d 13 [.ref 44, .int x5] (SH, st)) fun w h => m_ev none d 99 58 [some (.ref 0), some (.int x1), some (.int x2), some (.int x3), some (.int x4), some (.int x5)] (w.toList ++ []) h) := m_ev_K _ _ _ _ _ _ _
set_option maxRecDepth 20000 in
theorem eX11_worst_58 (d : Nat) (st : Nat → Nat → Int32) (x1 x2 x3 x4 x5 t0 : Int32) : m_ev none d 99 58 [some (.ref 0), some (.int x1), some (.int x2), some (.int x3), some (.int x4), some (.int x5)] [.int t0] (SH, st) = if x4 < t0 then (m_bd (m_evc d 13 [.ref 44, .int x5] (SH, st)) fun w h => m_ev none d 99 75 [some (.ref 0), some (.int x1), some (.int x2), some (.int x5), some (.int x4), some (.int x5)] (w.toList ++ []) h) else (m_ev none d 99 77 [some (.ref 0), some (.int x1), some (.int x2), some (.int x3), some (.int x4), some (.int x5)] [] (SH, st)) := m_ev_K _ _ _ _ _ _ _
set_option maxRecDepth 20000 in
theorem eX11_worst_75 (d : Nat) (st : Nat → Nat → Int32) (x1 x2 x3 x4 x5 t0 : Int32) : m_ev none d 99 75 [some (.ref 0), some (.int x1), some (.int x2), some (.int x3), some (.int x4), some (.int x5)] [.int t0] (SH, st) = m_ev none d 99 77 [some (.ref 0), some (.int x1), some (.int x2), some (.int x3), some (.int t0), some (.int x5)] [] (SH, st) := m_ev_K _ _ _ _ _ _ _
set_option maxRecDepth 20000 in
theorem eX11_worst_77 (d : Nat) (st : Nat → Nat → Int32) (x1 x2 x3 x4 x5 : Int32) : m_ev none d 99 77 [some (.ref 0), some (.int x1), some (.int x2), some (.int x3), some (.int x4), some (.int x5)] [] (SH, st) = m_ev none d 99 25 [some (.ref 0), some (.int x1), some (.int x2), some (.int x3), some (.int x4), some (.int (x5 + 1))] [] (SH, st) := m_ev_K _ _ _ _ _ _ _
set_option maxRecDepth 20000 in
theorem eX11_worst_83 (d : Nat) (st : Nat → Nat → Int32) (x1 x2 x3 x4 x5 : Int32) : m_ev none d 99 83 [some (.ref 0), some (.int x1), some (.int x2), some (.int x3), some (.int x4), some (.int x5)] [] (SH, st) = some (some (.int x3), (SH, st)) := m_ev_K _ _ _ _ _ _ _
set_option maxRecDepth 20000 in
theorem eX11_within_0 (d : Nat) (st : Nat → Nat → Int32) (x1 x2 x3 : Int32) : m_ev none d 100 0 [some (.ref 0), some (.int x1), some (.int x2), some (.int x3), none, none] [] (SH, st) = m_bd (m_evc d 118 [.ref 0, .int x1, .int x2] (SH, st)) fun w h => m_ev none d 100 6 [some (.ref 0), some (.int x1), some (.int x2), some (.int x3), none, none] (w.toList ++ []) h := m_ev_K _ _ _ _ _ _ _
set_option maxRecDepth 20000 in
theorem eX11_within_6 (d : Nat) (st : Nat → Nat → Int32) (x1 x2 x3 t0 : Int32) : m_ev none d 100 6 [some (.ref 0), some (.int x1), some (.int x2), some (.int x3), none, none] [.int t0] (SH, st) = if t0 = 0 then (m_ev none d 100 16 [some (.ref 0), some (.int x1), some (.int x2), some (.int x3), none, none] [] (SH, st)) else (m_bd (m_evc d 117 [.int x3] (SH, st)) fun w h => m_ev none d 100 13 [some (.ref 0), some (.int x1), some (.int x2), some (.int x3), none, none] (w.toList ++ []) h) := m_ev_K _ _ _ _ _ _ _
set_option maxRecDepth 20000 in
theorem eX11_within_13 (d : Nat) (st : Nat → Nat → Int32) (x1 x2 x3 t0 : Int32) : m_ev none d 100 13 [some (.ref 0), some (.int x1), some (.int x2), some (.int x3), none, none] [.int t0] (SH, st) = if t0 = 0 then (m_ev none d 100 16 [some (.ref 0), some (.int x1), some (.int x2), some (.int x3), none, none] [] (SH, st)) else (m_ev none d 100 18 [some (.ref 0), some (.int x1), some (.int x2), some (.int x3), none, none] [] (SH, st)) := m_ev_K _ _ _ _ _ _ _
set_option maxRecDepth 20000 in
theorem eX11_within_16 (d : Nat) (st : Nat → Nat → Int32) (x1 x2 x3 : Int32) : m_ev none d 100 16 [some (.ref 0), some (.int x1), some (.int x2), some (.int x3), none, none] [] (SH, st) = some (some (.int (-1)), (SH, st)) := m_ev_K _ _ _ _ _ _ _
set_option maxRecDepth 20000 in
theorem eX11_within_18 (d : Nat) (st : Nat → Nat → Int32) (x1 x2 x3 : Int32) : m_ev none d 100 18 [some (.ref 0), some (.int x1), some (.int x2), some (.int x3), none, none] [] (SH, st) = m_bd (m_evc d 120 [.ref 0, .int x1, .int x2] (SH, st)) fun w h => m_ev none d 100 24 [some (.ref 0), some (.int x1), some (.int x2), some (.int x3), none, none] (w.toList ++ []) h := m_ev_K _ _ _ _ _ _ _
set_option maxRecDepth 20000 in
theorem eX11_within_24 (d : Nat) (st : Nat → Nat → Int32) (x1 x2 x3 : Int32) : m_ev none d 100 24 [some (.ref 0), some (.int x1), some (.int x2), some (.int x3), none, none] [] (SH, st) = m_ev none d 100 30 [some (.ref 0), some (.int x1), some (.int x2), some (.int x3), some (.int 0), some (.int 0)] [] (SH, st) := m_ev_K _ _ _ _ _ _ _
set_option maxRecDepth 20000 in
theorem eX11_within_30 (d : Nat) (st : Nat → Nat → Int32) (x1 x2 x3 x4 x5 : Int32) : m_ev none d 100 30 [some (.ref 0), some (.int x1), some (.int x2), some (.int x3), some (.int x4), some (.int x5)] [] (SH, st) = if x5 < (st 1 0) then (m_bd (m_evc d 10 [.ref 44, .int x5] (SH, st)) fun w h => m_ev none d 100 51 [some (.ref 0), some (.int x1), some (.int x2), some (.int x3), some (.int x4), some (.int x5)] (w.toList ++ []) h) else (m_ev none d 100 76 [some (.ref 0), some (.int x1), some (.int x2), some (.int x3), some (.int x4), some (.int x5)] [] (SH, st)) := m_ev_K _ _ _ _ _ _ _
set_option maxRecDepth 20000 in
theorem eX11_within_51 (d : Nat) (st : Nat → Nat → Int32) (x1 x2 x3 x4 x5 t0 : Int32) : m_ev none d 100 51 [some (.ref 0), some (.int x1), some (.int x2), some (.int x3), some (.int x4), some (.int x5)] [.int t0] (SH, st) = if t0 = 0 then (m_ev none d 100 70 [some (.ref 0), some (.int x1), some (.int x2), some (.int x3), some (.int x4), some (.int x5)] [] (SH, st)) else (m_bd (m_evc d 13 [.ref 44, .int x5] (SH, st)) fun w h => m_ev none d 100 63 [some (.ref 0), some (.int x1), some (.int x2), some (.int x3), some (.int x4), some (.int x5)] (w.toList ++ []) h) := m_ev_K _ _ _ _ _ _ _
set_option maxRecDepth 20000 in
theorem eX11_within_63 (d : Nat) (st : Nat → Nat → Int32) (x1 x2 x3 x4 x5 t0 : Int32) : m_ev none d 100 63 [some (.ref 0), some (.int x1), some (.int x2), some (.int x3), some (.int x4), some (.int x5)] [.int t0] (SH, st) = if x3 < t0 then (m_ev none d 100 70 [some (.ref 0), some (.int x1), some (.int x2), some (.int x3), some (.int x4), some (.int x5)] [] (SH, st)) else (m_ev none d 100 70 [some (.ref 0), some (.int x1), some (.int x2), some (.int x3), some (.int (x4 + 1)), some (.int x5)] [] (SH, st)) := m_ev_K _ _ _ _ _ _ _
set_option maxRecDepth 20000 in
theorem eX11_within_70 (d : Nat) (st : Nat → Nat → Int32) (x1 x2 x3 x4 x5 : Int32) : m_ev none d 100 70 [some (.ref 0), some (.int x1), some (.int x2), some (.int x3), some (.int x4), some (.int x5)] [] (SH, st) = m_ev none d 100 30 [some (.ref 0), some (.int x1), some (.int x2), some (.int x3), some (.int x4), some (.int (x5 + 1))] [] (SH, st) := m_ev_K _ _ _ _ _ _ _
set_option maxRecDepth 20000 in
theorem eX11_within_76 (d : Nat) (st : Nat → Nat → Int32) (x1 x2 x3 x4 x5 : Int32) : m_ev none d 100 76 [some (.ref 0), some (.int x1), some (.int x2), some (.int x3), some (.int x4), some (.int x5)] [] (SH, st) = some (some (.int x4), (SH, st)) := m_ev_K _ _ _ _ _ _ _
set_option maxRecDepth 20000 in
theorem eX11_bestAdd_0 (d : Nat) (st : Nat → Nat → Int32) (x1 x2 x3 : Int32) : m_ev none d 101 0 [some (.ref 0), some (.int x1), some (.int x2), some (.int x3), none, none, none, none, none] [] (SH, st) = m_bd (m_evc d 68 [.ref 1, .int x1] (SH, st)) fun w h => m_ev none d 101 8 [some (.ref 0), some (.int x1), some (.int x2), some (.int x3), none, none, none, none, none] (w.toList ++ []) h := m_ev_K _ _ _ _ _ _ _
set_option maxRecDepth 20000 in
theorem eX11_bestAdd_8 (d : Nat) (st : Nat → Nat → Int32) (x1 x2 x3 t0 : Int32) : m_ev none d 101 8 [some (.ref 0), some (.int x1), some (.int x2), some (.int x3), none, none, none, none, none] [.int t0] (SH, st) = if t0 = 0 then (m_ev none d 101 25 [some (.ref 0), some (.int x1), some (.int x2), some (.int x3), none, none, none, none, none] [] (SH, st)) else (m_bd (m_evc d 118 [.ref 0, .int x2, .int x3] (SH, st)) fun w h => m_ev none d 101 17 [some (.ref 0), some (.int x1), some (.int x2), some (.int x3), none, none, none, none, none] (w.toList ++ []) h) := m_ev_K _ _ _ _ _ _ _
set_option maxRecDepth 20000 in
theorem eX11_bestAdd_17 (d : Nat) (st : Nat → Nat → Int32) (x1 x2 x3 t0 : Int32) : m_ev none d 101 17 [some (.ref 0), some (.int x1), some (.int x2), some (.int x3), none, none, none, none, none] [.int t0] (SH, st) = if t0 = 0 then (m_ev none d 101 25 [some (.ref 0), some (.int x1), some (.int x2), some (.int x3), none, none, none, none, none] [] (SH, st)) else (if x1 = x2 then (m_ev none d 101 25 [some (.ref 0), some (.int x1), some (.int x2), some (.int x3), none, none, none, none, none] [] (SH, st)) else (m_ev none d 101 27 [some (.ref 0), some (.int x1), some (.int x2), some (.int x3), none, none, none, none, none] [] (SH, st))) := m_ev_K _ _ _ _ _ _ _
set_option maxRecDepth 20000 in
theorem eX11_bestAdd_25 (d : Nat) (st : Nat → Nat → Int32) (x1 x2 x3 : Int32) : m_ev none d 101 25 [some (.ref 0), some (.int x1), some (.int x2), some (.int x3), none, none, none, none, none] [] (SH, st) = some (some (.int (-1)), (SH, st)) := m_ev_K _ _ _ _ _ _ _
set_option maxRecDepth 20000 in
theorem eX11_bestAdd_27 (d : Nat) (st : Nat → Nat → Int32) (x1 x2 x3 : Int32) : m_ev none d 101 27 [some (.ref 0), some (.int x1), some (.int x2), some (.int x3), none, none, none, none, none] [] (SH, st) = m_ob (m_ix x1 9) fun q1 => m_bd (m_evc d 124 [.ref 0, .int x1, .int x2, .int x3] (SH, st)) fun w h => m_ev none d 101 52 [some (.ref 0), some (.int x1), some (.int x2), some (.int x3), some (.int (st 3 q1)), some (.int (-3)), some (.int 0), none, none] (w.toList ++ []) h := m_ev_K _ _ _ _ _ _ _
set_option maxRecDepth 20000 in
theorem eX11_bestAdd_52 (d : Nat) (st : Nat → Nat → Int32) (x1 x2 x3 x4 x5 x6 t0 : Int32) : m_ev none d 101 52 [some (.ref 0), some (.int x1), some (.int x2), some (.int x3), some (.int x4), some (.int x5), some (.int x6), none, none] [.int t0] (SH, st) = if t0 = 0 then (m_ev none d 101 111 [some (.ref 0), some (.int x1), some (.int x2), some (.int x3), some (.int x4), some (.int x5), some (.int x6), none, none] [] (SH, st)) else (m_ev none d 101 58 [some (.ref 0), some (.int x1), some (.int x2), some (.int x3), some (.int x4), some (.int x5), some (.int x6), some (.int 0), none] [] (SH, st)) := m_ev_K _ _ _ _ _ _ _
set_option maxRecDepth 20000 in
theorem eX11_bestAdd_58 (d : Nat) (st : Nat → Nat → Int32) (x1 x2 x3 x4 x5 x6 x7 : Int32) (x8 : Option Value) : m_ev none d 101 58 [some (.ref 0), some (.int x1), some (.int x2), some (.int x3), some (.int x4), some (.int x5), some (.int x6), some (.int x7), x8] [] (SH, st) = if 99 < x7 then (m_ev none d 101 111 [some (.ref 0), some (.int x1), some (.int x2), some (.int x3), some (.int x4), some (.int x5), some (.int x6), some (.int x7), x8] [] (SH, st)) else (m_ob (m_ix x1 9) fun q1 => m_bd (m_evc d 125 [.ref 0, .int x1] (SH, (m_up st 3 q1 x7))) fun w h => m_ev none d 101 81 [some (.ref 0), some (.int x1), some (.int x2), some (.int x3), some (.int x4), some (.int x5), some (.int x6), some (.int x7), x8] (w.toList ++ []) h) := m_ev_K _ _ _ _ _ _ _
set_option maxRecDepth 20000 in
theorem eX11_bestAdd_81 (d : Nat) (st : Nat → Nat → Int32) (x1 x2 x3 x4 x5 x6 x7 t0 : Int32) (x8 : Option Value) : m_ev none d 101 81 [some (.ref 0), some (.int x1), some (.int x2), some (.int x3), some (.int x4), some (.int x5), some (.int x6), some (.int x7), x8] [.int t0] (SH, st) = if x5 = (-3) then (m_ev none d 101 97 [some (.ref 0), some (.int x1), some (.int x2), some (.int x3), some (.int x4), some (.int x5), some (.int x6), some (.int x7), some (.int t0)] [] (SH, st)) else (if t0 < x6 then (m_ev none d 101 97 [some (.ref 0), some (.int x1), some (.int x2), some (.int x3), some (.int x4), some (.int x5), some (.int x6), some (.int x7), some (.int t0)] [] (SH, st)) else (m_ev none d 101 105 [some (.ref 0), some (.int x1), some (.int x2), some (.int x3), some (.int x4), some (.int x5), some (.int x6), some (.int x7), some (.int t0)] [] (SH, st))) := m_ev_K _ _ _ _ _ _ _
set_option maxRecDepth 20000 in
theorem eX11_bestAdd_97 (d : Nat) (st : Nat → Nat → Int32) (x1 x2 x3 x4 x5 x6 x7 x8 : Int32) : m_ev none d 101 97 [some (.ref 0), some (.int x1), some (.int x2), some (.int x3), some (.int x4), some (.int x5), some (.int x6), some (.int x7), some (.int x8)] [] (SH, st) = m_ev none d 101 105 [some (.ref 0), some (.int x1), some (.int x2), some (.int x3), some (.int x4), some (.int x7), some (.int x8), some (.int x7), some (.int x8)] [] (SH, st) := m_ev_K _ _ _ _ _ _ _
set_option maxRecDepth 20000 in
theorem eX11_bestAdd_105 (d : Nat) (st : Nat → Nat → Int32) (x1 x2 x3 x4 x5 x6 x7 x8 : Int32) : m_ev none d 101 105 [some (.ref 0), some (.int x1), some (.int x2), some (.int x3), some (.int x4), some (.int x5), some (.int x6), some (.int x7), some (.int x8)] [] (SH, st) = m_ev none d 101 58 [some (.ref 0), some (.int x1), some (.int x2), some (.int x3), some (.int x4), some (.int x5), some (.int x6), some (.int (x7 + 1)), some (.int x8)] [] (SH, st) := m_ev_K _ _ _ _ _ _ _
set_option maxRecDepth 20000 in
theorem eX11_bestAdd_111 (d : Nat) (st : Nat → Nat → Int32) (x1 x2 x3 x4 x5 x6 : Int32) (x7 x8 : Option Value) : m_ev none d 101 111 [some (.ref 0), some (.int x1), some (.int x2), some (.int x3), some (.int x4), some (.int x5), some (.int x6), x7, x8] [] (SH, st) = m_ob (m_ix x1 9) fun q1 => some (some (.int x5), (SH, (m_up st 3 q1 x4))) := m_ev_K _ _ _ _ _ _ _
set_option maxRecDepth 20000 in
theorem eX11_clocks_0 (d : Nat) (st : Nat → Nat → Int32) (x1 x2 : Int32) : m_ev none d 102 0 [some (.ref 0), some (.int x1), some (.int x2), none] [] (SH, st) = m_bd (m_evc d 119 [.ref 0, .int x1] (SH, st)) fun w h => m_ev none d 102 5 [some (.ref 0), some (.int x1), some (.int x2), none] (w.toList ++ []) h := m_ev_K _ _ _ _ _ _ _
set_option maxRecDepth 20000 in
theorem eX11_clocks_5 (d : Nat) (st : Nat → Nat → Int32) (x1 x2 t0 : Int32) : m_ev none d 102 5 [some (.ref 0), some (.int x1), some (.int x2), none] [.int t0] (SH, st) = if t0 = 0 then (m_ev none d 102 15 [some (.ref 0), some (.int x1), some (.int x2), none] [] (SH, st)) else (m_bd (m_evc d 115 [.int x2] (SH, st)) fun w h => m_ev none d 102 12 [some (.ref 0), some (.int x1), some (.int x2), none] (w.toList ++ []) h) := m_ev_K _ _ _ _ _ _ _
set_option maxRecDepth 20000 in
theorem eX11_clocks_12 (d : Nat) (st : Nat → Nat → Int32) (x1 x2 t0 : Int32) : m_ev none d 102 12 [some (.ref 0), some (.int x1), some (.int x2), none] [.int t0] (SH, st) = if t0 = 0 then (m_ev none d 102 15 [some (.ref 0), some (.int x1), some (.int x2), none] [] (SH, st)) else (m_ev none d 102 17 [some (.ref 0), some (.int x1), some (.int x2), none] [] (SH, st)) := m_ev_K _ _ _ _ _ _ _
set_option maxRecDepth 20000 in
theorem eX11_clocks_15 (d : Nat) (st : Nat → Nat → Int32) (x1 x2 : Int32) : m_ev none d 102 15 [some (.ref 0), some (.int x1), some (.int x2), none] [] (SH, st) = some (some (.int (-1)), (SH, st)) := m_ev_K _ _ _ _ _ _ _
set_option maxRecDepth 20000 in
theorem eX11_clocks_17 (d : Nat) (st : Nat → Nat → Int32) (x1 x2 : Int32) : m_ev none d 102 17 [some (.ref 0), some (.int x1), some (.int x2), none] [] (SH, st) = m_bd (m_evc d 1 [.ref 44, .int (st 1 7)] (SH, st)) fun w h => m_ev none d 102 31 [some (.ref 0), some (.int x1), some (.int x2), none] (w.toList ++ []) h := m_ev_K _ _ _ _ _ _ _
set_option maxRecDepth 20000 in
theorem eX11_clocks_31 (d : Nat) (st : Nat → Nat → Int32) (x1 x2 : Int32) : m_ev none d 102 31 [some (.ref 0), some (.int x1), some (.int x2), none] [] (SH, st) = m_bd (m_evc d 4 [.ref 44, .int x1, .int x2] (SH, st)) fun w h => m_ev none d 102 40 [some (.ref 0), some (.int x1), some (.int x2), none] (w.toList ++ []) h := m_ev_K _ _ _ _ _ _ _
set_option maxRecDepth 20000 in
theorem eX11_clocks_40 (d : Nat) (st : Nat → Nat → Int32) (x1 x2 t0 : Int32) : m_ev none d 102 40 [some (.ref 0), some (.int x1), some (.int x2), none] [.int t0] (SH, st) = if t0 < 0 then (m_ev none d 102 51 [some (.ref 0), some (.int x1), some (.int x2), some (.int t0)] [.int (-3)] (SH, st)) else (m_ev none d 102 50 [some (.ref 0), some (.int x1), some (.int x2), some (.int t0)] [] (SH, st)) := m_ev_K _ _ _ _ _ _ _
set_option maxRecDepth 20000 in
theorem eX11_clocks_50 (d : Nat) (st : Nat → Nat → Int32) (x1 x2 x3 : Int32) : m_ev none d 102 50 [some (.ref 0), some (.int x1), some (.int x2), some (.int x3)] [] (SH, st) = m_ev none d 102 51 [some (.ref 0), some (.int x1), some (.int x2), some (.int x3)] [.int x3] (SH, st) := m_ev_K _ _ _ _ _ _ _
set_option maxRecDepth 20000 in
theorem eX11_clocks_51 (d : Nat) (st : Nat → Nat → Int32) (x1 x2 x3 t0 : Int32) : m_ev none d 102 51 [some (.ref 0), some (.int x1), some (.int x2), some (.int x3)] [.int t0] (SH, st) = some (some (.int t0), (SH, st)) := m_ev_K _ _ _ _ _ _ _
set_option maxRecDepth 20000 in
theorem eX11_fewest_0 (d : Nat) (st : Nat → Nat → Int32) (x1 x2 : Int32) : m_ev none d 103 0 [some (.ref 0), some (.int x1), some (.int x2), none, none, none, none] [] (SH, st) = m_bd (m_evc d 117 [.int x1] (SH, st)) fun w h => m_ev none d 103 4 [some (.ref 0), some (.int x1), some (.int x2), none, none, none, none] (w.toList ++ []) h := m_ev_K _ _ _ _ _ _ _
set_option maxRecDepth 20000 in
theorem eX11_fewest_4 (d : Nat) (st : Nat → Nat → Int32) (x1 x2 t0 : Int32) : m_ev none d 103 4 [some (.ref 0), some (.int x1), some (.int x2), none, none, none, none] [.int t0] (SH, st) = if t0 = 0 then (m_ev none d 103 14 [some (.ref 0), some (.int x1), some (.int x2), none, none, none, none] [] (SH, st)) else (m_bd (m_evc d 115 [.int x2] (SH, st)) fun w h => m_ev none d 103 11 [some (.ref 0), some (.int x1), some (.int x2), none, none, none, none] (w.toList ++ []) h) := m_ev_K _ _ _ _ _ _ _
set_option maxRecDepth 20000 in
theorem eX11_fewest_11 (d : Nat) (st : Nat → Nat → Int32) (x1 x2 t0 : Int32) : m_ev none d 103 11 [some (.ref 0), some (.int x1), some (.int x2), none, none, none, none] [.int t0] (SH, st) = if t0 = 0 then (m_ev none d 103 14 [some (.ref 0), some (.int x1), some (.int x2), none, none, none, none] [] (SH, st)) else (m_ev none d 103 16 [some (.ref 0), some (.int x1), some (.int x2), none, none, none, none] [] (SH, st)) := m_ev_K _ _ _ _ _ _ _
set_option maxRecDepth 20000 in
theorem eX11_fewest_14 (d : Nat) (st : Nat → Nat → Int32) (x1 x2 : Int32) : m_ev none d 103 14 [some (.ref 0), some (.int x1), some (.int x2), none, none, none, none] [] (SH, st) = some (some (.int (-1)), (SH, st)) := m_ev_K _ _ _ _ _ _ _
set_option maxRecDepth 20000 in
theorem eX11_fewest_16 (d : Nat) (st : Nat → Nat → Int32) (x1 x2 : Int32) : m_ev none d 103 16 [some (.ref 0), some (.int x1), some (.int x2), none, none, none, none] [] (SH, st) = m_bd (m_evc d 1 [.ref 44, .int (st 1 7)] (SH, st)) fun w h => m_ev none d 103 30 [some (.ref 0), some (.int x1), some (.int x2), none, none, none, none] (w.toList ++ []) h := m_ev_K _ _ _ _ _ _ _
set_option maxRecDepth 20000 in
theorem eX11_fewest_30 (d : Nat) (st : Nat → Nat → Int32) (x1 x2 : Int32) : m_ev none d 103 30 [some (.ref 0), some (.int x1), some (.int x2), none, none, none, none] [] (SH, st) = m_ev none d 103 40 [some (.ref 0), some (.int x1), some (.int x2), some (.int (-3)), some (.int 10), some (.int 1), none] [] (SH, st) := m_ev_K _ _ _ _ _ _ _
set_option maxRecDepth 20000 in
theorem eX11_fewest_40 (d : Nat) (st : Nat → Nat → Int32) (x1 x2 x3 x4 x5 : Int32) (x6 : Option Value) : m_ev none d 103 40 [some (.ref 0), some (.int x1), some (.int x2), some (.int x3), some (.int x4), some (.int x5), x6] [] (SH, st) = m_bd (m_evc d 119 [.ref 0, .int x5] (SH, st)) fun w h => m_ev none d 103 46 [some (.ref 0), some (.int x1), some (.int x2), some (.int x3), some (.int x4), some (.int x5), x6] (w.toList ++ []) h := m_ev_K _ _ _ _ _ _ _
set_option maxRecDepth 20000 in
theorem eX11_fewest_46 (d : Nat) (st : Nat → Nat → Int32) (x1 x2 x3 x4 x5 t0 : Int32) (x6 : Option Value) : m_ev none d 103 46 [some (.ref 0), some (.int x1), some (.int x2), some (.int x3), some (.int x4), some (.int x5), x6] [.int t0] (SH, st) = if t0 = 0 then (m_ev none d 103 106 [some (.ref 0), some (.int x1), some (.int x2), some (.int x3), some (.int x4), some (.int x5), x6] [] (SH, st)) else (if x5 < 512 then (m_bd (m_evc d 4 [.ref 44, .int x5, .int x2] (SH, st)) fun w h => m_ev none d 103 67 [some (.ref 0), some (.int x1), some (.int x2), some (.int x3), some (.int x4), some (.int x5), x6] (w.toList ++ []) h) else (m_ev none d 103 106 [some (.ref 0), some (.int x1), some (.int x2), some (.int x3), some (.int x4), some (.int x5), x6] [] (SH, st))) := m_ev_K _ _ _ _ _ _ _
set_option maxRecDepth 20000 in
theorem eX11_fewest_67 (d : Nat) (st : Nat → Nat → Int32) (x1 x2 x3 x4 x5 t0 : Int32) (x6 : Option Value) : m_ev none d 103 67 [some (.ref 0), some (.int x1), some (.int x2), some (.int x3), some (.int x4), some (.int x5), x6] [.int t0] (SH, st) = if t0 < 0 then (m_ev none d 103 100 [some (.ref 0), some (.int x1), some (.int x2), some (.int x3), some (.int x4), some (.int x5), some (.int t0)] [] (SH, st)) else (if x1 < t0 then (m_ev none d 103 100 [some (.ref 0), some (.int x1), some (.int x2), some (.int x3), some (.int x4), some (.int x5), some (.int t0)] [] (SH, st)) else (m_bd (m_evc d 266 [.int x5] (SH, st)) fun w h => m_ev none d 103 85 [some (.ref 0), some (.int x1), some (.int x2), some (.int x3), some (.int x4), some (.int x5), some (.int t0)] (w.toList ++ []) h)) := m_ev_K _ _ _ _ _ _ _
set_option maxRecDepth 20000 in
theorem eX11_fewest_85 (d : Nat) (st : Nat → Nat → Int32) (x1 x2 x3 x4 x5 x6 t0 : Int32) : m_ev none d 103 85 [some (.ref 0), some (.int x1), some (.int x2), some (.int x3), some (.int x4), some (.int x5), some (.int x6)] [.int t0] (SH, st) = if t0 < x4 then (m_bd (m_evc d 266 [.int x5] (SH, st)) fun w h => m_ev none d 103 98 [some (.ref 0), some (.int x1), some (.int x2), some (.int x5), some (.int x4), some (.int x5), some (.int x6)] (w.toList ++ []) h) else (m_ev none d 103 100 [some (.ref 0), some (.int x1), some (.int x2), some (.int x3), some (.int x4), some (.int x5), some (.int x6)] [] (SH, st)) := m_ev_K _ _ _ _ _ _ _
set_option maxRecDepth 20000 in
theorem eX11_fewest_98 (d : Nat) (st : Nat → Nat → Int32) (x1 x2 x3 x4 x5 x6 t0 : Int32) : m_ev none d 103 98 [some (.ref 0), some (.int x1), some (.int x2), some (.int x3), some (.int x4), some (.int x5), some (.int x6)] [.int t0] (SH, st) = m_ev none d 103 100 [some (.ref 0), some (.int x1), some (.int x2), some (.int x3), some (.int t0), some (.int x5), some (.int x6)] [] (SH, st) := m_ev_K _ _ _ _ _ _ _
set_option maxRecDepth 20000 in
theorem eX11_fewest_100 (d : Nat) (st : Nat → Nat → Int32) (x1 x2 x3 x4 x5 x6 : Int32) : m_ev none d 103 100 [some (.ref 0), some (.int x1), some (.int x2), some (.int x3), some (.int x4), some (.int x5), some (.int x6)] [] (SH, st) = m_ev none d 103 40 [some (.ref 0), some (.int x1), some (.int x2), some (.int x3), some (.int x4), some (.int (x5 + 1)), some (.int x6)] [] (SH, st) := m_ev_K _ _ _ _ _ _ _
set_option maxRecDepth 20000 in
theorem eX11_fewest_106 (d : Nat) (st : Nat → Nat → Int32) (x1 x2 x3 x4 x5 : Int32) (x6 : Option Value) : m_ev none d 103 106 [some (.ref 0), some (.int x1), some (.int x2), some (.int x3), some (.int x4), some (.int x5), x6] [] (SH, st) = some (some (.int x3), (SH, st)) := m_ev_K _ _ _ _ _ _ _
set_option maxRecDepth 20000 in
theorem eX11_crossed_0 (d : Nat) (st : Nat → Nat → Int32) (x1 x2 : Int32) : m_ev none d 104 0 [some (.ref 0), some (.int x1), some (.int x2), none] [] (SH, st) = m_bd (m_evc d 115 [.int x1] (SH, st)) fun w h => m_ev none d 104 4 [some (.ref 0), some (.int x1), some (.int x2), none] (w.toList ++ []) h := m_ev_K _ _ _ _ _ _ _
set_option maxRecDepth 20000 in
theorem eX11_crossed_4 (d : Nat) (st : Nat → Nat → Int32) (x1 x2 t0 : Int32) : m_ev none d 104 4 [some (.ref 0), some (.int x1), some (.int x2), none] [.int t0] (SH, st) = if t0 = 0 then (m_ev none d 104 14 [some (.ref 0), some (.int x1), some (.int x2), none] [] (SH, st)) else (m_bd (m_evc d 115 [.int x2] (SH, st)) fun w h => m_ev none d 104 11 [some (.ref 0), some (.int x1), some (.int x2), none] (w.toList ++ []) h) := m_ev_K _ _ _ _ _ _ _
set_option maxRecDepth 20000 in
theorem eX11_crossed_11 (d : Nat) (st : Nat → Nat → Int32) (x1 x2 t0 : Int32) : m_ev none d 104 11 [some (.ref 0), some (.int x1), some (.int x2), none] [.int t0] (SH, st) = if t0 = 0 then (m_ev none d 104 14 [some (.ref 0), some (.int x1), some (.int x2), none] [] (SH, st)) else (m_ev none d 104 16 [some (.ref 0), some (.int x1), some (.int x2), none] [] (SH, st)) := m_ev_K _ _ _ _ _ _ _
set_option maxRecDepth 20000 in
theorem eX11_crossed_14 (d : Nat) (st : Nat → Nat → Int32) (x1 x2 : Int32) : m_ev none d 104 14 [some (.ref 0), some (.int x1), some (.int x2), none] [] (SH, st) = some (some (.int (-1)), (SH, st)) := m_ev_K _ _ _ _ _ _ _
set_option maxRecDepth 20000 in
theorem eX11_crossed_16 (d : Nat) (st : Nat → Nat → Int32) (x1 x2 : Int32) : m_ev none d 104 16 [some (.ref 0), some (.int x1), some (.int x2), none] [] (SH, st) = if (st 1 0) = 0 then (some (some (.int (-3)), (SH, st))) else (m_ev none d 104 29 [some (.ref 0), some (.int x1), some (.int x2), none] [] (SH, st)) := m_ev_K _ _ _ _ _ _ _
set_option maxRecDepth 20000 in
theorem eX11_crossed_29 (d : Nat) (st : Nat → Nat → Int32) (x1 x2 : Int32) : m_ev none d 104 29 [some (.ref 0), some (.int x1), some (.int x2), none] [] (SH, st) = m_bd (m_evc d 120 [.ref 0, .int 0, .int x1] (SH, st)) fun w h => m_ev none d 104 35 [some (.ref 0), some (.int x1), some (.int x2), none] (w.toList ++ []) h := m_ev_K _ _ _ _ _ _ _
set_option maxRecDepth 20000 in
theorem eX11_crossed_35 (d : Nat) (st : Nat → Nat → Int32) (x1 x2 : Int32) : m_ev none d 104 35 [some (.ref 0), some (.int x1), some (.int x2), none] [] (SH, st) = m_bd (m_evc d 1 [.ref 49, .int (st 1 7)] (SH, st)) fun w h => m_ev none d 104 49 [some (.ref 0), some (.int x1), some (.int x2), none] (w.toList ++ []) h := m_ev_K _ _ _ _ _ _ _
set_option maxRecDepth 20000 in
theorem eX11_crossed_49 (d : Nat) (st : Nat → Nat → Int32) (x1 x2 : Int32) : m_ev none d 104 49 [some (.ref 0), some (.int x1), some (.int x2), none] [] (SH, st) = m_bd (m_evc d 2 [.ref 49, .int ((st 1 0) - 1), .int x2] (SH, st)) fun w h => m_ev none d 104 66 [some (.ref 0), some (.int x1), some (.int x2), none] (w.toList ++ []) h := m_ev_K _ _ _ _ _ _ _
set_option maxRecDepth 20000 in
theorem eX11_crossed_66 (d : Nat) (st : Nat → Nat → Int32) (x1 x2 : Int32) : m_ev none d 104 66 [some (.ref 0), some (.int x1), some (.int x2), none] [] (SH, st) = m_ev none d 104 68 [some (.ref 0), some (.int x1), some (.int x2), some (.int 0)] [] (SH, st) := m_ev_K _ _ _ _ _ _ _
set_option maxRecDepth 20000 in
theorem eX11_crossed_68 (d : Nat) (st : Nat → Nat → Int32) (x1 x2 x3 : Int32) : m_ev none d 104 68 [some (.ref 0), some (.int x1), some (.int x2), some (.int x3)] [] (SH, st) = if x3 < (st 1 0) then (m_bd (m_evc d 10 [.ref 44, .int x3] (SH, st)) fun w h => m_ev none d 104 87 [some (.ref 0), some (.int x1), some (.int x2), some (.int x3)] (w.toList ++ []) h) else (m_ev none d 104 130 [some (.ref 0), some (.int x1), some (.int x2), some (.int x3)] [] (SH, st)) := m_ev_K _ _ _ _ _ _ _
set_option maxRecDepth 20000 in
theorem eX11_crossed_87 (d : Nat) (st : Nat → Nat → Int32) (x1 x2 x3 t0 : Int32) : m_ev none d 104 87 [some (.ref 0), some (.int x1), some (.int x2), some (.int x3)] [.int t0] (SH, st) = if t0 = 0 then (m_ev none d 104 124 [some (.ref 0), some (.int x1), some (.int x2), some (.int x3)] [] (SH, st)) else (m_bd (m_evc d 10 [.ref 49, .int x3] (SH, st)) fun w h => m_ev none d 104 98 [some (.ref 0), some (.int x1), some (.int x2), some (.int x3)] (w.toList ++ []) h) := m_ev_K _ _ _ _ _ _ _
set_option maxRecDepth 20000 in
theorem eX11_crossed_98 (d : Nat) (st : Nat → Nat → Int32) (x1 x2 x3 t0 : Int32) : m_ev none d 104 98 [some (.ref 0), some (.int x1), some (.int x2), some (.int x3)] [.int t0] (SH, st) = if t0 = 0 then (m_ev none d 104 124 [some (.ref 0), some (.int x1), some (.int x2), some (.int x3)] [] (SH, st)) else (m_ob (m_ix x3 9) fun q1 => m_ob (m_ix x3 9) fun q2 => if (st 47 q2) < (st 52 q1) then (m_ev none d 104 124 [some (.ref 0), some (.int x1), some (.int x2), some (.int x3)] [] (SH, st)) else (some (some (.int x3), (SH, st)))) := m_ev_K _ _ _ _ _ _ _
set_option maxRecDepth 20000 in
theorem eX11_crossed_124 (d : Nat) (st : Nat → Nat → Int32) (x1 x2 x3 : Int32) : m_ev none d 104 124 [some (.ref 0), some (.int x1), some (.int x2), some (.int x3)] [] (SH, st) = m_ev none d 104 68 [some (.ref 0), some (.int x1), some (.int x2), some (.int (x3 + 1))] [] (SH, st) := m_ev_K _ _ _ _ _ _ _
set_option maxRecDepth 20000 in
theorem eX11_crossed_130 (d : Nat) (st : Nat → Nat → Int32) (x1 x2 x3 : Int32) : m_ev none d 104 130 [some (.ref 0), some (.int x1), some (.int x2), some (.int x3)] [] (SH, st) = some (some (.int (-3)), (SH, st)) := m_ev_K _ _ _ _ _ _ _
set_option maxRecDepth 20000 in
theorem eX11_noon_0 (d : Nat) (st : Nat → Nat → Int32) (x1 x2 : Int32) : m_ev none d 105 0 [some (.ref 0), some (.int x1), some (.int x2)] [] (SH, st) = m_bd (m_evc d 68 [.ref 1, .int x1] (SH, st)) fun w h => m_ev none d 105 8 [some (.ref 0), some (.int x1), some (.int x2)] (w.toList ++ []) h := m_ev_K _ _ _ _ _ _ _
