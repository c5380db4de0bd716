set_option maxRecDepth 20000 in
theorem eX12_adds_37 (d : Nat) (st : Nat → Nat → Int32) (x1 x2 x3 x4 : Int32) : m_ev none d 250 37 [some (.ref 85), some (.int x1), some (.int x2), some (.int x3), some (.int x4), none, none] [] (SH, st) = m_ev none d 250 43 [some (.ref 85), some (.int x1), some (.int x2), some (.int x3), some (.int x4), some (.int 0), some (.int 0)] [] (SH, st) := m_ev_K _ _ _ _ _ _ _
set_option maxRecDepth 20000 in
theorem eX12_adds_43 (d : Nat) (st : Nat → Nat → Int32) (x1 x2 x3 x4 x5 x6 : Int32) : m_ev none d 250 43 [some (.ref 85), some (.int x1), some (.int x2), some (.int x3), some (.int x4), some (.int x5), some (.int x6)] [] (SH, st) = if x6 < x3 then (m_ob (m_ix x1 4) fun q1 => m_bd (m_evc d 155 [.long ((x2 : Int32).toInt64 + (x6 : Int32).toInt64), .long 0, .long ((((st 96 q1) - 1) : Int32).toInt64)] (SH, st)) fun w h => m_ev none d 250 68 [some (.ref 85), some (.int x1), some (.int x2), some (.int x3), some (.int x4), some (.int x5), some (.int x6)] (w.toList ++ []) h) else (m_ev none d 250 114 [some (.ref 85), some (.int x1), some (.int x2), some (.int x3), some (.int x4), some (.int x5), some (.int x6)] [] (SH, st)) := m_ev_K _ _ _ _ _ _ _
set_option maxRecDepth 20000 in
theorem eX12_adds_68 (d : Nat) (st : Nat → Nat → Int32) (x1 x2 x3 x4 x5 x6 t0 : Int32) : m_ev none d 250 68 [some (.ref 85), some (.int x1), some (.int x2), some (.int x3), some (.int x4), some (.int x5), some (.int x6)] [.int t0] (SH, st) = if t0 = 0 then (some (some (.int (-12)), (SH, st))) else (m_ev none d 250 74 [some (.ref 85), some (.int x1), some (.int x2), some (.int x3), some (.int x4), some (.int x5), some (.int x6)] [] (SH, st)) := m_ev_K _ _ _ _ _ _ _
set_option maxRecDepth 20000 in
theorem eX12_adds_74 (d : Nat) (st : Nat → Nat → Int32) (x1 x2 x3 x4 x5 x6 : Int32) : m_ev none d 250 74 [some (.ref 85), some (.int x1), some (.int x2), some (.int x3), some (.int x4), some (.int x5), some (.int x6)] [] (SH, st) = m_ob (m_ix (((40 * x1) + x2) + x6) 160) fun q1 => m_bd (m_evc d 173 [.ref 85, .int x6, .int 1, .int (st 97 q1)] (SH, st)) fun w h => m_ev none d 250 97 [some (.ref 85), some (.int x1), some (.int x2), some (.int x3), some (.int x4), some (.int x5), some (.int x6)] (w.toList ++ [.int x5]) h := m_ev_K _ _ _ _ _ _ _
set_option maxRecDepth 20000 in
theorem eX12_adds_97 (d : Nat) (st : Nat → Nat → Int32) (x1 x2 x3 x4 x5 x6 t0 t1 : Int32) : m_ev none d 250 97 [some (.ref 85), some (.int x1), some (.int x2), some (.int x3), some (.int x4), some (.int x5), some (.int x6)] [.int t0, .int t1] (SH, st) = if t0 < 0 then (m_ev none d 250 104 [some (.ref 85), some (.int x1), some (.int x2), some (.int x3), some (.int x4), some (.int x5), some (.int x6)] [.int t1] (SH, st)) else (m_ev none d 250 105 [some (.ref 85), some (.int x1), some (.int x2), some (.int x3), some (.int x4), some (.int x5), some (.int x6)] [.int 1, .int t1] (SH, st)) := m_ev_K _ _ _ _ _ _ _
set_option maxRecDepth 20000 in
theorem eX12_adds_104 (d : Nat) (st : Nat → Nat → Int32) (x1 x2 x3 x4 x5 x6 t0 : Int32) : m_ev none d 250 104 [some (.ref 85), some (.int x1), some (.int x2), some (.int x3), some (.int x4), some (.int x5), some (.int x6)] [.int t0] (SH, st) = m_ev none d 250 105 [some (.ref 85), some (.int x1), some (.int x2), some (.int x3), some (.int x4), some (.int x5), some (.int x6)] [.int 0, .int t0] (SH, st) := m_ev_K _ _ _ _ _ _ _
set_option maxRecDepth 20000 in
theorem eX12_adds_105 (d : Nat) (st : Nat → Nat → Int32) (x1 x2 x3 x4 x5 x6 t0 t1 : Int32) : m_ev none d 250 105 [some (.ref 85), some (.int x1), some (.int x2), some (.int x3), some (.int x4), some (.int x5), some (.int x6)] [.int t0, .int t1] (SH, st) = m_ev none d 250 43 [some (.ref 85), some (.int x1), some (.int x2), some (.int x3), some (.int x4), some (.int (t1 + t0)), some (.int (x6 + 1))] [] (SH, st) := m_ev_K _ _ _ _ _ _ _
set_option maxRecDepth 20000 in
theorem eX12_adds_114 (d : Nat) (st : Nat → Nat → Int32) (x1 x2 x3 x4 x5 x6 : Int32) : m_ev none d 250 114 [some (.ref 85), some (.int x1), some (.int x2), some (.int x3), some (.int x4), some (.int x5), some (.int x6)] [] (SH, st) = some (some (.int x5), (SH, st)) := m_ev_K _ _ _ _ _ _ _
set_option maxRecDepth 20000 in
theorem eX12_shelf_0 (d : Nat) (st : Nat → Nat → Int32) (x1 x2 x3 : Int32) : m_ev none d 251 0 [some (.ref 85), some (.int x1), some (.int x2), some (.int x3)] [] (SH, st) = m_bd (m_evc d 244 [.int x1] (SH, st)) fun w h => m_ev none d 251 4 [some (.ref 85), some (.int x1), some (.int x2), some (.int x3)] (w.toList ++ []) h := m_ev_K _ _ _ _ _ _ _
set_option maxRecDepth 20000 in
theorem eX12_shelf_4 (d : Nat) (st : Nat → Nat → Int32) (x1 x2 x3 t0 : Int32) : m_ev none d 251 4 [some (.ref 85), some (.int x1), some (.int x2), some (.int x3)] [.int t0] (SH, st) = if t0 = 0 then (m_ev none d 251 43 [some (.ref 85), some (.int x1), some (.int x2), some (.int x3)] [] (SH, st)) else (m_bd (m_evc d 155 [.long ((x2 : Int32).toInt64), .long 0, .long 2] (SH, st)) fun w h => m_ev none d 251 16 [some (.ref 85), some (.int x1), some (.int x2), some (.int x3)] (w.toList ++ []) h) := m_ev_K _ _ _ _ _ _ _
set_option maxRecDepth 20000 in
theorem eX12_shelf_16 (d : Nat) (st : Nat → Nat → Int32) (x1 x2 x3 t0 : Int32) : m_ev none d 251 16 [some (.ref 85), some (.int x1), some (.int x2), some (.int x3)] [.int t0] (SH, st) = if t0 = 0 then (m_ev none d 251 43 [some (.ref 85), some (.int x1), some (.int x2), some (.int x3)] [] (SH, st)) else (if x2 = 0 then (m_bd (m_evc d 156 [.ref 85, .int x3] (SH, st)) fun w h => m_ev none d 251 28 [some (.ref 85), some (.int x1), some (.int x2), some (.int x3)] (w.toList ++ []) h) else (m_ev none d 251 31 [some (.ref 85), some (.int x1), some (.int x2), some (.int x3)] [] (SH, st))) := m_ev_K _ _ _ _ _ _ _
set_option maxRecDepth 20000 in
theorem eX12_shelf_28 (d : Nat) (st : Nat → Nat → Int32) (x1 x2 x3 t0 : Int32) : m_ev none d 251 28 [some (.ref 85), some (.int x1), some (.int x2), some (.int x3)] [.int t0] (SH, st) = if t0 = 0 then (m_ev none d 251 43 [some (.ref 85), some (.int x1), some (.int x2), some (.int x3)] [] (SH, st)) else (m_ev none d 251 31 [some (.ref 85), some (.int x1), some (.int x2), some (.int x3)] [] (SH, st)) := m_ev_K _ _ _ _ _ _ _
set_option maxRecDepth 20000 in
theorem eX12_shelf_31 (d : Nat) (st : Nat → Nat → Int32) (x1 x2 x3 : Int32) : m_ev none d 251 31 [some (.ref 85), some (.int x1), some (.int x2), some (.int x3)] [] (SH, st) = if x2 = 1 then (m_bd (m_evc d 244 [.int x3] (SH, st)) fun w h => m_ev none d 251 40 [some (.ref 85), some (.int x1), some (.int x2), some (.int x3)] (w.toList ++ []) h) else (m_ev none d 251 45 [some (.ref 85), some (.int x1), some (.int x2), some (.int x3)] [] (SH, st)) := m_ev_K _ _ _ _ _ _ _
set_option maxRecDepth 20000 in
theorem eX12_shelf_40 (d : Nat) (st : Nat → Nat → Int32) (x1 x2 x3 t0 : Int32) : m_ev none d 251 40 [some (.ref 85), some (.int x1), some (.int x2), some (.int x3)] [.int t0] (SH, st) = if t0 = 0 then (m_ev none d 251 43 [some (.ref 85), some (.int x1), some (.int x2), some (.int x3)] [] (SH, st)) else (m_ev none d 251 45 [some (.ref 85), some (.int x1), some (.int x2), some (.int x3)] [] (SH, st)) := m_ev_K _ _ _ _ _ _ _
set_option maxRecDepth 20000 in
theorem eX12_shelf_43 (d : Nat) (st : Nat → Nat → Int32) (x1 x2 x3 : Int32) : m_ev none d 251 43 [some (.ref 85), some (.int x1), some (.int x2), some (.int x3)] [] (SH, st) = some (some (.int (-1)), (SH, st)) := m_ev_K _ _ _ _ _ _ _
set_option maxRecDepth 20000 in
theorem eX12_shelf_45 (d : Nat) (st : Nat → Nat → Int32) (x1 x2 x3 : Int32) : m_ev none d 251 45 [some (.ref 85), some (.int x1), some (.int x2), some (.int x3)] [] (SH, st) = if x2 = 0 then (m_ev none d 251 77 [some (.ref 85), some (.int x1), some (.int x2), some (.int x3)] [.int 1, .int x1, .ref 98] (SH, st)) else (m_ev none d 251 58 [some (.ref 85), some (.int x1), some (.int x2), some (.int x3)] [.int x1, .ref 98] (SH, st)) := m_ev_K _ _ _ _ _ _ _
set_option maxRecDepth 20000 in
theorem eX12_shelf_58 (d : Nat) (st : Nat → Nat → Int32) (x1 x2 x3 t0 : Int32) : m_ev none d 251 58 [some (.ref 85), some (.int x1), some (.int x2), some (.int x3)] [.int t0, .ref 98] (SH, st) = if x2 = 1 then (m_ob (m_ix x3 4) fun q1 => if (st 95 q1) < 0 then (m_ev none d 251 76 [some (.ref 85), some (.int x1), some (.int x2), some (.int x3)] [.int t0, .ref 98] (SH, st)) else (m_ev none d 251 77 [some (.ref 85), some (.int x1), some (.int x2), some (.int x3)] [.int 2, .int t0, .ref 98] (SH, st))) else (m_ev none d 251 76 [some (.ref 85), some (.int x1), some (.int x2), some (.int x3)] [.int t0, .ref 98] (SH, st)) := m_ev_K _ _ _ _ _ _ _
set_option maxRecDepth 20000 in
theorem eX12_shelf_76 (d : Nat) (st : Nat → Nat → Int32) (x1 x2 x3 t0 : Int32) : m_ev none d 251 76 [some (.ref 85), some (.int x1), some (.int x2), some (.int x3)] [.int t0, .ref 98] (SH, st) = m_ev none d 251 77 [some (.ref 85), some (.int x1), some (.int x2), some (.int x3)] [.int 0, .int t0, .ref 98] (SH, st) := m_ev_K _ _ _ _ _ _ _
set_option maxRecDepth 20000 in
theorem eX12_shelf_77 (d : Nat) (st : Nat → Nat → Int32) (x1 x2 x3 t0 t1 : Int32) : m_ev none d 251 77 [some (.ref 85), some (.int x1), some (.int x2), some (.int x3)] [.int t0, .int t1, .ref 98] (SH, st) = m_ob (m_ix t1 4) fun q1 => if x2 = 0 then (m_ev none d 251 106 [some (.ref 85), some (.int x1), some (.int x2), some (.int x3)] [.int x3, .int x1, .ref 99] (SH, (m_up st 98 q1 t0))) else (m_ev none d 251 91 [some (.ref 85), some (.int x1), some (.int x2), some (.int x3)] [.int x1, .ref 99] (SH, (m_up st 98 q1 t0))) := m_ev_K _ _ _ _ _ _ _
set_option maxRecDepth 20000 in
theorem eX12_shelf_91 (d : Nat) (st : Nat → Nat → Int32) (x1 x2 x3 t0 : Int32) : m_ev none d 251 91 [some (.ref 85), some (.int x1), some (.int x2), some (.int x3)] [.int t0, .ref 99] (SH, st) = if x2 = 1 then (m_ob (m_ix x3 4) fun q1 => m_ev none d 251 106 [some (.ref 85), some (.int x1), some (.int x2), some (.int x3)] [.int (st 96 q1), .int t0, .ref 99] (SH, st)) else (m_ev none d 251 105 [some (.ref 85), some (.int x1), some (.int x2), some (.int x3)] [.int t0, .ref 99] (SH, st)) := m_ev_K _ _ _ _ _ _ _
set_option maxRecDepth 20000 in
theorem eX12_shelf_105 (d : Nat) (st : Nat → Nat → Int32) (x1 x2 x3 t0 : Int32) : m_ev none d 251 105 [some (.ref 85), some (.int x1), some (.int x2), some (.int x3)] [.int t0, .ref 99] (SH, st) = m_ev none d 251 106 [some (.ref 85), some (.int x1), some (.int x2), some (.int x3)] [.int 0, .int t0, .ref 99] (SH, st) := m_ev_K _ _ _ _ _ _ _
set_option maxRecDepth 20000 in
theorem eX12_shelf_106 (d : Nat) (st : Nat → Nat → Int32) (x1 x2 x3 t0 t1 : Int32) : m_ev none d 251 106 [some (.ref 85), some (.int x1), some (.int x2), some (.int x3)] [.int t0, .int t1, .ref 99] (SH, st) = m_ob (m_ix t1 4) fun q1 => if x2 = 1 then (m_ob (m_ix x3 4) fun q2 => m_ev none d 251 127 [some (.ref 85), some (.int x1), some (.int x2), some (.int x3)] [.int (st 95 q2), .int x1, .ref 100] (SH, (m_up st 99 q1 t0))) else (m_ev none d 251 126 [some (.ref 85), some (.int x1), some (.int x2), some (.int x3)] [.int x1, .ref 100] (SH, (m_up st 99 q1 t0))) := m_ev_K _ _ _ _ _ _ _
set_option maxRecDepth 20000 in
theorem eX12_shelf_126 (d : Nat) (st : Nat → Nat → Int32) (x1 x2 x3 t0 : Int32) : m_ev none d 251 126 [some (.ref 85), some (.int x1), some (.int x2), some (.int x3)] [.int t0, .ref 100] (SH, st) = m_ev none d 251 127 [some (.ref 85), some (.int x1), some (.int x2), some (.int x3)] [.int 0, .int t0, .ref 100] (SH, st) := m_ev_K _ _ _ _ _ _ _
set_option maxRecDepth 20000 in
theorem eX12_shelf_127 (d : Nat) (st : Nat → Nat → Int32) (x1 x2 x3 t0 t1 : Int32) : m_ev none d 251 127 [some (.ref 85), some (.int x1), some (.int x2), some (.int x3)] [.int t0, .int t1, .ref 100] (SH, st) = m_ob (m_ix t1 4) fun q1 => some (some (.int 1), (SH, (m_up st 100 q1 t0))) := m_ev_K _ _ _ _ _ _ _
set_option maxRecDepth 20000 in
theorem eX12_onShelf_0 (d : Nat) (st : Nat → Nat → Int32) (x1 : Int32) : m_ev none d 252 0 [some (.ref 85), some (.int x1)] [] (SH, st) = m_bd (m_evc d 244 [.int x1] (SH, st)) fun w h => m_ev none d 252 4 [some (.ref 85), some (.int x1)] (w.toList ++ []) h := m_ev_K _ _ _ _ _ _ _
set_option maxRecDepth 20000 in
theorem eX12_onShelf_4 (d : Nat) (st : Nat → Nat → Int32) (x1 t0 : Int32) : m_ev none d 252 4 [some (.ref 85), some (.int x1)] [.int t0] (SH, st) = if t0 = 0 then (m_ev none d 252 39 [some (.ref 85), some (.int x1)] [] (SH, st)) else (m_ob (m_ix x1 4) fun q1 => if (st 98 q1) = 1 then (m_ob (m_ix x1 4) fun q2 => m_bd (m_evc d 156 [.ref 85, .int (st 99 q2)] (SH, st)) fun w h => m_ev none d 252 27 [some (.ref 85), some (.int x1)] (w.toList ++ []) h) else (m_ev none d 252 39 [some (.ref 85), some (.int x1)] [] (SH, st))) := m_ev_K _ _ _ _ _ _ _
set_option maxRecDepth 20000 in
theorem eX12_onShelf_27 (d : Nat) (st : Nat → Nat → Int32) (x1 t0 : Int32) : m_ev none d 252 27 [some (.ref 85), some (.int x1)] [.int t0] (SH, st) = if t0 = 0 then (m_ev none d 252 39 [some (.ref 85), some (.int x1)] [] (SH, st)) else (m_ob (m_ix x1 4) fun q1 => m_ev none d 252 40 [some (.ref 85), some (.int x1)] [.int (st 99 q1)] (SH, st)) := m_ev_K _ _ _ _ _ _ _
set_option maxRecDepth 20000 in
theorem eX12_onShelf_39 (d : Nat) (st : Nat → Nat → Int32) (x1 : Int32) : m_ev none d 252 39 [some (.ref 85), some (.int x1)] [] (SH, st) = m_ev none d 252 40 [some (.ref 85), some (.int x1)] [.int (-1)] (SH, st) := m_ev_K _ _ _ _ _ _ _
set_option maxRecDepth 20000 in
theorem eX12_onShelf_40 (d : Nat) (st : Nat → Nat → Int32) (x1 t0 : Int32) : m_ev none d 252 40 [some (.ref 85), some (.int x1)] [.int t0] (SH, st) = some (some (.int t0), (SH, st)) := m_ev_K _ _ _ _ _ _ _
set_option maxRecDepth 20000 in
theorem eX12_taken_0 (d : Nat) (st : Nat → Nat → Int32) (x1 x2 : Int32) : m_ev none d 253 0 [some (.ref 85), some (.int x1), some (.int x2), none, none] [] (SH, st) = m_bd (m_evc d 244 [.int x1] (SH, st)) fun w h => m_ev none d 253 4 [some (.ref 85), some (.int x1), some (.int x2), none, none] (w.toList ++ []) h := m_ev_K _ _ _ _ _ _ _
set_option maxRecDepth 20000 in
theorem eX12_taken_4 (d : Nat) (st : Nat → Nat → Int32) (x1 x2 t0 : Int32) : m_ev none d 253 4 [some (.ref 85), some (.int x1), some (.int x2), none, none] [.int t0] (SH, st) = if t0 = 0 then (m_ev none d 253 33 [some (.ref 85), some (.int x1), some (.int x2), none, none] [] (SH, st)) else (m_bd (m_evc d 155 [.long ((x2 : Int32).toInt64), .long 0, .long 5] (SH, st)) fun w h => m_ev none d 253 16 [some (.ref 85), some (.int x1), some (.int x2), none, none] (w.toList ++ []) h) := m_ev_K _ _ _ _ _ _ _
set_option maxRecDepth 20000 in
theorem eX12_taken_16 (d : Nat) (st : Nat → Nat → Int32) (x1 x2 t0 : Int32) : m_ev none d 253 16 [some (.ref 85), some (.int x1), some (.int x2), none, none] [.int t0] (SH, st) = if t0 = 0 then (m_bd (m_evc d 155 [.long ((x2 : Int32).toInt64), .long 10, .long 14] (SH, st)) fun w h => m_ev none d 253 30 [some (.ref 85), some (.int x1), some (.int x2), none, none] (w.toList ++ []) h) else (m_ev none d 253 35 [some (.ref 85), some (.int x1), some (.int x2), none, none] [] (SH, st)) := m_ev_K _ _ _ _ _ _ _
set_option maxRecDepth 20000 in
theorem eX12_taken_30 (d : Nat) (st : Nat → Nat → Int32) (x1 x2 t0 : Int32) : m_ev none d 253 30 [some (.ref 85), some (.int x1), some (.int x2), none, none] [.int t0] (SH, st) = if t0 = 0 then (m_ev none d 253 33 [some (.ref 85), some (.int x1), some (.int x2), none, none] [] (SH, st)) else (m_ev none d 253 35 [some (.ref 85), some (.int x1), some (.int x2), none, none] [] (SH, st)) := m_ev_K _ _ _ _ _ _ _
set_option maxRecDepth 20000 in
theorem eX12_taken_33 (d : Nat) (st : Nat → Nat → Int32) (x1 x2 : Int32) : m_ev none d 253 33 [some (.ref 85), some (.int x1), some (.int x2), none, none] [] (SH, st) = some (some (.int (-1)), (SH, st)) := m_ev_K _ _ _ _ _ _ _
set_option maxRecDepth 20000 in
theorem eX12_taken_35 (d : Nat) (st : Nat → Nat → Int32) (x1 x2 : Int32) : m_ev none d 253 35 [some (.ref 85), some (.int x1), some (.int x2), none, none] [] (SH, st) = m_bd (m_evc d 252 [.ref 85, .int x1] (SH, st)) fun w h => m_ev none d 253 40 [some (.ref 85), some (.int x1), some (.int x2), none, none] (w.toList ++ []) h := m_ev_K _ _ _ _ _ _ _
set_option maxRecDepth 20000 in
theorem eX12_taken_40 (d : Nat) (st : Nat → Nat → Int32) (x1 x2 t0 : Int32) : m_ev none d 253 40 [some (.ref 85), some (.int x1), some (.int x2), none, none] [.int t0] (SH, st) = if t0 < 0 then (m_ob (m_ix x1 4) fun q1 => if (st 98 q1) < 2 then (some (some (.int (-11)), (SH, st))) else (m_ev none d 253 58 [some (.ref 85), some (.int x1), some (.int x2), some (.int t0), none] [] (SH, st))) else (m_ev none d 253 58 [some (.ref 85), some (.int x1), some (.int x2), some (.int t0), none] [] (SH, st)) := m_ev_K _ _ _ _ _ _ _
set_option maxRecDepth 20000 in
theorem eX12_taken_58 (d : Nat) (st : Nat → Nat → Int32) (x1 x2 x3 : Int32) : m_ev none d 253 58 [some (.ref 85), some (.int x1), some (.int x2), some (.int x3), none] [] (SH, st) = if x3 < 0 then (m_ev none d 253 89 [some (.ref 85), some (.int x1), some (.int x2), some (.int x3), none] [] (SH, st)) else (if x2 < 6 then (m_bd (m_evc d 164 [.ref 85, .int x3, .int 0] (SH, st)) fun w h => m_ev none d 253 74 [some (.ref 85), some (.int x1), some (.int x2), some (.int x3), none] (w.toList ++ []) h) else (m_ev none d 253 85 [some (.ref 85), some (.int x1), some (.int x2), some (.int x3), none] [] (SH, st))) := m_ev_K _ _ _ _ _ _ _
set_option maxRecDepth 20000 in
theorem eX12_taken_74 (d : Nat) (st : Nat → Nat → Int32) (x1 x2 x3 t0 : Int32) : m_ev none d 253 74 [some (.ref 85), some (.int x1), some (.int x2), some (.int x3), none] [.int t0] (SH, st) = m_bd (m_evc d 167 [.int t0, .int x2] (SH, st)) fun w h => m_ev none d 253 78 [some (.ref 85), some (.int x1), some (.int x2), some (.int x3), none] (w.toList ++ []) h := m_ev_K _ _ _ _ _ _ _
set_option maxRecDepth 20000 in
theorem eX12_taken_78 (d : Nat) (st : Nat → Nat → Int32) (x1 x2 x3 t0 : Int32) : m_ev none d 253 78 [some (.ref 85), some (.int x1), some (.int x2), some (.int x3), none] [.int t0] (SH, st) = if t0 = 0 then (m_ev none d 253 85 [some (.ref 85), some (.int x1), some (.int x2), some (.int x3), none] [] (SH, st)) else (m_ev none d 253 107 [some (.ref 85), some (.int x1), some (.int x2), some (.int x3), none] [.int 1] (SH, st)) := m_ev_K _ _ _ _ _ _ _
set_option maxRecDepth 20000 in
theorem eX12_taken_85 (d : Nat) (st : Nat → Nat → Int32) (x1 x2 x3 : Int32) : m_ev none d 253 85 [some (.ref 85), some (.int x1), some (.int x2), some (.int x3), none] [] (SH, st) = m_ev none d 253 107 [some (.ref 85), some (.int x1), some (.int x2), some (.int x3), none] [.int 0] (SH, st) := m_ev_K _ _ _ _ _ _ _
set_option maxRecDepth 20000 in
theorem eX12_taken_89 (d : Nat) (st : Nat → Nat → Int32) (x1 x2 x3 : Int32) : m_ev none d 253 89 [some (.ref 85), some (.int x1), some (.int x2), some (.int x3), none] [] (SH, st) = m_ob (m_ix x1 4) fun q1 => if (x2 - 10) = (st 100 q1) then (m_ev none d 253 107 [some (.ref 85), some (.int x1), some (.int x2), some (.int x3), none] [.int 1] (SH, st)) else (m_ev none d 253 106 [some (.ref 85), some (.int x1), some (.int x2), some (.int x3), none] [] (SH, st)) := m_ev_K _ _ _ _ _ _ _
set_option maxRecDepth 20000 in
theorem eX12_taken_106 (d : Nat) (st : Nat → Nat → Int32) (x1 x2 x3 : Int32) : m_ev none d 253 106 [some (.ref 85), some (.int x1), some (.int x2), some (.int x3), none] [] (SH, st) = m_ev none d 253 107 [some (.ref 85), some (.int x1), some (.int x2), some (.int x3), none] [.int 0] (SH, st) := m_ev_K _ _ _ _ _ _ _
set_option maxRecDepth 20000 in
theorem eX12_taken_107 (d : Nat) (st : Nat → Nat → Int32) (x1 x2 x3 t0 : Int32) : m_ev none d 253 107 [some (.ref 85), some (.int x1), some (.int x2), some (.int x3), none] [.int t0] (SH, st) = if t0 = 0 then (m_ev none d 253 123 [some (.ref 85), some (.int x1), some (.int x2), some (.int x3), some (.int t0)] [] (SH, st)) else (m_ob (m_ix x1 4) fun q1 => m_ev none d 253 125 [some (.ref 85), some (.int x1), some (.int x2), some (.int x3), some (.int t0)] [.int (st 99 q1)] (SH, st)) := m_ev_K _ _ _ _ _ _ _
set_option maxRecDepth 20000 in
theorem eX12_taken_123 (d : Nat) (st : Nat → Nat → Int32) (x1 x2 x3 x4 : Int32) : m_ev none d 253 123 [some (.ref 85), some (.int x1), some (.int x2), some (.int x3), some (.int x4)] [] (SH, st) = m_ev none d 253 125 [some (.ref 85), some (.int x1), some (.int x2), some (.int x3), some (.int x4)] [.int (-13)] (SH, st) := m_ev_K _ _ _ _ _ _ _
set_option maxRecDepth 20000 in
theorem eX12_taken_125 (d : Nat) (st : Nat → Nat → Int32) (x1 x2 x3 x4 t0 : Int32) : m_ev none d 253 125 [some (.ref 85), some (.int x1), some (.int x2), some (.int x3), some (.int x4)] [.int t0] (SH, st) = some (some (.int t0), (SH, st)) := m_ev_K _ _ _ _ _ _ _
set_option maxRecDepth 20000 in
theorem eX12_runs_0 (d : Nat) (st : Nat → Nat → Int32) (x1 : Int32) : m_ev none d 254 0 [some (.ref 85), some (.int x1)] [] (SH, st) = if (st 85 35) = 0 then (if (st 85 31) < 30 then (m_ob (m_ix (st 85 31) 30) fun q1 => m_ev none d 254 26 [some (.ref 85), some (.int x1)] [] (SH, (m_up st 101 q1 x1))) else (m_ev none d 254 26 [some (.ref 85), some (.int x1)] [] (SH, st))) else (m_ev none d 254 36 [some (.ref 85), some (.int x1)] [] (SH, st)) := m_ev_K _ _ _ _ _ _ _
set_option maxRecDepth 20000 in
theorem eX12_runs_26 (d : Nat) (st : Nat → Nat → Int32) (x1 : Int32) : m_ev none d 254 26 [some (.ref 85), some (.int x1)] [] (SH, st) = m_ev none d 254 36 [some (.ref 85), some (.int x1)] [] (SH, (m_up st 85 31 ((st 85 31) + 1))) := m_ev_K _ _ _ _ _ _ _
set_option maxRecDepth 20000 in
theorem eX12_runs_36 (d : Nat) (st : Nat → Nat → Int32) (x1 : Int32) : m_ev none d 254 36 [some (.ref 85), some (.int x1)] [] (SH, st) = some (none, (SH, st)) := m_ev_K _ _ _ _ _ _ _
set_option maxRecDepth 20000 in
theorem eX12_cries_0 (d : Nat) (st : Nat → Nat → Int32) (x1 : Int32) : m_ev none d 255 0 [some (.ref 85), some (.int x1)] [] (SH, st) = if (st 85 34) = 1 then (m_bd (m_evc d 254 [.ref 85, .int 20] (SH, st)) fun w h => m_ev none d 255 14 [some (.ref 85), some (.int x1)] (w.toList ++ []) h) else (m_ev none d 255 29 [some (.ref 85), some (.int x1)] [] (SH, st)) := m_ev_K _ _ _ _ _ _ _
set_option maxRecDepth 20000 in
theorem eX12_cries_14 (d : Nat) (st : Nat → Nat → Int32) (x1 : Int32) : m_ev none d 255 14 [some (.ref 85), some (.int x1)] [] (SH, st) = m_bd (m_evc d 254 [.ref 85, .int 10] (SH, st)) fun w h => m_ev none d 255 20 [some (.ref 85), some (.int x1)] (w.toList ++ []) h := m_ev_K _ _ _ _ _ _ _
set_option maxRecDepth 20000 in
theorem eX12_cries_20 (d : Nat) (st : Nat → Nat → Int32) (x1 : Int32) : m_ev none d 255 20 [some (.ref 85), some (.int x1)] [] (SH, st) = some (some (.int ((x1 + (st 85 32)) * 3)), (SH, st)) := m_ev_K _ _ _ _ _ _ _
set_option maxRecDepth 20000 in
theorem eX12_cries_29 (d : Nat) (st : Nat → Nat → Int32) (x1 : Int32) : m_ev none d 255 29 [some (.ref 85), some (.int x1)] [] (SH, st) = if (st 85 34) = 3 then (m_bd (m_evc d 254 [.ref 85, .int 50] (SH, st)) fun w h => m_ev none d 255 43 [some (.ref 85), some (.int x1)] (w.toList ++ []) h) else (m_ev none d 255 61 [some (.ref 85), some (.int x1)] [] (SH, st)) := m_ev_K _ _ _ _ _ _ _
set_option maxRecDepth 20000 in
theorem eX12_cries_43 (d : Nat) (st : Nat → Nat → Int32) (x1 : Int32) : m_ev none d 255 43 [some (.ref 85), some (.int x1)] [] (SH, st) = m_bd (m_evc d 254 [.ref 85, .int 10] (SH, st)) fun w h => m_ev none d 255 49 [some (.ref 85), some (.int x1)] (w.toList ++ []) h := m_ev_K _ _ _ _ _ _ _
set_option maxRecDepth 20000 in
theorem eX12_cries_49 (d : Nat) (st : Nat → Nat → Int32) (x1 : Int32) : m_ev none d 255 49 [some (.ref 85), some (.int x1)] [] (SH, st) = some (some (.int ((x1 + (st 85 32)) ^^^ (st 85 32))), (SH, st)) := m_ev_K _ _ _ _ _ _ _
set_option maxRecDepth 20000 in
theorem eX12_cries_61 (d : Nat) (st : Nat → Nat → Int32) (x1 : Int32) : m_ev none d 255 61 [some (.ref 85), some (.int x1)] [] (SH, st) = m_bd (m_evc d 254 [.ref 85, .int 10] (SH, st)) fun w h => m_ev none d 255 67 [some (.ref 85), some (.int x1)] (w.toList ++ []) h := m_ev_K _ _ _ _ _ _ _
set_option maxRecDepth 20000 in
theorem eX12_cries_67 (d : Nat) (st : Nat → Nat → Int32) (x1 : Int32) : m_ev none d 255 67 [some (.ref 85), some (.int x1)] [] (SH, st) = some (some (.int (x1 + (st 85 32))), (SH, st)) := m_ev_K _ _ _ _ _ _ _
set_option maxRecDepth 20000 in
theorem eX12_hears_0 (d : Nat) (st : Nat → Nat → Int32) (x1 : Int32) : m_ev none d 256 0 [some (.ref 85), some (.int x1), none, none] [] (SH, st) = if (st 85 34) = 2 then (m_ev none d 256 16 [some (.ref 85), some (.int x1), none, none] [] (SH, st)) else (if (st 85 34) = 3 then (m_ev none d 256 16 [some (.ref 85), some (.int x1), none, none] [] (SH, st)) else (m_ev none d 256 20 [some (.ref 85), some (.int x1), none, none] [] (SH, st))) := m_ev_K _ _ _ _ _ _ _
set_option maxRecDepth 20000 in
theorem eX12_hears_16 (d : Nat) (st : Nat → Nat → Int32) (x1 : Int32) : m_ev none d 256 16 [some (.ref 85), some (.int x1), none, none] [] (SH, st) = m_ev none d 256 21 [some (.ref 85), some (.int x1), none, none] [.int 1] (SH, st) := m_ev_K _ _ _ _ _ _ _
set_option maxRecDepth 20000 in
theorem eX12_hears_20 (d : Nat) (st : Nat → Nat → Int32) (x1 : Int32) : m_ev none d 256 20 [some (.ref 85), some (.int x1), none, none] [] (SH, st) = m_ev none d 256 21 [some (.ref 85), some (.int x1), none, none] [.int 0] (SH, st) := m_ev_K _ _ _ _ _ _ _
set_option maxRecDepth 20000 in
theorem eX12_hears_21 (d : Nat) (st : Nat → Nat → Int32) (x1 t0 : Int32) : m_ev none d 256 21 [some (.ref 85), some (.int x1), none, none] [.int t0] (SH, st) = if t0 = 0 then (m_ev none d 256 32 [some (.ref 85), some (.int x1), some (.int t0), none] [] (SH, st)) else (m_bd (m_evc d 254 [.ref 85, .int 30] (SH, st)) fun w h => m_ev none d 256 32 [some (.ref 85), some (.int x1), some (.int t0), none] (w.toList ++ []) h) := m_ev_K _ _ _ _ _ _ _
set_option maxRecDepth 20000 in
theorem eX12_hears_32 (d : Nat) (st : Nat → Nat → Int32) (x1 x2 : Int32) : m_ev none d 256 32 [some (.ref 85), some (.int x1), some (.int x2), none] [] (SH, st) = if (st 85 34) = 5 then (m_bd (m_evc d 254 [.ref 85, .int 60] (SH, st)) fun w h => m_ev none d 256 46 [some (.ref 85), some (.int x1), some (.int x2), none] (w.toList ++ []) h) else (m_ev none d 256 46 [some (.ref 85), some (.int x1), some (.int x2), none] [] (SH, st)) := m_ev_K _ _ _ _ _ _ _
set_option maxRecDepth 20000 in
theorem eX12_hears_46 (d : Nat) (st : Nat → Nat → Int32) (x1 x2 : Int32) : m_ev none d 256 46 [some (.ref 85), some (.int x1), some (.int x2), none] [] (SH, st) = m_bd (m_evc d 254 [.ref 85, .int 11] (SH, st)) fun w h => m_ev none d 256 52 [some (.ref 85), some (.int x1), some (.int x2), none] (w.toList ++ []) h := m_ev_K _ _ _ _ _ _ _
set_option maxRecDepth 20000 in
theorem eX12_hears_52 (d : Nat) (st : Nat → Nat → Int32) (x1 x2 : Int32) : m_ev none d 256 52 [some (.ref 85), some (.int x1), some (.int x2), none] [] (SH, st) = m_bd (m_evc d 255 [.ref 85, .int x1] (SH, st)) fun w h => m_ev none d 256 57 [some (.ref 85), some (.int x1), some (.int x2), none] (w.toList ++ []) h := m_ev_K _ _ _ _ _ _ _
set_option maxRecDepth 20000 in
theorem eX12_hears_57 (d : Nat) (st : Nat → Nat → Int32) (x1 x2 t0 : Int32) : m_ev none d 256 57 [some (.ref 85), some (.int x1), some (.int x2), none] [.int t0] (SH, st) = if x2 = 0 then (m_ev none d 256 73 [some (.ref 85), some (.int x1), some (.int x2), some (.int (t0 * 2))] [] (SH, st)) else (m_ev none d 256 88 [some (.ref 85), some (.int x1), some (.int x2), some (.int (t0 * 2))] [.int ((t0 * 2) - (st 85 33))] (SH, st)) := m_ev_K _ _ _ _ _ _ _
set_option maxRecDepth 20000 in
theorem eX12_hears_73 (d : Nat) (st : Nat → Nat → Int32) (x1 x2 x3 : Int32) : m_ev none d 256 73 [some (.ref 85), some (.int x1), some (.int x2), some (.int x3)] [] (SH, st) = if (st 85 34) = 5 then (m_ev none d 256 88 [some (.ref 85), some (.int x1), some (.int x2), some (.int x3)] [.int (0 - x3)] (SH, st)) else (m_ev none d 256 87 [some (.ref 85), some (.int x1), some (.int x2), some (.int x3)] [] (SH, st)) := m_ev_K _ _ _ _ _ _ _
set_option maxRecDepth 20000 in
theorem eX12_hears_87 (d : Nat) (st : Nat → Nat → Int32) (x1 x2 x3 : Int32) : m_ev none d 256 87 [some (.ref 85), some (.int x1), some (.int x2), some (.int x3)] [] (SH, st) = m_ev none d 256 88 [some (.ref 85), some (.int x1), some (.int x2), some (.int x3)] [.int x3] (SH, st) := m_ev_K _ _ _ _ _ _ _
set_option maxRecDepth 20000 in
theorem eX12_hears_88 (d : Nat) (st : Nat → Nat → Int32) (x1 x2 x3 t0 : Int32) : m_ev none d 256 88 [some (.ref 85), some (.int x1), some (.int x2), some (.int x3)] [.int t0] (SH, st) = some (some (.int t0), (SH, st)) := m_ev_K _ _ _ _ _ _ _
set_option maxRecDepth 20000 in
theorem eX12_parts_0 (d : Nat) (st : Nat → Nat → Int32) (x1 : Int32) : m_ev none d 257 0 [some (.ref 85), some (.int x1)] [] (SH, st) = m_bd (m_evc d 254 [.ref 85, .int 12] (SH, st)) fun w h => m_ev none d 257 6 [some (.ref 85), some (.int x1)] (w.toList ++ []) h := m_ev_K _ _ _ _ _ _ _
set_option maxRecDepth 20000 in
theorem eX12_parts_6 (d : Nat) (st : Nat → Nat → Int32) (x1 : Int32) : m_ev none d 257 6 [some (.ref 85), some (.int x1)] [] (SH, st) = if (st 85 33) = (st 85 32) then (some (some (.int 0), (SH, (m_up st 85 35 1)))) else (m_ev none d 257 24 [some (.ref 85), some (.int x1)] [] (SH, st)) := m_ev_K _ _ _ _ _ _ _
set_option maxRecDepth 20000 in
theorem eX12_parts_24 (d : Nat) (st : Nat → Nat → Int32) (x1 : Int32) : m_ev none d 257 24 [some (.ref 85), some (.int x1)] [] (SH, st) = if ((st 85 33) - (st 85 32)) = 0 then none else (some (some (.int (x1 / ((st 85 33) - (st 85 32)))), (SH, st))) := m_ev_K _ _ _ _ _ _ _
set_option maxRecDepth 20000 in
theorem eX12_shares_0 (d : Nat) (st : Nat → Nat → Int32) (x1 : Int32) : m_ev none d 258 0 [some (.ref 85), some (.int x1), none] [] (SH, st) = if (st 85 34) = 4 then (m_bd (m_evc d 254 [.ref 85, .int 40] (SH, st)) fun w h => m_ev none d 258 14 [some (.ref 85), some (.int x1), none] (w.toList ++ []) h) else (m_ev none d 258 22 [some (.ref 85), some (.int x1), none] [] (SH, st)) := m_ev_K _ _ _ _ _ _ _
set_option maxRecDepth 20000 in
theorem eX12_shares_14 (d : Nat) (st : Nat → Nat → Int32) (x1 : Int32) : m_ev none d 258 14 [some (.ref 85), some (.int x1), none] [] (SH, st) = m_bd (m_evc d 257 [.ref 85, .int (x1 + 1)] (SH, st)) fun w h => m_ev none d 258 21 [some (.ref 85), some (.int x1), none] (w.toList ++ []) h := m_ev_K _ _ _ _ _ _ _
set_option maxRecDepth 20000 in
theorem eX12_shares_21 (d : Nat) (st : Nat → Nat → Int32) (x1 t0 : Int32) : m_ev none d 258 21 [some (.ref 85), some (.int x1), none] [.int t0] (SH, st) = some (some (.int t0), (SH, st)) := m_ev_K _ _ _ _ _ _ _
set_option maxRecDepth 20000 in
theorem eX12_shares_22 (d : Nat) (st : Nat → Nat → Int32) (x1 : Int32) : m_ev none d 258 22 [some (.ref 85), some (.int x1), none] [] (SH, st) = if (st 85 34) = 5 then (m_bd (m_evc d 254 [.ref 85, .int 61] (SH, st)) fun w h => m_ev none d 258 36 [some (.ref 85), some (.int x1), none] (w.toList ++ []) h) else (m_ev none d 258 72 [some (.ref 85), some (.int x1), none] [] (SH, st)) := m_ev_K _ _ _ _ _ _ _
set_option maxRecDepth 20000 in
theorem eX12_shares_36 (d : Nat) (st : Nat → Nat → Int32) (x1 : Int32) : m_ev none d 258 36 [some (.ref 85), some (.int x1), none] [] (SH, st) = m_bd (m_evc d 254 [.ref 85, .int 40] (SH, st)) fun w h => m_ev none d 258 42 [some (.ref 85), some (.int x1), none] (w.toList ++ []) h := m_ev_K _ _ _ _ _ _ _
set_option maxRecDepth 20000 in
theorem eX12_shares_42 (d : Nat) (st : Nat → Nat → Int32) (x1 : Int32) : m_ev none d 258 42 [some (.ref 85), some (.int x1), none] [] (SH, st) = m_bd (m_evc d 257 [.ref 85, .int (x1 + 1)] (SH, st)) fun w h => m_ev none d 258 49 [some (.ref 85), some (.int x1), none] (w.toList ++ []) h := m_ev_K _ _ _ _ _ _ _
set_option maxRecDepth 20000 in
theorem eX12_shares_49 (d : Nat) (st : Nat → Nat → Int32) (x1 t0 : Int32) : m_ev none d 258 49 [some (.ref 85), some (.int x1), none] [.int t0] (SH, st) = if (st 85 35) = 0 then (m_ev none d 258 61 [some (.ref 85), some (.int x1), some (.int t0)] [] (SH, st)) else (m_ev none d 258 71 [some (.ref 85), some (.int x1), some (.int t0)] [.int 0] (SH, st)) := m_ev_K _ _ _ _ _ _ _
set_option maxRecDepth 20000 in
theorem eX12_shares_61 (d : Nat) (st : Nat → Nat → Int32) (x1 x2 : Int32) : m_ev none d 258 61 [some (.ref 85), some (.int x1), some (.int x2)] [] (SH, st) = m_bd (m_evc d 255 [.ref 85, .int (st 85 33)] (SH, st)) fun w h => m_ev none d 258 70 [some (.ref 85), some (.int x1), some (.int x2)] (w.toList ++ [.int x2]) h := m_ev_K _ _ _ _ _ _ _
set_option maxRecDepth 20000 in
theorem eX12_shares_70 (d : Nat) (st : Nat → Nat → Int32) (x1 x2 t0 t1 : Int32) : m_ev none d 258 70 [some (.ref 85), some (.int x1), some (.int x2)] [.int t0, .int t1] (SH, st) = m_ev none d 258 71 [some (.ref 85), some (.int x1), some (.int x2)] [.int (t1 + t0)] (SH, st) := m_ev_K _ _ _ _ _ _ _
set_option maxRecDepth 20000 in
theorem eX12_shares_71 (d : Nat) (st : Nat → Nat → Int32) (x1 x2 t0 : Int32) : m_ev none d 258 71 [some (.ref 85), some (.int x1), some (.int x2)] [.int t0] (SH, st) = some (some (.int t0), (SH, st)) := m_ev_K _ _ _ _ _ _ _
set_option maxRecDepth 20000 in
theorem eX12_shares_72 (d : Nat) (st : Nat → Nat → Int32) (x1 : Int32) : m_ev none d 258 72 [some (.ref 85), some (.int x1), none] [] (SH, st) = m_bd (m_evc d 257 [.ref 85, .int x1] (SH, st)) fun w h => m_ev none d 258 77 [some (.ref 85), some (.int x1), none] (w.toList ++ []) h := m_ev_K _ _ _ _ _ _ _
set_option maxRecDepth 20000 in
theorem eX12_shares_77 (d : Nat) (st : Nat → Nat → Int32) (x1 t0 : Int32) : m_ev none d 258 77 [some (.ref 85), some (.int x1), none] [.int t0] (SH, st) = some (some (.int t0), (SH, st)) := m_ev_K _ _ _ _ _ _ _
set_option maxRecDepth 20000 in
theorem eX12_tells_0 (d : Nat) (st : Nat → Nat → Int32) (x1 : Int32) : m_ev none d 259 0 [some (.ref 85), some (.int x1), none] [] (SH, st) = if (st 85 34) = 3 then (m_bd (m_evc d 254 [.ref 85, .int 51] (SH, st)) fun w h => m_ev none d 259 14 [some (.ref 85), some (.int x1), none] (w.toList ++ []) h) else (m_ev none d 259 14 [some (.ref 85), some (.int x1), none] [] (SH, st)) := m_ev_K _ _ _ _ _ _ _
set_option maxRecDepth 20000 in
theorem eX12_tells_14 (d : Nat) (st : Nat → Nat → Int32) (x1 : Int32) : m_ev none d 259 14 [some (.ref 85), some (.int x1), none] [] (SH, st) = m_bd (m_evc d 254 [.ref 85, .int 13] (SH, st)) fun w h => m_ev none d 259 20 [some (.ref 85), some (.int x1), none] (w.toList ++ []) h := m_ev_K _ _ _ _ _ _ _
set_option maxRecDepth 20000 in
theorem eX12_tells_20 (d : Nat) (st : Nat → Nat → Int32) (x1 : Int32) : m_ev none d 259 20 [some (.ref 85), some (.int x1), none] [] (SH, st) = m_bd (m_evc d 256 [.ref 85, .int x1] (SH, st)) fun w h => m_ev none d 259 25 [some (.ref 85), some (.int x1), none] (w.toList ++ []) h := m_ev_K _ _ _ _ _ _ _
set_option maxRecDepth 20000 in
theorem eX12_tells_25 (d : Nat) (st : Nat → Nat → Int32) (x1 t0 : Int32) : m_ev none d 259 25 [some (.ref 85), some (.int x1), none] [.int t0] (SH, st) = if (st 85 34) = 3 then (m_bd (m_evc d 258 [.ref 85, .int (st 85 32)] (SH, st)) fun w h => m_ev none d 259 48 [some (.ref 85), some (.int x1), some (.int (t0 ^^^ (st 85 33)))] (w.toList ++ [.int (t0 ^^^ (st 85 33))]) h) else (m_ev none d 259 52 [some (.ref 85), some (.int x1), some (.int (t0 ^^^ (st 85 33)))] [] (SH, st)) := m_ev_K _ _ _ _ _ _ _
set_option maxRecDepth 20000 in
theorem eX12_tells_48 (d : Nat) (st : Nat → Nat → Int32) (x1 x2 t0 t1 : Int32) : m_ev none d 259 48 [some (.ref 85), some (.int x1), some (.int x2)] [.int t0, .int t1] (SH, st) = m_ev none d 259 53 [some (.ref 85), some (.int x1), some (.int x2)] [.int (t1 + t0)] (SH, st) := m_ev_K _ _ _ _ _ _ _
set_option maxRecDepth 20000 in
theorem eX12_tells_52 (d : Nat) (st : Nat → Nat → Int32) (x1 x2 : Int32) : m_ev none d 259 52 [some (.ref 85), some (.int x1), some (.int x2)] [] (SH, st) = m_ev none d 259 53 [some (.ref 85), some (.int x1), some (.int x2)] [.int x2] (SH, st) := m_ev_K _ _ _ _ _ _ _
set_option maxRecDepth 20000 in
theorem eX12_tells_53 (d : Nat) (st : Nat → Nat → Int32) (x1 x2 t0 : Int32) : m_ev none d 259 53 [some (.ref 85), some (.int x1), some (.int x2)] [.int t0] (SH, st) = some (some (.int t0), (SH, st)) := m_ev_K _ _ _ _ _ _ _
set_option maxRecDepth 20000 in
theorem eX12_act_0 (d : Nat) (st : Nat → Nat → Int32) (x1 x2 x3 : Int32) : m_ev none d 260 0 [some (.ref 85), some (.int x1), some (.int x2), some (.int x3), none] [] (SH, st) = m_bd (m_evc d 252 [.ref 85, .int x1] (SH, (m_up (m_up st 85 31 0) 85 35 0))) fun w h => m_ev none d 260 16 [some (.ref 85), some (.int x1), some (.int x2), some (.int x3), none] (w.toList ++ [.ref 85]) h := m_ev_K _ _ _ _ _ _ _
set_option maxRecDepth 20000 in
theorem eX12_act_16 (d : Nat) (st : Nat → Nat → Int32) (x1 x2 x3 t0 : Int32) : m_ev none d 260 16 [some (.ref 85), some (.int x1), some (.int x2), some (.int x3), none] [.int t0, .ref 85] (SH, st) = if t0 < 0 then (m_ev none d 260 38 [some (.ref 85), some (.int x1), some (.int x2), some (.int x3), none] [] (SH, (m_up st 85 32 t0))) else (m_bd (m_evc d 155 [.long ((x2 : Int32).toInt64), .long 0, .long 3] (SH, (m_up st 85 32 t0))) fun w h => m_ev none d 260 35 [some (.ref 85), some (.int x1), some (.int x2), some (.int x3), none] (w.toList ++ []) h) := m_ev_K _ _ _ _ _ _ _
set_option maxRecDepth 20000 in
theorem eX12_act_35 (d : Nat) (st : Nat → Nat → Int32) (x1 x2 x3 t0 : Int32) : m_ev none d 260 35 [some (.ref 85), some (.int x1), some (.int x2), some (.int x3), none] [.int t0] (SH, st) = if t0 = 0 then (m_ev none d 260 38 [some (.ref 85), some (.int x1), some (.int x2), some (.int x3), none] [] (SH, st)) else (m_ev none d 260 40 [some (.ref 85), some (.int x1), some (.int x2), some (.int x3), none] [] (SH, st)) := m_ev_K _ _ _ _ _ _ _
set_option maxRecDepth 20000 in
theorem eX12_act_38 (d : Nat) (st : Nat → Nat → Int32) (x1 x2 x3 : Int32) : m_ev none d 260 38 [some (.ref 85), some (.int x1), some (.int x2), some (.int x3), none] [] (SH, st) = some (some (.int 0), (SH, st)) := m_ev_K _ _ _ _ _ _ _
set_option maxRecDepth 20000 in
theorem eX12_act_40 (d : Nat) (st : Nat → Nat → Int32) (x1 x2 x3 : Int32) : m_ev none d 260 40 [some (.ref 85), some (.int x1), some (.int x2), some (.int x3), none] [] (SH, st) = m_bd (m_evc d 164 [.ref 85, .int (st 85 32), .int 2] (SH, st)) fun w h => m_ev none d 260 50 [some (.ref 85), some (.int x1), some (.int x2), some (.int x3), none] (w.toList ++ [.ref 85]) h := m_ev_K _ _ _ _ _ _ _
set_option maxRecDepth 20000 in
theorem eX12_act_50 (d : Nat) (st : Nat → Nat → Int32) (x1 x2 x3 t0 : Int32) : m_ev none d 260 50 [some (.ref 85), some (.int x1), some (.int x2), some (.int x3), none] [.int t0, .ref 85] (SH, st) = m_bd (m_evc d 164 [.ref 85, .int (st 85 32), .int 0] (SH, (m_up st 85 33 t0))) fun w h => m_ev none d 260 63 [some (.ref 85), some (.int x1), some (.int x2), some (.int x3), none] (w.toList ++ [.ref 85]) h := m_ev_K _ _ _ _ _ _ _
set_option maxRecDepth 20000 in
theorem eX12_act_63 (d : Nat) (st : Nat → Nat → Int32) (x1 x2 x3 t0 : Int32) : m_ev none d 260 63 [some (.ref 85), some (.int x1), some (.int x2), some (.int x3), none] [.int t0, .ref 85] (SH, st) = if x2 = 0 then (m_bd (m_evc d 255 [.ref 85, .int x3] (SH, (m_up st 85 34 t0))) fun w h => m_ev none d 260 75 [some (.ref 85), some (.int x1), some (.int x2), some (.int x3), none] (w.toList ++ []) h) else (m_ev none d 260 78 [some (.ref 85), some (.int x1), some (.int x2), some (.int x3), none] [] (SH, (m_up st 85 34 t0))) := m_ev_K _ _ _ _ _ _ _
set_option maxRecDepth 20000 in
theorem eX12_act_75 (d : Nat) (st : Nat → Nat → Int32) (x1 x2 x3 t0 : Int32) : m_ev none d 260 75 [some (.ref 85), some (.int x1), some (.int x2), some (.int x3), none] [.int t0] (SH, st) = m_ev none d 260 109 [some (.ref 85), some (.int x1), some (.int x2), some (.int x3), none] [.int t0] (SH, st) := m_ev_K _ _ _ _ _ _ _
set_option maxRecDepth 20000 in
theorem eX12_act_78 (d : Nat) (st : Nat → Nat → Int32) (x1 x2 x3 : Int32) : m_ev none d 260 78 [some (.ref 85), some (.int x1), some (.int x2), some (.int x3), none] [] (SH, st) = if x2 = 1 then (m_bd (m_evc d 256 [.ref 85, .int x3] (SH, st)) fun w h => m_ev none d 260 88 [some (.ref 85), some (.int x1), some (.int x2), some (.int x3), none] (w.toList ++ []) h) else (m_ev none d 260 91 [some (.ref 85), some (.int x1), some (.int x2), some (.int x3), none] [] (SH, st)) := m_ev_K _ _ _ _ _ _ _
set_option maxRecDepth 20000 in
theorem eX12_act_88 (d : Nat) (st : Nat → Nat → Int32) (x1 x2 x3 t0 : Int32) : m_ev none d 260 88 [some (.ref 85), some (.int x1), some (.int x2), some (.int x3), none] [.int t0] (SH, st) = m_ev none d 260 109 [some (.ref 85), some (.int x1), some (.int x2), some (.int x3), none] [.int t0] (SH, st) := m_ev_K _ _ _ _ _ _ _
set_option maxRecDepth 20000 in
theorem eX12_act_91 (d : Nat) (st : Nat → Nat → Int32) (x1 x2 x3 : Int32) : m_ev none d 260 91 [some (.ref 85), some (.int x1), some (.int x2), some (.int x3), none] [] (SH, st) = if x2 = 2 then (m_bd (m_evc d 258 [.ref 85, .int x3] (SH, st)) fun w h => m_ev none d 260 101 [some (.ref 85), some (.int x1), some (.int x2), some (.int x3), none] (w.toList ++ []) h) else (m_ev none d 260 104 [some (.ref 85), some (.int x1), some (.int x2), some (.int x3), none] [] (SH, st)) := m_ev_K _ _ _ _ _ _ _
set_option maxRecDepth 20000 in
theorem eX12_act_101 (d : Nat) (st : Nat → Nat → Int32) (x1 x2 x3 t0 : Int32) : m_ev none d 260 101 [some (.ref 85), some (.int x1), some (.int x2), some (.int x3), none] [.int t0] (SH, st) = m_ev none d 260 109 [some (.ref 85), some (.int x1), some (.int x2), some (.int x3), none] [.int t0] (SH, st) := m_ev_K _ _ _ _ _ _ _
set_option maxRecDepth 20000 in
theorem eX12_act_104 (d : Nat) (st : Nat → Nat → Int32) (x1 x2 x3 : Int32) : m_ev none d 260 104 [some (.ref 85), some (.int x1), some (.int x2), some (.int x3), none] [] (SH, st) = m_bd (m_evc d 259 [.ref 85, .int x3] (SH, st)) fun w h => m_ev none d 260 109 [some (.ref 85), some (.int x1), some (.int x2), some (.int x3), none] (w.toList ++ []) h := m_ev_K _ _ _ _ _ _ _
set_option maxRecDepth 20000 in
theorem eX12_act_109 (d : Nat) (st : Nat → Nat → Int32) (x1 x2 x3 t0 : Int32) : m_ev none d 260 109 [some (.ref 85), some (.int x1), some (.int x2), some (.int x3), none] [.int t0] (SH, st) = if (st 85 35) = 0 then (m_ev none d 260 123 [some (.ref 85), some (.int x1), some (.int x2), some (.int x3), some (.int t0)] [] (SH, st)) else (m_ev none d 260 125 [some (.ref 85), some (.int x1), some (.int x2), some (.int x3), some (.int t0)] [.int (-15)] (SH, st)) := m_ev_K _ _ _ _ _ _ _
set_option maxRecDepth 20000 in
theorem eX12_act_123 (d : Nat) (st : Nat → Nat → Int32) (x1 x2 x3 x4 : Int32) : m_ev none d 260 123 [some (.ref 85), some (.int x1), some (.int x2), some (.int x3), some (.int x4)] [] (SH, st) = m_ev none d 260 125 [some (.ref 85), some (.int x1), some (.int x2), some (.int x3), some (.int x4)] [.int x4] (SH, st) := m_ev_K _ _ _ _ _ _ _
set_option maxRecDepth 20000 in
theorem eX12_act_125 (d : Nat) (st : Nat → Nat → Int32) (x1 x2 x3 x4 t0 : Int32) : m_ev none d 260 125 [some (.ref 85), some (.int x1), some (.int x2), some (.int x3), some (.int x4)] [.int t0] (SH, st) = some (some (.int t0), (SH, st)) := m_ev_K _ _ _ _ _ _ _
set_option maxRecDepth 20000 in
theorem eX12_traced_0 (d : Nat) (st : Nat → Nat → Int32) : m_ev none d 261 0 [some (.ref 85)] [] (SH, st) = if (st 85 31) < 30 then (m_ev none d 261 18 [some (.ref 85)] [.int (st 85 31)] (SH, st)) else (m_ev none d 261 16 [some (.ref 85)] [] (SH, st)) := m_ev_K _ _ _ _ _ _ _
set_option maxRecDepth 20000 in
theorem eX12_traced_16 (d : Nat) (st : Nat → Nat → Int32) : m_ev none d 261 16 [some (.ref 85)] [] (SH, st) = m_ev none d 261 18 [some (.ref 85)] [.int 30] (SH, st) := m_ev_K _ _ _ _ _ _ _
set_option maxRecDepth 20000 in
theorem eX12_traced_18 (d : Nat) (st : Nat → Nat → Int32) (t0 : Int32) : m_ev none d 261 18 [some (.ref 85)] [.int t0] (SH, st) = some (some (.int t0), (SH, st)) := m_ev_K _ _ _ _ _ _ _
set_option maxRecDepth 20000 in
theorem eX12_trace_0 (d : Nat) (st : Nat → Nat → Int32) (x1 : Int32) : m_ev none d 262 0 [some (.ref 85), some (.int x1)] [] (SH, st) = m_bd (m_evc d 261 [.ref 85] (SH, st)) fun w h => m_ev none d 262 7 [some (.ref 85), some (.int x1)] (w.toList ++ [.long 0, .long ((x1 : Int32).toInt64)]) h := m_ev_K _ _ _ _ _ _ _
set_option maxRecDepth 20000 in
theorem eX12_trace_7 (d : Nat) (st : Nat → Nat → Int32) (x1 t0 : Int32) (t1 t2 : Int64) : m_ev none d 262 7 [some (.ref 85), some (.int x1)] [.int t0, .long t1, .long t2] (SH, st) = m_bd (m_evc d 155 [.long t2, .long t1, .long (((t0 - 1) : Int32).toInt64)] (SH, st)) fun w h => m_ev none d 262 13 [some (.ref 85), some (.int x1)] (w.toList ++ []) h := m_ev_K _ _ _ _ _ _ _
set_option maxRecDepth 20000 in
theorem eX12_trace_13 (d : Nat) (st : Nat → Nat → Int32) (x1 t0 : Int32) : m_ev none d 262 13 [some (.ref 85), some (.int x1)] [.int t0] (SH, st) = if t0 = 0 then (m_ev none d 262 25 [some (.ref 85), some (.int x1)] [] (SH, st)) else (m_ob (m_ix x1 30) fun q1 => m_ev none d 262 27 [some (.ref 85), some (.int x1)] [.int (st 101 q1)] (SH, st)) := m_ev_K _ _ _ _ _ _ _
set_option maxRecDepth 20000 in
theorem eX12_trace_25 (d : Nat) (st : Nat → Nat → Int32) (x1 : Int32) : m_ev none d 262 25 [some (.ref 85), some (.int x1)] [] (SH, st) = m_ev none d 262 27 [some (.ref 85), some (.int x1)] [.int (-3)] (SH, st) := m_ev_K _ _ _ _ _ _ _
set_option maxRecDepth 20000 in
theorem eX12_trace_27 (d : Nat) (st : Nat → Nat → Int32) (x1 t0 : Int32) : m_ev none d 262 27 [some (.ref 85), some (.int x1)] [.int t0] (SH, st) = some (some (.int t0), (SH, st)) := m_ev_K _ _ _ _ _ _ _
set_option maxRecDepth 20000 in
theorem eX12_many_0 (d : Nat) (st : Nat → Nat → Int32) (x1 : Int32) : m_ev none d 263 0 [some (.ref 85), some (.int x1)] [] (SH, st) = m_ev none d 263 (m_case x1 [[0, 44], [1, 51], [2, 58], [3, 65], [4, 70], [5, 75], [6, 80]] 85) [some (.ref 85), some (.int x1)] [] (SH, st) := m_ev_K _ _ _ _ _ _ _
set_option maxRecDepth 20000 in
theorem eX12_many_44 (d : Nat) (st : Nat → Nat → Int32) (x1 : Int32) : m_ev none d 263 44 [some (.ref 85), some (.int x1)] [] (SH, st) = some (some (.int (st 86 0)), (SH, st)) := m_ev_K _ _ _ _ _ _ _
set_option maxRecDepth 20000 in
theorem eX12_many_51 (d : Nat) (st : Nat → Nat → Int32) (x1 : Int32) : m_ev none d 263 51 [some (.ref 85), some (.int x1)] [] (SH, st) = some (some (.int (st 86 4)), (SH, st)) := m_ev_K _ _ _ _ _ _ _
set_option maxRecDepth 20000 in
theorem eX12_many_58 (d : Nat) (st : Nat → Nat → Int32) (x1 : Int32) : m_ev none d 263 58 [some (.ref 85), some (.int x1)] [] (SH, st) = some (some (.int (st 86 1)), (SH, st)) := m_ev_K _ _ _ _ _ _ _
set_option maxRecDepth 20000 in
theorem eX12_many_65 (d : Nat) (st : Nat → Nat → Int32) (x1 : Int32) : m_ev none d 263 65 [some (.ref 85), some (.int x1)] [] (SH, st) = some (some (.int (st 85 15)), (SH, st)) := m_ev_K _ _ _ _ _ _ _
set_option maxRecDepth 20000 in
theorem eX12_many_70 (d : Nat) (st : Nat → Nat → Int32) (x1 : Int32) : m_ev none d 263 70 [some (.ref 85), some (.int x1)] [] (SH, st) = m_bd (m_evc d 185 [.ref 85] (SH, st)) fun w h => m_ev none d 263 74 [some (.ref 85), some (.int x1)] (w.toList ++ []) h := m_ev_K _ _ _ _ _ _ _
set_option maxRecDepth 20000 in
theorem eX12_many_74 (d : Nat) (st : Nat → Nat → Int32) (x1 t0 : Int32) : m_ev none d 263 74 [some (.ref 85), some (.int x1)] [.int t0] (SH, st) = some (some (.int t0), (SH, st)) := m_ev_K _ _ _ _ _ _ _
set_option maxRecDepth 20000 in
theorem eX12_many_75 (d : Nat) (st : Nat → Nat → Int32) (x1 : Int32) : m_ev none d 263 75 [some (.ref 85), some (.int x1)] [] (SH, st) = some (some (.int (st 85 17)), (SH, st)) := m_ev_K _ _ _ _ _ _ _
set_option maxRecDepth 20000 in
theorem eX12_many_80 (d : Nat) (st : Nat → Nat → Int32) (x1 : Int32) : m_ev none d 263 80 [some (.ref 85), some (.int x1)] [] (SH, st) = m_bd (m_evc d 261 [.ref 85] (SH, st)) fun w h => m_ev none d 263 84 [some (.ref 85), some (.int x1)] (w.toList ++ []) h := m_ev_K _ _ _ _ _ _ _
set_option maxRecDepth 20000 in
theorem eX12_many_84 (d : Nat) (st : Nat → Nat → Int32) (x1 t0 : Int32) : m_ev none d 263 84 [some (.ref 85), some (.int x1)] [.int t0] (SH, st) = some (some (.int t0), (SH, st)) := m_ev_K _ _ _ _ _ _ _
set_option maxRecDepth 20000 in
theorem eX12_many_85 (d : Nat) (st : Nat → Nat → Int32) (x1 : Int32) : m_ev none d 263 85 [some (.ref 85), some (.int x1)] [] (SH, st) = some (some (.int (-1)), (SH, st)) := m_ev_K _ _ _ _ _ _ _
set_option maxRecDepth 20000 in
theorem eX12_keep_0 (d : Nat) (st : Nat → Nat → Int32) : m_ev none d 264 0 [some (.ref 85), none] [] (SH, st) = m_ev none d 264 2 [some (.ref 85), some (.int 0)] [] (SH, st) := m_ev_K _ _ _ _ _ _ _
set_option maxRecDepth 20000 in
theorem eX12_keep_2 (d : Nat) (st : Nat → Nat → Int32) (x1 : Int32) : m_ev none d 264 2 [some (.ref 85), some (.int x1)] [] (SH, st) = if x1 < 310 then (m_ob (m_ix x1 310) fun q1 => m_ob (m_ix x1 310) fun q2 => m_ev none d 264 2 [some (.ref 85), some (.int (x1 + 1))] [] (SH, (m_up st 87 q2 (st 86 q1)))) else (m_ev none d 264 27 [some (.ref 85), some (.int x1)] [] (SH, st)) := m_ev_K _ _ _ _ _ _ _
set_option maxRecDepth 20000 in
theorem eX12_keep_27 (d : Nat) (st : Nat → Nat → Int32) (x1 : Int32) : m_ev none d 264 27 [some (.ref 85), some (.int x1)] [] (SH, st) = some (some (.int 1), (SH, (m_up st 85 3 1))) := m_ev_K _ _ _ _ _ _ _
set_option maxRecDepth 20000 in
theorem eX12_again_0 (d : Nat) (st : Nat → Nat → Int32) : m_ev none d 265 0 [some (.ref 85), none] [] (SH, st) = if (st 85 3) = 0 then (some (some (.int (-3)), (SH, st))) else (m_ev none d 265 10 [some (.ref 85), none] [] (SH, st)) := m_ev_K _ _ _ _ _ _ _
set_option maxRecDepth 20000 in
theorem eX12_again_10 (d : Nat) (st : Nat → Nat → Int32) : m_ev none d 265 10 [some (.ref 85), none] [] (SH, st) = m_ev none d 265 12 [some (.ref 85), some (.int 0)] [] (SH, st) := m_ev_K _ _ _ _ _ _ _
set_option maxRecDepth 20000 in
theorem eX12_again_12 (d : Nat) (st : Nat → Nat → Int32) (x1 : Int32) : m_ev none d 265 12 [some (.ref 85), some (.int x1)] [] (SH, st) = if x1 < 310 then (m_ob (m_ix x1 310) fun q1 => m_ob (m_ix x1 310) fun q2 => m_ev none d 265 12 [some (.ref 85), some (.int (x1 + 1))] [] (SH, (m_up st 86 q2 (st 87 q1)))) else (m_ev none d 265 37 [some (.ref 85), some (.int x1)] [] (SH, st)) := m_ev_K _ _ _ _ _ _ _
set_option maxRecDepth 20000 in
theorem eX12_again_37 (d : Nat) (st : Nat → Nat → Int32) (x1 : Int32) : m_ev none d 265 37 [some (.ref 85), some (.int x1)] [] (SH, st) = some (some (.int (st 86 0)), (SH, st)) := m_ev_K _ _ _ _ _ _ _
