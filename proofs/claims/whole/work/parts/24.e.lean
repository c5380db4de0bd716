set_option maxRecDepth 20000 in
theorem eX6_readTape_0 (d : Nat) (st : Nat → Nat → Int32) : m_ev none d 36 0 [some (.ref 35), none] [] (SH, st) = m_bd (m_evc d 26 [.ref 37] (SH, st)) fun w h => m_ev none d 36 7 [some (.ref 35), none] (w.toList ++ []) h := m_ev_K _ _ _ _ _ _ _
set_option maxRecDepth 20000 in
theorem eX6_readTape_7 (d : Nat) (st : Nat → Nat → Int32) : m_ev none d 36 7 [some (.ref 35), none] [] (SH, st) = m_ev none d 36 29 [some (.ref 35), some (.int 0)] [] (SH, (m_up (m_up (m_up (m_up st 35 5 0) 35 7 0) 35 10 0) 35 12 0)) := m_ev_K _ _ _ _ _ _ _
set_option maxRecDepth 20000 in
theorem eX6_readTape_29 (d : Nat) (st : Nat → Nat → Int32) (x1 : Int32) : m_ev none d 36 29 [some (.ref 35), some (.int x1)] [] (SH, st) = if (st 35 0) < x1 then (m_ev none d 36 83 [some (.ref 35), some (.int x1)] [] (SH, st)) else (m_bd (m_evc d 37 [.ref 35] (SH, st)) fun w h => m_ev none d 36 41 [some (.ref 35), some (.int x1)] (w.toList ++ []) h) := m_ev_K _ _ _ _ _ _ _
set_option maxRecDepth 20000 in
theorem eX6_readTape_41 (d : Nat) (st : Nat → Nat → Int32) (x1 : Int32) : m_ev none d 36 41 [some (.ref 35), some (.int x1)] [] (SH, st) = if (st 35 3) = 4 then (if (st 35 7) = 0 then (m_ev none d 36 64 [some (.ref 35), some (.int x1)] [.int (-1)] (SH, st)) else (m_ev none d 36 60 [some (.ref 35), some (.int x1)] [] (SH, st))) else (m_ev none d 36 65 [some (.ref 35), some (.int x1)] [] (SH, st)) := m_ev_K _ _ _ _ _ _ _
set_option maxRecDepth 20000 in
theorem eX6_readTape_60 (d : Nat) (st : Nat → Nat → Int32) (x1 : Int32) : m_ev none d 36 60 [some (.ref 35), some (.int x1)] [] (SH, st) = m_ev none d 36 64 [some (.ref 35), some (.int x1)] [.int (st 35 0)] (SH, st) := m_ev_K _ _ _ _ _ _ _
set_option maxRecDepth 20000 in
theorem eX6_readTape_64 (d : Nat) (st : Nat → Nat → Int32) (x1 t0 : Int32) : m_ev none d 36 64 [some (.ref 35), some (.int x1)] [.int t0] (SH, st) = some (some (.int t0), (SH, st)) := m_ev_K _ _ _ _ _ _ _
set_option maxRecDepth 20000 in
theorem eX6_readTape_65 (d : Nat) (st : Nat → Nat → Int32) (x1 : Int32) : m_ev none d 36 65 [some (.ref 35), some (.int x1)] [] (SH, st) = m_bd (m_evc d 41 [.ref 35] (SH, st)) fun w h => m_ev none d 36 69 [some (.ref 35), some (.int x1)] (w.toList ++ []) h := m_ev_K _ _ _ _ _ _ _
set_option maxRecDepth 20000 in
theorem eX6_readTape_69 (d : Nat) (st : Nat → Nat → Int32) (x1 t0 : Int32) : m_ev none d 36 69 [some (.ref 35), some (.int x1)] [.int t0] (SH, st) = if t0 = 0 then (some (some (.int (st 35 4)), (SH, st))) else (m_ev none d 36 77 [some (.ref 35), some (.int x1)] [] (SH, st)) := m_ev_K _ _ _ _ _ _ _
set_option maxRecDepth 20000 in
theorem eX6_readTape_77 (d : Nat) (st : Nat → Nat → Int32) (x1 : Int32) : m_ev none d 36 77 [some (.ref 35), some (.int x1)] [] (SH, st) = m_ev none d 36 29 [some (.ref 35), some (.int (x1 + 1))] [] (SH, st) := m_ev_K _ _ _ _ _ _ _
set_option maxRecDepth 20000 in
theorem eX6_readTape_83 (d : Nat) (st : Nat → Nat → Int32) (x1 : Int32) : m_ev none d 36 83 [some (.ref 35), some (.int x1)] [] (SH, st) = some (some (.int (st 35 0)), (SH, st)) := m_ev_K _ _ _ _ _ _ _
set_option maxRecDepth 20000 in
theorem eX6_readToken_0 (d : Nat) (st : Nat → Nat → Int32) : m_ev none d 37 0 [some (.ref 35)] [] (SH, st) = if (st 35 5) < (st 35 0) then (m_ob (m_ix (st 35 5) 200) fun q1 => if (st 36 q1) = 32 then (m_ev none d 37 0 [some (.ref 35)] [] (SH, (m_up st 35 5 ((st 35 5) + 1)))) else (m_ev none d 37 38 [some (.ref 35)] [] (SH, st))) else (m_ev none d 37 38 [some (.ref 35)] [] (SH, st)) := m_ev_K _ _ _ _ _ _ _
set_option maxRecDepth 20000 in
theorem eX6_readToken_38 (d : Nat) (st : Nat → Nat → Int32) : m_ev none d 37 38 [some (.ref 35)] [] (SH, st) = if (st 35 5) < (st 35 0) then (m_ev none d 37 65 [some (.ref 35)] [] (SH, (m_up st 35 4 (st 35 5)))) else (m_ev none d 37 162 [some (.ref 35)] [] (SH, (m_up (m_up st 35 4 (st 35 5)) 35 3 4))) := m_ev_K _ _ _ _ _ _ _
set_option maxRecDepth 20000 in
theorem eX6_readToken_65 (d : Nat) (st : Nat → Nat → Int32) : m_ev none d 37 65 [some (.ref 35)] [] (SH, st) = m_bd (m_evc d 39 [.ref 35, .int (st 35 5)] (SH, st)) fun w h => m_ev none d 37 73 [some (.ref 35)] (w.toList ++ []) h := m_ev_K _ _ _ _ _ _ _
set_option maxRecDepth 20000 in
theorem eX6_readToken_73 (d : Nat) (st : Nat → Nat → Int32) (t0 : Int32) : m_ev none d 37 73 [some (.ref 35)] [.int t0] (SH, st) = if t0 = 0 then (m_ev none d 37 116 [some (.ref 35)] [] (SH, st)) else (m_ev none d 37 81 [some (.ref 35)] [] (SH, (m_up st 35 3 0))) := m_ev_K _ _ _ _ _ _ _
set_option maxRecDepth 20000 in
theorem eX6_readToken_81 (d : Nat) (st : Nat → Nat → Int32) : m_ev none d 37 81 [some (.ref 35)] [] (SH, st) = if (st 35 5) < (st 35 0) then (m_bd (m_evc d 39 [.ref 35, .int (st 35 5)] (SH, st)) fun w h => m_ev none d 37 100 [some (.ref 35)] (w.toList ++ []) h) else (m_ev none d 37 162 [some (.ref 35)] [] (SH, st)) := m_ev_K _ _ _ _ _ _ _
set_option maxRecDepth 20000 in
theorem eX6_readToken_100 (d : Nat) (st : Nat → Nat → Int32) (t0 : Int32) : m_ev none d 37 100 [some (.ref 35)] [.int t0] (SH, st) = if t0 = 0 then (m_ev none d 37 162 [some (.ref 35)] [] (SH, st)) else (m_ev none d 37 81 [some (.ref 35)] [] (SH, (m_up st 35 5 ((st 35 5) + 1)))) := m_ev_K _ _ _ _ _ _ _
set_option maxRecDepth 20000 in
theorem eX6_readToken_116 (d : Nat) (st : Nat → Nat → Int32) : m_ev none d 37 116 [some (.ref 35)] [] (SH, st) = m_bd (m_evc d 40 [.ref 35, .int (st 35 5)] (SH, st)) fun w h => m_ev none d 37 124 [some (.ref 35)] (w.toList ++ []) h := m_ev_K _ _ _ _ _ _ _
set_option maxRecDepth 20000 in
theorem eX6_readToken_124 (d : Nat) (st : Nat → Nat → Int32) (t0 : Int32) : m_ev none d 37 124 [some (.ref 35)] [.int t0] (SH, st) = if t0 = 0 then (m_ev none d 37 134 [some (.ref 35)] [] (SH, st)) else (m_bd (m_evc d 38 [.ref 35] (SH, st)) fun w h => m_ev none d 37 131 [some (.ref 35)] (w.toList ++ []) h) := m_ev_K _ _ _ _ _ _ _
set_option maxRecDepth 20000 in
theorem eX6_readToken_131 (d : Nat) (st : Nat → Nat → Int32) : m_ev none d 37 131 [some (.ref 35)] [] (SH, st) = m_ev none d 37 162 [some (.ref 35)] [] (SH, st) := m_ev_K _ _ _ _ _ _ _
set_option maxRecDepth 20000 in
theorem eX6_readToken_134 (d : Nat) (st : Nat → Nat → Int32) : m_ev none d 37 134 [some (.ref 35)] [] (SH, st) = m_ob (m_ix (st 35 5) 200) fun q1 => m_ev none d 37 162 [some (.ref 35)] [] (SH, (m_up (m_up (m_up st 35 3 2) 35 6 (st 36 q1)) 35 5 ((st 35 5) + 1))) := m_ev_K _ _ _ _ _ _ _
set_option maxRecDepth 20000 in
theorem eX6_readToken_162 (d : Nat) (st : Nat → Nat → Int32) : m_ev none d 37 162 [some (.ref 35)] [] (SH, st) = some (none, (SH, st)) := m_ev_K _ _ _ _ _ _ _
set_option maxRecDepth 20000 in
theorem eX6_readNumber_0 (d : Nat) (st : Nat → Nat → Int32) : m_ev none d 38 0 [some (.ref 35)] [] (SH, st) = m_ev none d 38 5 [some (.ref 35)] [] (SH, (m_up st 35 6 0)) := m_ev_K _ _ _ _ _ _ _
set_option maxRecDepth 20000 in
theorem eX6_readNumber_5 (d : Nat) (st : Nat → Nat → Int32) : m_ev none d 38 5 [some (.ref 35)] [] (SH, st) = if (st 35 5) < (st 35 0) then (m_bd (m_evc d 40 [.ref 35, .int (st 35 5)] (SH, st)) fun w h => m_ev none d 38 24 [some (.ref 35)] (w.toList ++ []) h) else (m_ev none d 38 77 [some (.ref 35)] [] (SH, st)) := m_ev_K _ _ _ _ _ _ _
set_option maxRecDepth 20000 in
theorem eX6_readNumber_24 (d : Nat) (st : Nat → Nat → Int32) (t0 : Int32) : m_ev none d 38 24 [some (.ref 35)] [.int t0] (SH, st) = if t0 = 0 then (m_ev none d 38 77 [some (.ref 35)] [] (SH, st)) else (if ((st 35 5) - (st 35 4)) < 4 then (m_ob (m_ix (st 35 5) 200) fun q1 => m_ev none d 38 64 [some (.ref 35)] [] (SH, (m_up st 35 6 ((((st 35 6) * 10) + (st 36 q1)) - 48)))) else (m_ev none d 38 64 [some (.ref 35)] [] (SH, st))) := m_ev_K _ _ _ _ _ _ _
set_option maxRecDepth 20000 in
theorem eX6_readNumber_64 (d : Nat) (st : Nat → Nat → Int32) : m_ev none d 38 64 [some (.ref 35)] [] (SH, st) = m_ev none d 38 5 [some (.ref 35)] [] (SH, (m_up st 35 5 ((st 35 5) + 1))) := m_ev_K _ _ _ _ _ _ _
set_option maxRecDepth 20000 in
theorem eX6_readNumber_77 (d : Nat) (st : Nat → Nat → Int32) : m_ev none d 38 77 [some (.ref 35)] [] (SH, st) = if 4 < ((st 35 5) - (st 35 4)) then (m_ev none d 38 96 [some (.ref 35)] [.int 3, .ref 35] (SH, st)) else (m_ev none d 38 95 [some (.ref 35)] [.ref 35] (SH, st)) := m_ev_K _ _ _ _ _ _ _
set_option maxRecDepth 20000 in
theorem eX6_readNumber_95 (d : Nat) (st : Nat → Nat → Int32) : m_ev none d 38 95 [some (.ref 35)] [.ref 35] (SH, st) = m_ev none d 38 96 [some (.ref 35)] [.int 1, .ref 35] (SH, st) := m_ev_K _ _ _ _ _ _ _
set_option maxRecDepth 20000 in
theorem eX6_readNumber_96 (d : Nat) (st : Nat → Nat → Int32) (t0 : Int32) : m_ev none d 38 96 [some (.ref 35)] [.int t0, .ref 35] (SH, st) = some (none, (SH, (m_up st 35 3 t0))) := m_ev_K _ _ _ _ _ _ _
set_option maxRecDepth 20000 in
theorem eX6_isLetter_0 (d : Nat) (st : Nat → Nat → Int32) (x1 : Int32) : m_ev none d 39 0 [some (.ref 35), some (.int x1)] [] (SH, st) = m_ob (m_ix x1 200) fun q1 => if (st 36 q1) < 97 then (m_ev none d 39 26 [some (.ref 35), some (.int x1)] [] (SH, st)) else (m_ob (m_ix x1 200) fun q2 => if 122 < (st 36 q2) then (m_ev none d 39 26 [some (.ref 35), some (.int x1)] [] (SH, st)) else (m_ev none d 39 27 [some (.ref 35), some (.int x1)] [.int 1] (SH, st))) := m_ev_K _ _ _ _ _ _ _
set_option maxRecDepth 20000 in
theorem eX6_isLetter_26 (d : Nat) (st : Nat → Nat → Int32) (x1 : Int32) : m_ev none d 39 26 [some (.ref 35), some (.int x1)] [] (SH, st) = m_ev none d 39 27 [some (.ref 35), some (.int x1)] [.int 0] (SH, st) := m_ev_K _ _ _ _ _ _ _
set_option maxRecDepth 20000 in
theorem eX6_isLetter_27 (d : Nat) (st : Nat → Nat → Int32) (x1 t0 : Int32) : m_ev none d 39 27 [some (.ref 35), some (.int x1)] [.int t0] (SH, st) = if t0 = 0 ∨ t0 = 1 then some (some (.int t0), (SH, st)) else none := m_ev_K _ _ _ _ _ _ _
set_option maxRecDepth 20000 in
theorem eX6_isDigit_0 (d : Nat) (st : Nat → Nat → Int32) (x1 : Int32) : m_ev none d 40 0 [some (.ref 35), some (.int x1)] [] (SH, st) = m_ob (m_ix x1 200) fun q1 => if (st 36 q1) < 48 then (m_ev none d 40 26 [some (.ref 35), some (.int x1)] [] (SH, st)) else (m_ob (m_ix x1 200) fun q2 => if 57 < (st 36 q2) then (m_ev none d 40 26 [some (.ref 35), some (.int x1)] [] (SH, st)) else (m_ev none d 40 27 [some (.ref 35), some (.int x1)] [.int 1] (SH, st))) := m_ev_K _ _ _ _ _ _ _
set_option maxRecDepth 20000 in
theorem eX6_isDigit_26 (d : Nat) (st : Nat → Nat → Int32) (x1 : Int32) : m_ev none d 40 26 [some (.ref 35), some (.int x1)] [] (SH, st) = m_ev none d 40 27 [some (.ref 35), some (.int x1)] [.int 0] (SH, st) := m_ev_K _ _ _ _ _ _ _
set_option maxRecDepth 20000 in
theorem eX6_isDigit_27 (d : Nat) (st : Nat → Nat → Int32) (x1 t0 : Int32) : m_ev none d 40 27 [some (.ref 35), some (.int x1)] [.int t0] (SH, st) = if t0 = 0 ∨ t0 = 1 then some (some (.int t0), (SH, st)) else none := m_ev_K _ _ _ _ _ _ _
set_option maxRecDepth 20000 in
theorem eX6_takesToken_0 (d : Nat) (st : Nat → Nat → Int32) : m_ev none d 41 0 [some (.ref 35)] [] (SH, st) = m_ev none d 41 (m_case (st 35 7) [[0, 48], [1, 53], [2, 73], [3, 100], [4, 105], [5, 110], [6, 137]] 142) [some (.ref 35)] [] (SH, st) := m_ev_K _ _ _ _ _ _ _
set_option maxRecDepth 20000 in
theorem eX6_takesToken_48 (d : Nat) (st : Nat → Nat → Int32) : m_ev none d 41 48 [some (.ref 35)] [] (SH, st) = m_bd (m_evc d 42 [.ref 35] (SH, st)) fun w h => m_ev none d 41 52 [some (.ref 35)] (w.toList ++ []) h := m_ev_K _ _ _ _ _ _ _
set_option maxRecDepth 20000 in
theorem eX6_takesToken_52 (d : Nat) (st : Nat → Nat → Int32) (t0 : Int32) : m_ev none d 41 52 [some (.ref 35)] [.int t0] (SH, st) = if t0 = 0 ∨ t0 = 1 then some (some (.int t0), (SH, st)) else none := m_ev_K _ _ _ _ _ _ _
set_option maxRecDepth 20000 in
theorem eX6_takesToken_53 (d : Nat) (st : Nat → Nat → Int32) : m_ev none d 41 53 [some (.ref 35)] [] (SH, st) = m_bd (m_evc d 43 [.ref 35] (SH, st)) fun w h => m_ev none d 41 57 [some (.ref 35)] (w.toList ++ []) h := m_ev_K _ _ _ _ _ _ _
set_option maxRecDepth 20000 in
theorem eX6_takesToken_57 (d : Nat) (st : Nat → Nat → Int32) (t0 : Int32) : m_ev none d 41 57 [some (.ref 35)] [.int t0] (SH, st) = if t0 = 0 then (m_bd (m_evc d 44 [.ref 35] (SH, st)) fun w h => m_ev none d 41 64 [some (.ref 35)] (w.toList ++ []) h) else (m_ev none d 41 67 [some (.ref 35)] [] (SH, st)) := m_ev_K _ _ _ _ _ _ _
set_option maxRecDepth 20000 in
theorem eX6_takesToken_64 (d : Nat) (st : Nat → Nat → Int32) (t0 : Int32) : m_ev none d 41 64 [some (.ref 35)] [.int t0] (SH, st) = if t0 = 0 then (m_ev none d 41 71 [some (.ref 35)] [] (SH, st)) else (m_ev none d 41 67 [some (.ref 35)] [] (SH, st)) := m_ev_K _ _ _ _ _ _ _
set_option maxRecDepth 20000 in
theorem eX6_takesToken_67 (d : Nat) (st : Nat → Nat → Int32) : m_ev none d 41 67 [some (.ref 35)] [] (SH, st) = m_ev none d 41 72 [some (.ref 35)] [.int 1] (SH, st) := m_ev_K _ _ _ _ _ _ _
set_option maxRecDepth 20000 in
theorem eX6_takesToken_71 (d : Nat) (st : Nat → Nat → Int32) : m_ev none d 41 71 [some (.ref 35)] [] (SH, st) = m_ev none d 41 72 [some (.ref 35)] [.int 0] (SH, st) := m_ev_K _ _ _ _ _ _ _
set_option maxRecDepth 20000 in
theorem eX6_takesToken_72 (d : Nat) (st : Nat → Nat → Int32) (t0 : Int32) : m_ev none d 41 72 [some (.ref 35)] [.int t0] (SH, st) = if t0 = 0 ∨ t0 = 1 then some (some (.int t0), (SH, st)) else none := m_ev_K _ _ _ _ _ _ _
set_option maxRecDepth 20000 in
theorem eX6_takesToken_73 (d : Nat) (st : Nat → Nat → Int32) : m_ev none d 41 73 [some (.ref 35)] [] (SH, st) = m_bd (m_evc d 45 [.ref 35] (SH, st)) fun w h => m_ev none d 41 77 [some (.ref 35)] (w.toList ++ []) h := m_ev_K _ _ _ _ _ _ _
set_option maxRecDepth 20000 in
theorem eX6_takesToken_77 (d : Nat) (st : Nat → Nat → Int32) (t0 : Int32) : m_ev none d 41 77 [some (.ref 35)] [.int t0] (SH, st) = if t0 = 0 then (m_bd (m_evc d 46 [.ref 35] (SH, st)) fun w h => m_ev none d 41 84 [some (.ref 35)] (w.toList ++ []) h) else (m_ev none d 41 94 [some (.ref 35)] [] (SH, st)) := m_ev_K _ _ _ _ _ _ _
set_option maxRecDepth 20000 in
theorem eX6_takesToken_84 (d : Nat) (st : Nat → Nat → Int32) (t0 : Int32) : m_ev none d 41 84 [some (.ref 35)] [.int t0] (SH, st) = if t0 = 0 then (m_bd (m_evc d 47 [.ref 35] (SH, st)) fun w h => m_ev none d 41 91 [some (.ref 35)] (w.toList ++ []) h) else (m_ev none d 41 94 [some (.ref 35)] [] (SH, st)) := m_ev_K _ _ _ _ _ _ _
set_option maxRecDepth 20000 in
theorem eX6_takesToken_91 (d : Nat) (st : Nat → Nat → Int32) (t0 : Int32) : m_ev none d 41 91 [some (.ref 35)] [.int t0] (SH, st) = if t0 = 0 then (m_ev none d 41 98 [some (.ref 35)] [] (SH, st)) else (m_ev none d 41 94 [some (.ref 35)] [] (SH, st)) := m_ev_K _ _ _ _ _ _ _
set_option maxRecDepth 20000 in
theorem eX6_takesToken_94 (d : Nat) (st : Nat → Nat → Int32) : m_ev none d 41 94 [some (.ref 35)] [] (SH, st) = m_ev none d 41 99 [some (.ref 35)] [.int 1] (SH, st) := m_ev_K _ _ _ _ _ _ _
set_option maxRecDepth 20000 in
theorem eX6_takesToken_98 (d : Nat) (st : Nat → Nat → Int32) : m_ev none d 41 98 [some (.ref 35)] [] (SH, st) = m_ev none d 41 99 [some (.ref 35)] [.int 0] (SH, st) := m_ev_K _ _ _ _ _ _ _
set_option maxRecDepth 20000 in
theorem eX6_takesToken_99 (d : Nat) (st : Nat → Nat → Int32) (t0 : Int32) : m_ev none d 41 99 [some (.ref 35)] [.int t0] (SH, st) = if t0 = 0 ∨ t0 = 1 then some (some (.int t0), (SH, st)) else none := m_ev_K _ _ _ _ _ _ _
set_option maxRecDepth 20000 in
theorem eX6_takesToken_100 (d : Nat) (st : Nat → Nat → Int32) : m_ev none d 41 100 [some (.ref 35)] [] (SH, st) = m_bd (m_evc d 48 [.ref 35] (SH, st)) fun w h => m_ev none d 41 104 [some (.ref 35)] (w.toList ++ []) h := m_ev_K _ _ _ _ _ _ _
set_option maxRecDepth 20000 in
theorem eX6_takesToken_104 (d : Nat) (st : Nat → Nat → Int32) (t0 : Int32) : m_ev none d 41 104 [some (.ref 35)] [.int t0] (SH, st) = if t0 = 0 ∨ t0 = 1 then some (some (.int t0), (SH, st)) else none := m_ev_K _ _ _ _ _ _ _
set_option maxRecDepth 20000 in
theorem eX6_takesToken_105 (d : Nat) (st : Nat → Nat → Int32) : m_ev none d 41 105 [some (.ref 35)] [] (SH, st) = m_bd (m_evc d 49 [.ref 35] (SH, st)) fun w h => m_ev none d 41 109 [some (.ref 35)] (w.toList ++ []) h := m_ev_K _ _ _ _ _ _ _
set_option maxRecDepth 20000 in
theorem eX6_takesToken_109 (d : Nat) (st : Nat → Nat → Int32) (t0 : Int32) : m_ev none d 41 109 [some (.ref 35)] [.int t0] (SH, st) = if t0 = 0 ∨ t0 = 1 then some (some (.int t0), (SH, st)) else none := m_ev_K _ _ _ _ _ _ _
set_option maxRecDepth 20000 in
theorem eX6_takesToken_110 (d : Nat) (st : Nat → Nat → Int32) : m_ev none d 41 110 [some (.ref 35)] [] (SH, st) = m_bd (m_evc d 50 [.ref 35] (SH, st)) fun w h => m_ev none d 41 114 [some (.ref 35)] (w.toList ++ []) h := m_ev_K _ _ _ _ _ _ _
set_option maxRecDepth 20000 in
theorem eX6_takesToken_114 (d : Nat) (st : Nat → Nat → Int32) (t0 : Int32) : m_ev none d 41 114 [some (.ref 35)] [.int t0] (SH, st) = if t0 = 0 then (m_bd (m_evc d 51 [.ref 35] (SH, st)) fun w h => m_ev none d 41 121 [some (.ref 35)] (w.toList ++ []) h) else (m_ev none d 41 131 [some (.ref 35)] [] (SH, st)) := m_ev_K _ _ _ _ _ _ _
set_option maxRecDepth 20000 in
theorem eX6_takesToken_121 (d : Nat) (st : Nat → Nat → Int32) (t0 : Int32) : m_ev none d 41 121 [some (.ref 35)] [.int t0] (SH, st) = if t0 = 0 then (m_bd (m_evc d 44 [.ref 35] (SH, st)) fun w h => m_ev none d 41 128 [some (.ref 35)] (w.toList ++ []) h) else (m_ev none d 41 131 [some (.ref 35)] [] (SH, st)) := m_ev_K _ _ _ _ _ _ _
set_option maxRecDepth 20000 in
theorem eX6_takesToken_128 (d : Nat) (st : Nat → Nat → Int32) (t0 : Int32) : m_ev none d 41 128 [some (.ref 35)] [.int t0] (SH, st) = if t0 = 0 then (m_ev none d 41 135 [some (.ref 35)] [] (SH, st)) else (m_ev none d 41 131 [some (.ref 35)] [] (SH, st)) := m_ev_K _ _ _ _ _ _ _
set_option maxRecDepth 20000 in
theorem eX6_takesToken_131 (d : Nat) (st : Nat → Nat → Int32) : m_ev none d 41 131 [some (.ref 35)] [] (SH, st) = m_ev none d 41 136 [some (.ref 35)] [.int 1] (SH, st) := m_ev_K _ _ _ _ _ _ _
set_option maxRecDepth 20000 in
theorem eX6_takesToken_135 (d : Nat) (st : Nat → Nat → Int32) : m_ev none d 41 135 [some (.ref 35)] [] (SH, st) = m_ev none d 41 136 [some (.ref 35)] [.int 0] (SH, st) := m_ev_K _ _ _ _ _ _ _
set_option maxRecDepth 20000 in
theorem eX6_takesToken_136 (d : Nat) (st : Nat → Nat → Int32) (t0 : Int32) : m_ev none d 41 136 [some (.ref 35)] [.int t0] (SH, st) = if t0 = 0 ∨ t0 = 1 then some (some (.int t0), (SH, st)) else none := m_ev_K _ _ _ _ _ _ _
set_option maxRecDepth 20000 in
theorem eX6_takesToken_137 (d : Nat) (st : Nat → Nat → Int32) : m_ev none d 41 137 [some (.ref 35)] [] (SH, st) = m_bd (m_evc d 52 [.ref 35] (SH, st)) fun w h => m_ev none d 41 141 [some (.ref 35)] (w.toList ++ []) h := m_ev_K _ _ _ _ _ _ _
set_option maxRecDepth 20000 in
theorem eX6_takesToken_141 (d : Nat) (st : Nat → Nat → Int32) (t0 : Int32) : m_ev none d 41 141 [some (.ref 35)] [.int t0] (SH, st) = if t0 = 0 ∨ t0 = 1 then some (some (.int t0), (SH, st)) else none := m_ev_K _ _ _ _ _ _ _
set_option maxRecDepth 20000 in
theorem eX6_takesToken_142 (d : Nat) (st : Nat → Nat → Int32) : m_ev none d 41 142 [some (.ref 35)] [] (SH, st) = m_bd (m_evc d 53 [.ref 35] (SH, st)) fun w h => m_ev none d 41 146 [some (.ref 35)] (w.toList ++ []) h := m_ev_K _ _ _ _ _ _ _
set_option maxRecDepth 20000 in
theorem eX6_takesToken_146 (d : Nat) (st : Nat → Nat → Int32) (t0 : Int32) : m_ev none d 41 146 [some (.ref 35)] [.int t0] (SH, st) = if t0 = 0 ∨ t0 = 1 then some (some (.int t0), (SH, st)) else none := m_ev_K _ _ _ _ _ _ _
set_option maxRecDepth 20000 in
theorem eX6_takesKind_0 (d : Nat) (st : Nat → Nat → Int32) : m_ev none d 42 0 [some (.ref 35), none] [] (SH, st) = m_bd (m_evc d 59 [.ref 35, .ref 1000000] (SH, st)) fun w h => m_ev none d 42 6 [some (.ref 35), none] (w.toList ++ []) h := m_ev_K _ _ _ _ _ _ _
set_option maxRecDepth 20000 in
theorem eX6_takesKind_6 (d : Nat) (st : Nat → Nat → Int32) (t0 : Int32) : m_ev none d 42 6 [some (.ref 35), none] [.int t0] (SH, st) = if t0 < 0 then (m_ev none d 42 23 [some (.ref 35), some (.int t0)] [] (SH, st)) else (if (st 37 0) < 8 then (m_ev none d 42 25 [some (.ref 35), some (.int t0)] [] (SH, st)) else (m_ev none d 42 23 [some (.ref 35), some (.int t0)] [] (SH, st))) := m_ev_K _ _ _ _ _ _ _
set_option maxRecDepth 20000 in
theorem eX6_takesKind_23 (d : Nat) (st : Nat → Nat → Int32) (x1 : Int32) : m_ev none d 42 23 [some (.ref 35), some (.int x1)] [] (SH, st) = some (some (.int 0), (SH, st)) := m_ev_K _ _ _ _ _ _ _
set_option maxRecDepth 20000 in
theorem eX6_takesKind_25 (d : Nat) (st : Nat → Nat → Int32) (x1 : Int32) : m_ev none d 42 25 [some (.ref 35), some (.int x1)] [] (SH, st) = m_ob (m_ix (st 37 0) 8) fun q1 => m_ob (m_ix (st 37 0) 8) fun q2 => some (some (.int 1), (SH, (m_up (m_up (m_up st 38 q1 x1) 40 q2 0) 35 7 1))) := m_ev_K _ _ _ _ _ _ _
set_option maxRecDepth 20000 in
theorem eX6_takesIf_0 (d : Nat) (st : Nat → Nat → Int32) : m_ev none d 43 0 [some (.ref 35)] [] (SH, st) = m_bd (m_evc d 59 [.ref 35, .ref 1000001] (SH, st)) fun w h => m_ev none d 43 8 [some (.ref 35)] (w.toList ++ [.int 2, .ref 35]) h := m_ev_K _ _ _ _ _ _ _
set_option maxRecDepth 20000 in
theorem eX6_takesIf_8 (d : Nat) (st : Nat → Nat → Int32) (t0 t1 : Int32) : m_ev none d 43 8 [some (.ref 35)] [.int t0, .int t1, .ref 35] (SH, st) = if t0 = 0 then (m_ev none d 43 16 [some (.ref 35)] [.int 1, .int t1, .ref 35] (SH, st)) else (m_ev none d 43 15 [some (.ref 35)] [.int t1, .ref 35] (SH, st)) := m_ev_K _ _ _ _ _ _ _
set_option maxRecDepth 20000 in
theorem eX6_takesIf_15 (d : Nat) (st : Nat → Nat → Int32) (t0 : Int32) : m_ev none d 43 15 [some (.ref 35)] [.int t0, .ref 35] (SH, st) = m_ev none d 43 16 [some (.ref 35)] [.int 0, .int t0, .ref 35] (SH, st) := m_ev_K _ _ _ _ _ _ _
set_option maxRecDepth 20000 in
theorem eX6_takesIf_16 (d : Nat) (st : Nat → Nat → Int32) (t0 t1 : Int32) : m_ev none d 43 16 [some (.ref 35)] [.int t0, .int t1, .ref 35] (SH, st) = m_bd (m_evc d 54 [.ref 35, .int t1, .int t0] (SH, st)) fun w h => m_ev none d 43 19 [some (.ref 35)] (w.toList ++ []) h := m_ev_K _ _ _ _ _ _ _
set_option maxRecDepth 20000 in
theorem eX6_takesIf_19 (d : Nat) (st : Nat → Nat → Int32) (t0 : Int32) : m_ev none d 43 19 [some (.ref 35)] [.int t0] (SH, st) = if t0 = 0 ∨ t0 = 1 then some (some (.int t0), (SH, st)) else none := m_ev_K _ _ _ _ _ _ _
set_option maxRecDepth 20000 in
theorem eX6_takesDeed_0 (d : Nat) (st : Nat → Nat → Int32) : m_ev none d 44 0 [some (.ref 35), none] [] (SH, st) = m_bd (m_evc d 59 [.ref 35, .ref 1000002] (SH, st)) fun w h => m_ev none d 44 6 [some (.ref 35), none] (w.toList ++ []) h := m_ev_K _ _ _ _ _ _ _
set_option maxRecDepth 20000 in
theorem eX6_takesDeed_6 (d : Nat) (st : Nat → Nat → Int32) (t0 : Int32) : m_ev none d 44 6 [some (.ref 35), none] [.int t0] (SH, st) = if t0 < 0 then (m_ev none d 44 30 [some (.ref 35), some (.int t0)] [] (SH, st)) else (if 0 < (st 35 10) then (m_ev none d 44 30 [some (.ref 35), some (.int t0)] [] (SH, st)) else (if (st 37 0) < 8 then (m_ev none d 44 32 [some (.ref 35), some (.int t0)] [] (SH, st)) else (m_ev none d 44 30 [some (.ref 35), some (.int t0)] [] (SH, st)))) := m_ev_K _ _ _ _ _ _ _
set_option maxRecDepth 20000 in
theorem eX6_takesDeed_30 (d : Nat) (st : Nat → Nat → Int32) (x1 : Int32) : m_ev none d 44 30 [some (.ref 35), some (.int x1)] [] (SH, st) = some (some (.int 0), (SH, st)) := m_ev_K _ _ _ _ _ _ _
set_option maxRecDepth 20000 in
theorem eX6_takesDeed_32 (d : Nat) (st : Nat → Nat → Int32) (x1 : Int32) : m_ev none d 44 32 [some (.ref 35), some (.int x1)] [] (SH, st) = m_bd (m_evc d 58 [.ref 35, .int 1] (SH, st)) fun w h => m_ev none d 44 37 [some (.ref 35), some (.int x1)] (w.toList ++ []) h := m_ev_K _ _ _ _ _ _ _
set_option maxRecDepth 20000 in
theorem eX6_takesDeed_37 (d : Nat) (st : Nat → Nat → Int32) (x1 : Int32) : m_ev none d 44 37 [some (.ref 35), some (.int x1)] [] (SH, st) = m_ob (m_ix (st 37 0) 8) fun q1 => if x1 = 3 then (m_ev none d 44 66 [some (.ref 35), some (.int x1)] [.int 7, .ref 35] (SH, (m_up st 39 q1 x1))) else (m_ev none d 44 64 [some (.ref 35), some (.int x1)] [.ref 35] (SH, (m_up st 39 q1 x1))) := m_ev_K _ _ _ _ _ _ _
set_option maxRecDepth 20000 in
theorem eX6_takesDeed_64 (d : Nat) (st : Nat → Nat → Int32) (x1 : Int32) : m_ev none d 44 64 [some (.ref 35), some (.int x1)] [.ref 35] (SH, st) = m_ev none d 44 66 [some (.ref 35), some (.int x1)] [.int 6, .ref 35] (SH, st) := m_ev_K _ _ _ _ _ _ _
set_option maxRecDepth 20000 in
theorem eX6_takesDeed_66 (d : Nat) (st : Nat → Nat → Int32) (x1 t0 : Int32) : m_ev none d 44 66 [some (.ref 35), some (.int x1)] [.int t0, .ref 35] (SH, st) = some (some (.int 1), (SH, (m_up st 35 7 t0))) := m_ev_K _ _ _ _ _ _ _
set_option maxRecDepth 20000 in
theorem eX6_takesNot_0 (d : Nat) (st : Nat → Nat → Int32) : m_ev none d 45 0 [some (.ref 35)] [] (SH, st) = m_bd (m_evc d 59 [.ref 35, .ref 1000003] (SH, st)) fun w h => m_ev none d 45 6 [some (.ref 35)] (w.toList ++ []) h := m_ev_K _ _ _ _ _ _ _
set_option maxRecDepth 20000 in
theorem eX6_takesNot_6 (d : Nat) (st : Nat → Nat → Int32) (t0 : Int32) : m_ev none d 45 6 [some (.ref 35)] [.int t0] (SH, st) = if t0 = 0 then (m_ev none d 45 11 [some (.ref 35)] [] (SH, st)) else (some (some (.int 0), (SH, st))) := m_ev_K _ _ _ _ _ _ _
set_option maxRecDepth 20000 in
theorem eX6_takesNot_11 (d : Nat) (st : Nat → Nat → Int32) : m_ev none d 45 11 [some (.ref 35)] [] (SH, st) = m_bd (m_evc d 57 [.ref 35, .int 3] (SH, st)) fun w h => m_ev none d 45 16 [some (.ref 35)] (w.toList ++ []) h := m_ev_K _ _ _ _ _ _ _
set_option maxRecDepth 20000 in
theorem eX6_takesNot_16 (d : Nat) (st : Nat → Nat → Int32) : m_ev none d 45 16 [some (.ref 35)] [] (SH, st) = some (some (.int 1), (SH, st)) := m_ev_K _ _ _ _ _ _ _
set_option maxRecDepth 20000 in
theorem eX6_takesOpening_0 (d : Nat) (st : Nat → Nat → Int32) : m_ev none d 46 0 [some (.ref 35)] [] (SH, st) = m_bd (m_evc d 55 [.ref 35, .int 40] (SH, st)) fun w h => m_ev none d 46 6 [some (.ref 35)] (w.toList ++ []) h := m_ev_K _ _ _ _ _ _ _
set_option maxRecDepth 20000 in
theorem eX6_takesOpening_6 (d : Nat) (st : Nat → Nat → Int32) (t0 : Int32) : m_ev none d 46 6 [some (.ref 35)] [.int t0] (SH, st) = if t0 = 0 then (m_ev none d 46 17 [some (.ref 35)] [] (SH, st)) else (if (st 35 10) < 3 then (m_ev none d 46 19 [some (.ref 35)] [] (SH, st)) else (m_ev none d 46 17 [some (.ref 35)] [] (SH, st))) := m_ev_K _ _ _ _ _ _ _
set_option maxRecDepth 20000 in
theorem eX6_takesOpening_17 (d : Nat) (st : Nat → Nat → Int32) : m_ev none d 46 17 [some (.ref 35)] [] (SH, st) = some (some (.int 0), (SH, st)) := m_ev_K _ _ _ _ _ _ _
set_option maxRecDepth 20000 in
theorem eX6_takesOpening_19 (d : Nat) (st : Nat → Nat → Int32) : m_ev none d 46 19 [some (.ref 35)] [] (SH, st) = m_bd (m_evc d 57 [.ref 35, .int 0] (SH, (m_up st 35 10 ((st 35 10) + 1)))) fun w h => m_ev none d 46 34 [some (.ref 35)] (w.toList ++ []) h := m_ev_K _ _ _ _ _ _ _
set_option maxRecDepth 20000 in
theorem eX6_takesOpening_34 (d : Nat) (st : Nat → Nat → Int32) : m_ev none d 46 34 [some (.ref 35)] [] (SH, st) = some (some (.int 1), (SH, st)) := m_ev_K _ _ _ _ _ _ _
set_option maxRecDepth 20000 in
theorem eX6_takesLeft_0 (d : Nat) (st : Nat → Nat → Int32) : m_ev none d 47 0 [some (.ref 35)] [] (SH, st) = m_bd (m_evc d 56 [.ref 35] (SH, st)) fun w h => m_ev none d 47 5 [some (.ref 35)] (w.toList ++ [.ref 35]) h := m_ev_K _ _ _ _ _ _ _
set_option maxRecDepth 20000 in
theorem eX6_takesLeft_5 (d : Nat) (st : Nat → Nat → Int32) (t0 : Int32) : m_ev none d 47 5 [some (.ref 35)] [.int t0, .ref 35] (SH, st) = if t0 < 0 then (m_ev none d 47 21 [some (.ref 35)] [.int 3, .ref 35] (SH, (m_up st 35 8 t0))) else (m_ev none d 47 22 [some (.ref 35)] [.int 1, .int 3, .ref 35] (SH, (m_up st 35 8 t0))) := m_ev_K _ _ _ _ _ _ _
set_option maxRecDepth 20000 in
theorem eX6_takesLeft_21 (d : Nat) (st : Nat → Nat → Int32) (t0 : Int32) : m_ev none d 47 21 [some (.ref 35)] [.int t0, .ref 35] (SH, st) = m_ev none d 47 22 [some (.ref 35)] [.int 0, .int t0, .ref 35] (SH, st) := m_ev_K _ _ _ _ _ _ _
set_option maxRecDepth 20000 in
theorem eX6_takesLeft_22 (d : Nat) (st : Nat → Nat → Int32) (t0 t1 : Int32) : m_ev none d 47 22 [some (.ref 35)] [.int t0, .int t1, .ref 35] (SH, st) = m_bd (m_evc d 54 [.ref 35, .int t1, .int t0] (SH, st)) fun w h => m_ev none d 47 25 [some (.ref 35)] (w.toList ++ []) h := m_ev_K _ _ _ _ _ _ _
set_option maxRecDepth 20000 in
theorem eX6_takesLeft_25 (d : Nat) (st : Nat → Nat → Int32) (t0 : Int32) : m_ev none d 47 25 [some (.ref 35)] [.int t0] (SH, st) = if t0 = 0 ∨ t0 = 1 then some (some (.int t0), (SH, st)) else none := m_ev_K _ _ _ _ _ _ _
set_option maxRecDepth 20000 in
theorem eX6_takesSign_0 (d : Nat) (st : Nat → Nat → Int32) : m_ev none d 48 0 [some (.ref 35)] [] (SH, st) = m_bd (m_evc d 55 [.ref 35, .int 60] (SH, st)) fun w h => m_ev none d 48 7 [some (.ref 35)] (w.toList ++ [.ref 35]) h := m_ev_K _ _ _ _ _ _ _
set_option maxRecDepth 20000 in
theorem eX6_takesSign_7 (d : Nat) (st : Nat → Nat → Int32) (t0 : Int32) : m_ev none d 48 7 [some (.ref 35)] [.int t0, .ref 35] (SH, st) = if t0 = 0 then (m_ev none d 48 14 [some (.ref 35)] [.ref 35] (SH, st)) else (m_ev none d 48 41 [some (.ref 35)] [.int 1, .ref 35] (SH, st)) := m_ev_K _ _ _ _ _ _ _
set_option maxRecDepth 20000 in
theorem eX6_takesSign_14 (d : Nat) (st : Nat → Nat → Int32) : m_ev none d 48 14 [some (.ref 35)] [.ref 35] (SH, st) = m_bd (m_evc d 55 [.ref 35, .int 61] (SH, st)) fun w h => m_ev none d 48 20 [some (.ref 35)] (w.toList ++ [.ref 35]) h := m_ev_K _ _ _ _ _ _ _
set_option maxRecDepth 20000 in
theorem eX6_takesSign_20 (d : Nat) (st : Nat → Nat → Int32) (t0 : Int32) : m_ev none d 48 20 [some (.ref 35)] [.int t0, .ref 35] (SH, st) = if t0 = 0 then (m_ev none d 48 27 [some (.ref 35)] [.ref 35] (SH, st)) else (m_ev none d 48 41 [some (.ref 35)] [.int 2, .ref 35] (SH, st)) := m_ev_K _ _ _ _ _ _ _
set_option maxRecDepth 20000 in
theorem eX6_takesSign_27 (d : Nat) (st : Nat → Nat → Int32) : m_ev none d 48 27 [some (.ref 35)] [.ref 35] (SH, st) = m_bd (m_evc d 55 [.ref 35, .int 62] (SH, st)) fun w h => m_ev none d 48 33 [some (.ref 35)] (w.toList ++ [.ref 35]) h := m_ev_K _ _ _ _ _ _ _
set_option maxRecDepth 20000 in
theorem eX6_takesSign_33 (d : Nat) (st : Nat → Nat → Int32) (t0 : Int32) : m_ev none d 48 33 [some (.ref 35)] [.int t0, .ref 35] (SH, st) = if t0 = 0 then (m_ev none d 48 40 [some (.ref 35)] [.ref 35] (SH, st)) else (m_ev none d 48 41 [some (.ref 35)] [.int 3, .ref 35] (SH, st)) := m_ev_K _ _ _ _ _ _ _
set_option maxRecDepth 20000 in
theorem eX6_takesSign_40 (d : Nat) (st : Nat → Nat → Int32) : m_ev none d 48 40 [some (.ref 35)] [.ref 35] (SH, st) = m_ev none d 48 41 [some (.ref 35)] [.int 0, .ref 35] (SH, st) := m_ev_K _ _ _ _ _ _ _
set_option maxRecDepth 20000 in
theorem eX6_takesSign_41 (d : Nat) (st : Nat → Nat → Int32) (t0 : Int32) : m_ev none d 48 41 [some (.ref 35)] [.int t0, .ref 35] (SH, st) = if t0 = 0 then (m_ev none d 48 57 [some (.ref 35)] [.int 4, .ref 35] (SH, (m_up st 35 9 t0))) else (m_ev none d 48 58 [some (.ref 35)] [.int 1, .int 4, .ref 35] (SH, (m_up st 35 9 t0))) := m_ev_K _ _ _ _ _ _ _
set_option maxRecDepth 20000 in
theorem eX6_takesSign_57 (d : Nat) (st : Nat → Nat → Int32) (t0 : Int32) : m_ev none d 48 57 [some (.ref 35)] [.int t0, .ref 35] (SH, st) = m_ev none d 48 58 [some (.ref 35)] [.int 0, .int t0, .ref 35] (SH, st) := m_ev_K _ _ _ _ _ _ _
set_option maxRecDepth 20000 in
theorem eX6_takesSign_58 (d : Nat) (st : Nat → Nat → Int32) (t0 t1 : Int32) : m_ev none d 48 58 [some (.ref 35)] [.int t0, .int t1, .ref 35] (SH, st) = m_bd (m_evc d 54 [.ref 35, .int t1, .int t0] (SH, st)) fun w h => m_ev none d 48 61 [some (.ref 35)] (w.toList ++ []) h := m_ev_K _ _ _ _ _ _ _
set_option maxRecDepth 20000 in
theorem eX6_takesSign_61 (d : Nat) (st : Nat → Nat → Int32) (t0 : Int32) : m_ev none d 48 61 [some (.ref 35)] [.int t0] (SH, st) = if t0 = 0 ∨ t0 = 1 then some (some (.int t0), (SH, st)) else none := m_ev_K _ _ _ _ _ _ _
set_option maxRecDepth 20000 in
theorem eX6_takesRight_0 (d : Nat) (st : Nat → Nat → Int32) : m_ev none d 49 0 [some (.ref 35), none] [] (SH, st) = m_bd (m_evc d 56 [.ref 35] (SH, st)) fun w h => m_ev none d 49 4 [some (.ref 35), none] (w.toList ++ []) h := m_ev_K _ _ _ _ _ _ _
set_option maxRecDepth 20000 in
theorem eX6_takesRight_4 (d : Nat) (st : Nat → Nat → Int32) (t0 : Int32) : m_ev none d 49 4 [some (.ref 35), none] [.int t0] (SH, st) = if t0 < 0 then (some (some (.int 0), (SH, st))) else (m_ev none d 49 11 [some (.ref 35), some (.int t0)] [] (SH, st)) := m_ev_K _ _ _ _ _ _ _
set_option maxRecDepth 20000 in
theorem eX6_takesRight_11 (d : Nat) (st : Nat → Nat → Int32) (x1 : Int32) : m_ev none d 49 11 [some (.ref 35), some (.int x1)] [] (SH, st) = m_bd (m_evc d 28 [.int (st 35 9), .int (st 35 8), .int x1] (SH, st)) fun w h => m_ev none d 49 27 [some (.ref 35), some (.int x1)] (w.toList ++ [.ref 37]) h := m_ev_K _ _ _ _ _ _ _
set_option maxRecDepth 20000 in
theorem eX6_takesRight_27 (d : Nat) (st : Nat → Nat → Int32) (x1 t0 : Int32) : m_ev none d 49 27 [some (.ref 35), some (.int x1)] [.int t0, .ref 37] (SH, st) = m_bd (m_evc d 27 [.ref 37, .int t0] (SH, st)) fun w h => m_ev none d 49 30 [some (.ref 35), some (.int x1)] (w.toList ++ []) h := m_ev_K _ _ _ _ _ _ _
set_option maxRecDepth 20000 in
theorem eX6_takesRight_30 (d : Nat) (st : Nat → Nat → Int32) (x1 : Int32) : m_ev none d 49 30 [some (.ref 35), some (.int x1)] [] (SH, st) = some (some (.int 1), (SH, (m_up st 35 7 5))) := m_ev_K _ _ _ _ _ _ _
set_option maxRecDepth 20000 in
theorem eX6_takesJoint_0 (d : Nat) (st : Nat → Nat → Int32) : m_ev none d 50 0 [some (.ref 35), none] [] (SH, st) = m_bd (m_evc d 59 [.ref 35, .ref 1000005] (SH, st)) fun w h => m_ev none d 50 6 [some (.ref 35), none] (w.toList ++ []) h := m_ev_K _ _ _ _ _ _ _
set_option maxRecDepth 20000 in
theorem eX6_takesJoint_6 (d : Nat) (st : Nat → Nat → Int32) (t0 : Int32) : m_ev none d 50 6 [some (.ref 35), none] [.int t0] (SH, st) = if (t0 + 1) = 1 then (m_ev none d 50 21 [some (.ref 35), some (.int (t0 + 1))] [] (SH, st)) else (if (t0 + 1) = 2 then (m_ev none d 50 21 [some (.ref 35), some (.int (t0 + 1))] [] (SH, st)) else (some (some (.int 0), (SH, st)))) := m_ev_K _ _ _ _ _ _ _
set_option maxRecDepth 20000 in
theorem eX6_takesJoint_21 (d : Nat) (st : Nat → Nat → Int32) (x1 : Int32) : m_ev none d 50 21 [some (.ref 35), some (.int x1)] [] (SH, st) = m_bd (m_evc d 58 [.ref 35, .int x1] (SH, st)) fun w h => m_ev none d 50 26 [some (.ref 35), some (.int x1)] (w.toList ++ []) h := m_ev_K _ _ _ _ _ _ _
set_option maxRecDepth 20000 in
theorem eX6_takesJoint_26 (d : Nat) (st : Nat → Nat → Int32) (x1 : Int32) : m_ev none d 50 26 [some (.ref 35), some (.int x1)] [] (SH, st) = m_bd (m_evc d 57 [.ref 35, .int x1] (SH, st)) fun w h => m_ev none d 50 31 [some (.ref 35), some (.int x1)] (w.toList ++ []) h := m_ev_K _ _ _ _ _ _ _
set_option maxRecDepth 20000 in
theorem eX6_takesJoint_31 (d : Nat) (st : Nat → Nat → Int32) (x1 : Int32) : m_ev none d 50 31 [some (.ref 35), some (.int x1)] [] (SH, st) = some (some (.int 1), (SH, (m_up st 35 7 2))) := m_ev_K _ _ _ _ _ _ _
set_option maxRecDepth 20000 in
theorem eX6_takesClosing_0 (d : Nat) (st : Nat → Nat → Int32) : m_ev none d 51 0 [some (.ref 35)] [] (SH, st) = m_bd (m_evc d 55 [.ref 35, .int 41] (SH, st)) fun w h => m_ev none d 51 6 [some (.ref 35)] (w.toList ++ []) h := m_ev_K _ _ _ _ _ _ _
set_option maxRecDepth 20000 in
theorem eX6_takesClosing_6 (d : Nat) (st : Nat → Nat → Int32) (t0 : Int32) : m_ev none d 51 6 [some (.ref 35)] [.int t0] (SH, st) = if t0 = 0 then (m_ev none d 51 16 [some (.ref 35)] [] (SH, st)) else (if (st 35 10) = 0 then (m_ev none d 51 16 [some (.ref 35)] [] (SH, st)) else (m_ev none d 51 18 [some (.ref 35)] [] (SH, st))) := m_ev_K _ _ _ _ _ _ _
set_option maxRecDepth 20000 in
theorem eX6_takesClosing_16 (d : Nat) (st : Nat → Nat → Int32) : m_ev none d 51 16 [some (.ref 35)] [] (SH, st) = some (some (.int 0), (SH, st)) := m_ev_K _ _ _ _ _ _ _
set_option maxRecDepth 20000 in
theorem eX6_takesClosing_18 (d : Nat) (st : Nat → Nat → Int32) : m_ev none d 51 18 [some (.ref 35)] [] (SH, st) = m_bd (m_evc d 58 [.ref 35, .int 1] (SH, (m_up st 35 10 ((st 35 10) - 1)))) fun w h => m_ev none d 51 33 [some (.ref 35)] (w.toList ++ []) h := m_ev_K _ _ _ _ _ _ _
set_option maxRecDepth 20000 in
theorem eX6_takesClosing_33 (d : Nat) (st : Nat → Nat → Int32) : m_ev none d 51 33 [some (.ref 35)] [] (SH, st) = if 0 < (st 35 12) then (m_ev none d 51 50 [some (.ref 35)] [] (SH, (m_up st 35 12 ((st 35 12) - 1)))) else (m_ev none d 51 50 [some (.ref 35)] [] (SH, st)) := m_ev_K _ _ _ _ _ _ _
set_option maxRecDepth 20000 in
theorem eX6_takesClosing_50 (d : Nat) (st : Nat → Nat → Int32) : m_ev none d 51 50 [some (.ref 35)] [] (SH, st) = some (some (.int 1), (SH, st)) := m_ev_K _ _ _ _ _ _ _
set_option maxRecDepth 20000 in
theorem eX6_takesN_0 (d : Nat) (st : Nat → Nat → Int32) : m_ev none d 52 0 [some (.ref 35)] [] (SH, st) = if (st 35 3) = 1 then (if (st 37 0) < 8 then (m_ev none d 52 22 [some (.ref 35)] [] (SH, st)) else (m_ev none d 52 20 [some (.ref 35)] [] (SH, st))) else (m_ev none d 52 20 [some (.ref 35)] [] (SH, st)) := m_ev_K _ _ _ _ _ _ _
set_option maxRecDepth 20000 in
theorem eX6_takesN_20 (d : Nat) (st : Nat → Nat → Int32) : m_ev none d 52 20 [some (.ref 35)] [] (SH, st) = some (some (.int 0), (SH, st)) := m_ev_K _ _ _ _ _ _ _
set_option maxRecDepth 20000 in
theorem eX6_takesN_22 (d : Nat) (st : Nat → Nat → Int32) : m_ev none d 52 22 [some (.ref 35)] [] (SH, st) = m_ob (m_ix (st 37 0) 8) fun q1 => if (st 39 q1) = 2 then (m_ev none d 52 52 [some (.ref 35)] [.int 9, .int (st 35 6)] (SH, st)) else (m_ev none d 52 50 [some (.ref 35)] [.int (st 35 6)] (SH, st)) := m_ev_K _ _ _ _ _ _ _
set_option maxRecDepth 20000 in
theorem eX6_takesN_50 (d : Nat) (st : Nat → Nat → Int32) (t0 : Int32) : m_ev none d 52 50 [some (.ref 35)] [.int t0] (SH, st) = m_ev none d 52 52 [some (.ref 35)] [.int 99, .int t0] (SH, st) := m_ev_K _ _ _ _ _ _ _
set_option maxRecDepth 20000 in
theorem eX6_takesN_52 (d : Nat) (st : Nat → Nat → Int32) (t0 t1 : Int32) : m_ev none d 52 52 [some (.ref 35)] [.int t0, .int t1] (SH, st) = if t0 < t1 then (some (some (.int 0), (SH, st))) else (m_ev none d 52 57 [some (.ref 35)] [] (SH, st)) := m_ev_K _ _ _ _ _ _ _
set_option maxRecDepth 20000 in
theorem eX6_takesN_57 (d : Nat) (st : Nat → Nat → Int32) : m_ev none d 52 57 [some (.ref 35)] [] (SH, st) = m_ob (m_ix (st 37 0) 8) fun q1 => some (some (.int 1), (SH, (m_up (m_up st 40 q1 (st 35 6)) 35 7 7))) := m_ev_K _ _ _ _ _ _ _
set_option maxRecDepth 20000 in
theorem eX6_takesSemicolon_0 (d : Nat) (st : Nat → Nat → Int32) : m_ev none d 53 0 [some (.ref 35)] [] (SH, st) = m_bd (m_evc d 55 [.ref 35, .int 59] (SH, st)) fun w h => m_ev none d 53 6 [some (.ref 35)] (w.toList ++ []) h := m_ev_K _ _ _ _ _ _ _
set_option maxRecDepth 20000 in
theorem eX6_takesSemicolon_6 (d : Nat) (st : Nat → Nat → Int32) (t0 : Int32) : m_ev none d 53 6 [some (.ref 35)] [.int t0] (SH, st) = if t0 = 0 then (m_ev none d 53 21 [some (.ref 35)] [] (SH, st)) else (if (st 37 0) < 8 then (m_ev none d 53 23 [some (.ref 35)] [] (SH, st)) else (m_ev none d 53 21 [some (.ref 35)] [] (SH, st))) := m_ev_K _ _ _ _ _ _ _
set_option maxRecDepth 20000 in
theorem eX6_takesSemicolon_21 (d : Nat) (st : Nat → Nat → Int32) : m_ev none d 53 21 [some (.ref 35)] [] (SH, st) = some (some (.int 0), (SH, st)) := m_ev_K _ _ _ _ _ _ _
set_option maxRecDepth 20000 in
theorem eX6_takesSemicolon_23 (d : Nat) (st : Nat → Nat → Int32) : m_ev none d 53 23 [some (.ref 35)] [] (SH, st) = m_ob (m_ix (st 37 0) 8) fun q1 => some (some (.int 1), (SH, (m_up (m_up (m_up st 41 q1 (st 37 5)) 37 0 ((st 37 0) + 1)) 35 7 0))) := m_ev_K _ _ _ _ _ _ _
set_option maxRecDepth 20000 in
theorem eX6_goesTo_0 (d : Nat) (st : Nat → Nat → Int32) (x1 x2 : Int32) : m_ev none d 54 0 [some (.ref 35), some (.int x1), some (.int x2)] [] (SH, st) = if x2 = 0 then (m_ev none d 54 9 [some (.ref 35), some (.int x1), some (.int x2)] [] (SH, st)) else (m_ev none d 54 9 [some (.ref 35), some (.int x1), some (.int x2)] [] (SH, (m_up st 35 7 x1))) := m_ev_K _ _ _ _ _ _ _
set_option maxRecDepth 20000 in
theorem eX6_goesTo_9 (d : Nat) (st : Nat → Nat → Int32) (x1 x2 : Int32) : m_ev none d 54 9 [some (.ref 35), some (.int x1), some (.int x2)] [] (SH, st) = if x2 = 0 ∨ x2 = 1 then some (some (.int x2), (SH, st)) else none := m_ev_K _ _ _ _ _ _ _
set_option maxRecDepth 20000 in
theorem eX6_isSingle_0 (d : Nat) (st : Nat → Nat → Int32) (x1 : Int32) : m_ev none d 55 0 [some (.ref 35), some (.int x1)] [] (SH, st) = if (st 35 3) = 2 then (if (st 35 6) = x1 then (m_ev none d 55 21 [some (.ref 35), some (.int x1)] [.int 1] (SH, st)) else (m_ev none d 55 20 [some (.ref 35), some (.int x1)] [] (SH, st))) else (m_ev none d 55 20 [some (.ref 35), some (.int x1)] [] (SH, st)) := m_ev_K _ _ _ _ _ _ _
set_option maxRecDepth 20000 in
theorem eX6_isSingle_20 (d : Nat) (st : Nat → Nat → Int32) (x1 : Int32) : m_ev none d 55 20 [some (.ref 35), some (.int x1)] [] (SH, st) = m_ev none d 55 21 [some (.ref 35), some (.int x1)] [.int 0] (SH, st) := m_ev_K _ _ _ _ _ _ _
set_option maxRecDepth 20000 in
theorem eX6_isSingle_21 (d : Nat) (st : Nat → Nat → Int32) (x1 t0 : Int32) : m_ev none d 55 21 [some (.ref 35), some (.int x1)] [.int t0] (SH, st) = if t0 = 0 ∨ t0 = 1 then some (some (.int t0), (SH, st)) else none := m_ev_K _ _ _ _ _ _ _
set_option maxRecDepth 20000 in
theorem eX6_operand_0 (d : Nat) (st : Nat → Nat → Int32) : m_ev none d 56 0 [some (.ref 35), none] [] (SH, st) = if (st 35 3) = 1 then (some (some (.int (st 35 6)), (SH, st))) else (m_ev none d 56 13 [some (.ref 35), none] [] (SH, st)) := m_ev_K _ _ _ _ _ _ _
set_option maxRecDepth 20000 in
theorem eX6_operand_13 (d : Nat) (st : Nat → Nat → Int32) : m_ev none d 56 13 [some (.ref 35), none] [] (SH, st) = m_bd (m_evc d 59 [.ref 35, .ref 1000004] (SH, st)) fun w h => m_ev none d 56 19 [some (.ref 35), none] (w.toList ++ []) h := m_ev_K _ _ _ _ _ _ _
set_option maxRecDepth 20000 in
theorem eX6_operand_19 (d : Nat) (st : Nat → Nat → Int32) (t0 : Int32) : m_ev none d 56 19 [some (.ref 35), none] [.int t0] (SH, st) = if t0 < 0 then (m_ev none d 56 33 [some (.ref 35), some (.int t0)] [.int (-1)] (SH, st)) else (m_ev none d 56 28 [some (.ref 35), some (.int t0)] [] (SH, st)) := m_ev_K _ _ _ _ _ _ _
set_option maxRecDepth 20000 in
theorem eX6_operand_28 (d : Nat) (st : Nat → Nat → Int32) (x1 : Int32) : m_ev none d 56 28 [some (.ref 35), some (.int x1)] [] (SH, st) = m_ev none d 56 33 [some (.ref 35), some (.int x1)] [.int (10000 + x1)] (SH, st) := m_ev_K _ _ _ _ _ _ _
set_option maxRecDepth 20000 in
theorem eX6_operand_33 (d : Nat) (st : Nat → Nat → Int32) (x1 t0 : Int32) : m_ev none d 56 33 [some (.ref 35), some (.int x1)] [.int t0] (SH, st) = some (some (.int t0), (SH, st)) := m_ev_K _ _ _ _ _ _ _
set_option maxRecDepth 20000 in
theorem eX6_await_0 (d : Nat) (st : Nat → Nat → Int32) (x1 : Int32) : m_ev none d 57 0 [some (.ref 35), some (.int x1)] [] (SH, st) = if (st 35 12) < 200 then (m_ob (m_ix (st 35 12) 200) fun q1 => m_ev none d 57 29 [some (.ref 35), some (.int x1)] [] (SH, (m_up (m_up st 35 12 ((st 35 12) + 1)) 43 q1 x1))) else (m_ev none d 57 29 [some (.ref 35), some (.int x1)] [] (SH, st)) := m_ev_K _ _ _ _ _ _ _
set_option maxRecDepth 20000 in
theorem eX6_await_29 (d : Nat) (st : Nat → Nat → Int32) (x1 : Int32) : m_ev none d 57 29 [some (.ref 35), some (.int x1)] [] (SH, st) = some (none, (SH, st)) := m_ev_K _ _ _ _ _ _ _
set_option maxRecDepth 20000 in
theorem eX6_addWaiting_0 (d : Nat) (st : Nat → Nat → Int32) (x1 : Int32) : m_ev none d 58 0 [some (.ref 35), some (.int x1)] [] (SH, st) = if 0 < (st 35 12) then (m_ob (m_ix ((st 35 12) - 1) 200) fun q1 => if (st 43 q1) < x1 then (m_ev none d 58 51 [some (.ref 35), some (.int x1)] [] (SH, st)) else (m_ob (m_ix ((st 35 12) - 1) 200) fun q2 => m_bd (m_evc d 27 [.ref 37, .int (st 43 q2)] (SH, (m_up st 35 12 ((st 35 12) - 1)))) fun w h => m_ev none d 58 48 [some (.ref 35), some (.int x1)] (w.toList ++ []) h)) else (m_ev none d 58 51 [some (.ref 35), some (.int x1)] [] (SH, st)) := m_ev_K _ _ _ _ _ _ _
set_option maxRecDepth 20000 in
theorem eX6_addWaiting_48 (d : Nat) (st : Nat → Nat → Int32) (x1 : Int32) : m_ev none d 58 48 [some (.ref 35), some (.int x1)] [] (SH, st) = m_ev none d 58 0 [some (.ref 35), some (.int x1)] [] (SH, st) := m_ev_K _ _ _ _ _ _ _
set_option maxRecDepth 20000 in
theorem eX6_addWaiting_51 (d : Nat) (st : Nat → Nat → Int32) (x1 : Int32) : m_ev none d 58 51 [some (.ref 35), some (.int x1)] [] (SH, st) = some (none, (SH, st)) := m_ev_K _ _ _ _ _ _ _
set_option maxRecDepth 20000 in
theorem eaX6_placeIn_0 (d : Nat) (st : Nat → Nat → Int32) : m_ev none d 59 0 [some (.ref 35), some (.ref 1000000), none, none, none] [] (SH, st) = if (st 35 3) = 0 then (m_ev none d 59 9 [some (.ref 35), some (.ref 1000000), none, none, none] [] (SH, st)) else (some (some (.int (-1)), (SH, st))) := m_ev_K _ _ _ _ _ _ _
set_option maxRecDepth 20000 in
theorem eaX6_placeIn_9 (d : Nat) (st : Nat → Nat → Int32) : m_ev none d 59 9 [some (.ref 35), some (.ref 1000000), none, none, none] [] (SH, st) = m_ev none d 59 16 [some (.ref 35), some (.ref 1000000), some (.int 0), some (.int 0), some (.int 0)] [] (SH, st) := m_ev_K _ _ _ _ _ _ _
set_option maxRecDepth 20000 in
theorem eaX6_placeIn_16 (d : Nat) (st : Nat → Nat → Int32) (x2 x3 x4 : Int32) : m_ev none d 59 16 [some (.ref 35), some (.ref 1000000), some (.int x2), some (.int x3), some (.int x4)] [] (SH, st) = m_bd (m_evc d 900 [.ref 1000000] (SH, st)) fun w h => m_ev none d 59 22 [some (.ref 35), some (.ref 1000000), some (.int x2), some (.int x3), some (.int x4)] (w.toList ++ [.int x4]) h := m_ev_K _ _ _ _ _ _ _
set_option maxRecDepth 20000 in
theorem eaX6_placeIn_22 (d : Nat) (st : Nat → Nat → Int32) (x2 x3 x4 t0 t1 : Int32) : m_ev none d 59 22 [some (.ref 35), some (.ref 1000000), some (.int x2), some (.int x3), some (.int x4)] [.int t0, .int t1] (SH, st) = if t1 < t0 then (m_bd (m_evc d 901 [.ref 1000000, .int x4] (SH, st)) fun w h => m_ev none d 59 31 [some (.ref 35), some (.ref 1000000), some (.int x2), some (.int x3), some (.int x4)] (w.toList ++ []) h) else (m_ev none d 59 63 [some (.ref 35), some (.ref 1000000), some (.int x2), some (.int x3), some (.int x4)] [] (SH, st)) := m_ev_K _ _ _ _ _ _ _
set_option maxRecDepth 20000 in
theorem eaX6_placeIn_31 (d : Nat) (st : Nat → Nat → Int32) (x2 x3 x4 t0 : Int32) : m_ev none d 59 31 [some (.ref 35), some (.ref 1000000), some (.int x2), some (.int x3), some (.int x4)] [.int t0] (SH, st) = if t0 = 32 then (m_bd (m_evc d 60 [.ref 35, .ref 1000000, .int x3, .int x4] (SH, st)) fun w h => m_ev none d 59 44 [some (.ref 35), some (.ref 1000000), some (.int x2), some (.int x3), some (.int x4)] (w.toList ++ []) h) else (m_ev none d 59 57 [some (.ref 35), some (.ref 1000000), some (.int x2), some (.int x3), some (.int x4)] [] (SH, st)) := m_ev_K _ _ _ _ _ _ _
set_option maxRecDepth 20000 in
theorem eaX6_placeIn_44 (d : Nat) (st : Nat → Nat → Int32) (x2 x3 x4 t0 : Int32) : m_ev none d 59 44 [some (.ref 35), some (.ref 1000000), some (.int x2), some (.int x3), some (.int x4)] [.int t0] (SH, st) = if t0 = 0 then (m_ev none d 59 49 [some (.ref 35), some (.ref 1000000), some (.int x2), some (.int x3), some (.int x4)] [] (SH, st)) else (some (some (.int x2), (SH, st))) := m_ev_K _ _ _ _ _ _ _
set_option maxRecDepth 20000 in
theorem eaX6_placeIn_49 (d : Nat) (st : Nat → Nat → Int32) (x2 x3 x4 : Int32) : m_ev none d 59 49 [some (.ref 35), some (.ref 1000000), some (.int x2), some (.int x3), some (.int x4)] [] (SH, st) = m_ev none d 59 57 [some (.ref 35), some (.ref 1000000), some (.int (x2 + 1)), some (.int (x4 + 1)), some (.int x4)] [] (SH, st) := m_ev_K _ _ _ _ _ _ _
set_option maxRecDepth 20000 in
theorem eaX6_placeIn_57 (d : Nat) (st : Nat → Nat → Int32) (x2 x3 x4 : Int32) : m_ev none d 59 57 [some (.ref 35), some (.ref 1000000), some (.int x2), some (.int x3), some (.int x4)] [] (SH, st) = m_ev none d 59 16 [some (.ref 35), some (.ref 1000000), some (.int x2), some (.int x3), some (.int (x4 + 1))] [] (SH, st) := m_ev_K _ _ _ _ _ _ _
set_option maxRecDepth 20000 in
theorem eaX6_placeIn_63 (d : Nat) (st : Nat → Nat → Int32) (x2 x3 x4 : Int32) : m_ev none d 59 63 [some (.ref 35), some (.ref 1000000), some (.int x2), some (.int x3), some (.int x4)] [] (SH, st) = some (some (.int (-1)), (SH, st)) := m_ev_K _ _ _ _ _ _ _
set_option maxRecDepth 20000 in
theorem ebX6_placeIn_0 (d : Nat) (st : Nat → Nat → Int32) : m_ev none d 59 0 [some (.ref 35), some (.ref 1000001), none, none, none] [] (SH, st) = if (st 35 3) = 0 then (m_ev none d 59 9 [some (.ref 35), some (.ref 1000001), none, none, none] [] (SH, st)) else (some (some (.int (-1)), (SH, st))) := m_ev_K _ _ _ _ _ _ _
set_option maxRecDepth 20000 in
theorem ebX6_placeIn_9 (d : Nat) (st : Nat → Nat → Int32) : m_ev none d 59 9 [some (.ref 35), some (.ref 1000001), none, none, none] [] (SH, st) = m_ev none d 59 16 [some (.ref 35), some (.ref 1000001), some (.int 0), some (.int 0), some (.int 0)] [] (SH, st) := m_ev_K _ _ _ _ _ _ _
set_option maxRecDepth 20000 in
theorem ebX6_placeIn_16 (d : Nat) (st : Nat → Nat → Int32) (x2 x3 x4 : Int32) : m_ev none d 59 16 [some (.ref 35), some (.ref 1000001), some (.int x2), some (.int x3), some (.int x4)] [] (SH, st) = m_bd (m_evc d 900 [.ref 1000001] (SH, st)) fun w h => m_ev none d 59 22 [some (.ref 35), some (.ref 1000001), some (.int x2), some (.int x3), some (.int x4)] (w.toList ++ [.int x4]) h := m_ev_K _ _ _ _ _ _ _
set_option maxRecDepth 20000 in
theorem ebX6_placeIn_22 (d : Nat) (st : Nat → Nat → Int32) (x2 x3 x4 t0 t1 : Int32) : m_ev none d 59 22 [some (.ref 35), some (.ref 1000001), some (.int x2), some (.int x3), some (.int x4)] [.int t0, .int t1] (SH, st) = if t1 < t0 then (m_bd (m_evc d 901 [.ref 1000001, .int x4] (SH, st)) fun w h => m_ev none d 59 31 [some (.ref 35), some (.ref 1000001), some (.int x2), some (.int x3), some (.int x4)] (w.toList ++ []) h) else (m_ev none d 59 63 [some (.ref 35), some (.ref 1000001), some (.int x2), some (.int x3), some (.int x4)] [] (SH, st)) := m_ev_K _ _ _ _ _ _ _
set_option maxRecDepth 20000 in
theorem ebX6_placeIn_31 (d : Nat) (st : Nat → Nat → Int32) (x2 x3 x4 t0 : Int32) : m_ev none d 59 31 [some (.ref 35), some (.ref 1000001), some (.int x2), some (.int x3), some (.int x4)] [.int t0] (SH, st) = if t0 = 32 then (m_bd (m_evc d 60 [.ref 35, .ref 1000001, .int x3, .int x4] (SH, st)) fun w h => m_ev none d 59 44 [some (.ref 35), some (.ref 1000001), some (.int x2), some (.int x3), some (.int x4)] (w.toList ++ []) h) else (m_ev none d 59 57 [some (.ref 35), some (.ref 1000001), some (.int x2), some (.int x3), some (.int x4)] [] (SH, st)) := m_ev_K _ _ _ _ _ _ _
set_option maxRecDepth 20000 in
theorem ebX6_placeIn_44 (d : Nat) (st : Nat → Nat → Int32) (x2 x3 x4 t0 : Int32) : m_ev none d 59 44 [some (.ref 35), some (.ref 1000001), some (.int x2), some (.int x3), some (.int x4)] [.int t0] (SH, st) = if t0 = 0 then (m_ev none d 59 49 [some (.ref 35), some (.ref 1000001), some (.int x2), some (.int x3), some (.int x4)] [] (SH, st)) else (some (some (.int x2), (SH, st))) := m_ev_K _ _ _ _ _ _ _
set_option maxRecDepth 20000 in
theorem ebX6_placeIn_49 (d : Nat) (st : Nat → Nat → Int32) (x2 x3 x4 : Int32) : m_ev none d 59 49 [some (.ref 35), some (.ref 1000001), some (.int x2), some (.int x3), some (.int x4)] [] (SH, st) = m_ev none d 59 57 [some (.ref 35), some (.ref 1000001), some (.int (x2 + 1)), some (.int (x4 + 1)), some (.int x4)] [] (SH, st) := m_ev_K _ _ _ _ _ _ _
set_option maxRecDepth 20000 in
theorem ebX6_placeIn_57 (d : Nat) (st : Nat → Nat → Int32) (x2 x3 x4 : Int32) : m_ev none d 59 57 [some (.ref 35), some (.ref 1000001), some (.int x2), some (.int x3), some (.int x4)] [] (SH, st) = m_ev none d 59 16 [some (.ref 35), some (.ref 1000001), some (.int x2), some (.int x3), some (.int (x4 + 1))] [] (SH, st) := m_ev_K _ _ _ _ _ _ _
set_option maxRecDepth 20000 in
theorem ebX6_placeIn_63 (d : Nat) (st : Nat → Nat → Int32) (x2 x3 x4 : Int32) : m_ev none d 59 63 [some (.ref 35), some (.ref 1000001), some (.int x2), some (.int x3), some (.int x4)] [] (SH, st) = some (some (.int (-1)), (SH, st)) := m_ev_K _ _ _ _ _ _ _
set_option maxRecDepth 20000 in
theorem ecX6_placeIn_0 (d : Nat) (st : Nat → Nat → Int32) : m_ev none d 59 0 [some (.ref 35), some (.ref 1000002), none, none, none] [] (SH, st) = if (st 35 3) = 0 then (m_ev none d 59 9 [some (.ref 35), some (.ref 1000002), none, none, none] [] (SH, st)) else (some (some (.int (-1)), (SH, st))) := m_ev_K _ _ _ _ _ _ _
set_option maxRecDepth 20000 in
theorem ecX6_placeIn_9 (d : Nat) (st : Nat → Nat → Int32) : m_ev none d 59 9 [some (.ref 35), some (.ref 1000002), none, none, none] [] (SH, st) = m_ev none d 59 16 [some (.ref 35), some (.ref 1000002), some (.int 0), some (.int 0), some (.int 0)] [] (SH, st) := m_ev_K _ _ _ _ _ _ _
set_option maxRecDepth 20000 in
theorem ecX6_placeIn_16 (d : Nat) (st : Nat → Nat → Int32) (x2 x3 x4 : Int32) : m_ev none d 59 16 [some (.ref 35), some (.ref 1000002), some (.int x2), some (.int x3), some (.int x4)] [] (SH, st) = m_bd (m_evc d 900 [.ref 1000002] (SH, st)) fun w h => m_ev none d 59 22 [some (.ref 35), some (.ref 1000002), some (.int x2), some (.int x3), some (.int x4)] (w.toList ++ [.int x4]) h := m_ev_K _ _ _ _ _ _ _
set_option maxRecDepth 20000 in
theorem ecX6_placeIn_22 (d : Nat) (st : Nat → Nat → Int32) (x2 x3 x4 t0 t1 : Int32) : m_ev none d 59 22 [some (.ref 35), some (.ref 1000002), some (.int x2), some (.int x3), some (.int x4)] [.int t0, .int t1] (SH, st) = if t1 < t0 then (m_bd (m_evc d 901 [.ref 1000002, .int x4] (SH, st)) fun w h => m_ev none d 59 31 [some (.ref 35), some (.ref 1000002), some (.int x2), some (.int x3), some (.int x4)] (w.toList ++ []) h) else (m_ev none d 59 63 [some (.ref 35), some (.ref 1000002), some (.int x2), some (.int x3), some (.int x4)] [] (SH, st)) := m_ev_K _ _ _ _ _ _ _
set_option maxRecDepth 20000 in
theorem ecX6_placeIn_31 (d : Nat) (st : Nat → Nat → Int32) (x2 x3 x4 t0 : Int32) : m_ev none d 59 31 [some (.ref 35), some (.ref 1000002), some (.int x2), some (.int x3), some (.int x4)] [.int t0] (SH, st) = if t0 = 32 then (m_bd (m_evc d 60 [.ref 35, .ref 1000002, .int x3, .int x4] (SH, st)) fun w h => m_ev none d 59 44 [some (.ref 35), some (.ref 1000002), some (.int x2), some (.int x3), some (.int x4)] (w.toList ++ []) h) else (m_ev none d 59 57 [some (.ref 35), some (.ref 1000002), some (.int x2), some (.int x3), some (.int x4)] [] (SH, st)) := m_ev_K _ _ _ _ _ _ _
set_option maxRecDepth 20000 in
theorem ecX6_placeIn_44 (d : Nat) (st : Nat → Nat → Int32) (x2 x3 x4 t0 : Int32) : m_ev none d 59 44 [some (.ref 35), some (.ref 1000002), some (.int x2), some (.int x3), some (.int x4)] [.int t0] (SH, st) = if t0 = 0 then (m_ev none d 59 49 [some (.ref 35), some (.ref 1000002), some (.int x2), some (.int x3), some (.int x4)] [] (SH, st)) else (some (some (.int x2), (SH, st))) := m_ev_K _ _ _ _ _ _ _
set_option maxRecDepth 20000 in
theorem ecX6_placeIn_49 (d : Nat) (st : Nat → Nat → Int32) (x2 x3 x4 : Int32) : m_ev none d 59 49 [some (.ref 35), some (.ref 1000002), some (.int x2), some (.int x3), some (.int x4)] [] (SH, st) = m_ev none d 59 57 [some (.ref 35), some (.ref 1000002), some (.int (x2 + 1)), some (.int (x4 + 1)), some (.int x4)] [] (SH, st) := m_ev_K _ _ _ _ _ _ _
set_option maxRecDepth 20000 in
theorem ecX6_placeIn_57 (d : Nat) (st : Nat → Nat → Int32) (x2 x3 x4 : Int32) : m_ev none d 59 57 [some (.ref 35), some (.ref 1000002), some (.int x2), some (.int x3), some (.int x4)] [] (SH, st) = m_ev none d 59 16 [some (.ref 35), some (.ref 1000002), some (.int x2), some (.int x3), some (.int (x4 + 1))] [] (SH, st) := m_ev_K _ _ _ _ _ _ _
set_option maxRecDepth 20000 in
theorem ecX6_placeIn_63 (d : Nat) (st : Nat → Nat → Int32) (x2 x3 x4 : Int32) : m_ev none d 59 63 [some (.ref 35), some (.ref 1000002), some (.int x2), some (.int x3), some (.int x4)] [] (SH, st) = some (some (.int (-1)), (SH, st)) := m_ev_K _ _ _ _ _ _ _
set_option maxRecDepth 20000 in
theorem edX6_placeIn_0 (d : Nat) (st : Nat → Nat → Int32) : m_ev none d 59 0 [some (.ref 35), some (.ref 1000003), none, none, none] [] (SH, st) = if (st 35 3) = 0 then (m_ev none d 59 9 [some (.ref 35), some (.ref 1000003), none, none, none] [] (SH, st)) else (some (some (.int (-1)), (SH, st))) := m_ev_K _ _ _ _ _ _ _
set_option maxRecDepth 20000 in
theorem edX6_placeIn_9 (d : Nat) (st : Nat → Nat → Int32) : m_ev none d 59 9 [some (.ref 35), some (.ref 1000003), none, none, none] [] (SH, st) = m_ev none d 59 16 [some (.ref 35), some (.ref 1000003), some (.int 0), some (.int 0), some (.int 0)] [] (SH, st) := m_ev_K _ _ _ _ _ _ _
set_option maxRecDepth 20000 in
theorem edX6_placeIn_16 (d : Nat) (st : Nat → Nat → Int32) (x2 x3 x4 : Int32) : m_ev none d 59 16 [some (.ref 35), some (.ref 1000003), some (.int x2), some (.int x3), some (.int x4)] [] (SH, st) = m_bd (m_evc d 900 [.ref 1000003] (SH, st)) fun w h => m_ev none d 59 22 [some (.ref 35), some (.ref 1000003), some (.int x2), some (.int x3), some (.int x4)] (w.toList ++ [.int x4]) h := m_ev_K _ _ _ _ _ _ _
set_option maxRecDepth 20000 in
theorem edX6_placeIn_22 (d : Nat) (st : Nat → Nat → Int32) (x2 x3 x4 t0 t1 : Int32) : m_ev none d 59 22 [some (.ref 35), some (.ref 1000003), some (.int x2), some (.int x3), some (.int x4)] [.int t0, .int t1] (SH, st) = if t1 < t0 then (m_bd (m_evc d 901 [.ref 1000003, .int x4] (SH, st)) fun w h => m_ev none d 59 31 [some (.ref 35), some (.ref 1000003), some (.int x2), some (.int x3), some (.int x4)] (w.toList ++ []) h) else (m_ev none d 59 63 [some (.ref 35), some (.ref 1000003), some (.int x2), some (.int x3), some (.int x4)] [] (SH, st)) := m_ev_K _ _ _ _ _ _ _
set_option maxRecDepth 20000 in
theorem edX6_placeIn_31 (d : Nat) (st : Nat → Nat → Int32) (x2 x3 x4 t0 : Int32) : m_ev none d 59 31 [some (.ref 35), some (.ref 1000003), some (.int x2), some (.int x3), some (.int x4)] [.int t0] (SH, st) = if t0 = 32 then (m_bd (m_evc d 60 [.ref 35, .ref 1000003, .int x3, .int x4] (SH, st)) fun w h => m_ev none d 59 44 [some (.ref 35), some (.ref 1000003), some (.int x2), some (.int x3), some (.int x4)] (w.toList ++ []) h) else (m_ev none d 59 57 [some (.ref 35), some (.ref 1000003), some (.int x2), some (.int x3), some (.int x4)] [] (SH, st)) := m_ev_K _ _ _ _ _ _ _
set_option maxRecDepth 20000 in
theorem edX6_placeIn_44 (d : Nat) (st : Nat → Nat → Int32) (x2 x3 x4 t0 : Int32) : m_ev none d 59 44 [some (.ref 35), some (.ref 1000003), some (.int x2), some (.int x3), some (.int x4)] [.int t0] (SH, st) = if t0 = 0 then (m_ev none d 59 49 [some (.ref 35), some (.ref 1000003), some (.int x2), some (.int x3), some (.int x4)] [] (SH, st)) else (some (some (.int x2), (SH, st))) := m_ev_K _ _ _ _ _ _ _
set_option maxRecDepth 20000 in
theorem edX6_placeIn_49 (d : Nat) (st : Nat → Nat → Int32) (x2 x3 x4 : Int32) : m_ev none d 59 49 [some (.ref 35), some (.ref 1000003), some (.int x2), some (.int x3), some (.int x4)] [] (SH, st) = m_ev none d 59 57 [some (.ref 35), some (.ref 1000003), some (.int (x2 + 1)), some (.int (x4 + 1)), some (.int x4)] [] (SH, st) := m_ev_K _ _ _ _ _ _ _
set_option maxRecDepth 20000 in
theorem edX6_placeIn_57 (d : Nat) (st : Nat → Nat → Int32) (x2 x3 x4 : Int32) : m_ev none d 59 57 [some (.ref 35), some (.ref 1000003), some (.int x2), some (.int x3), some (.int x4)] [] (SH, st) = m_ev none d 59 16 [some (.ref 35), some (.ref 1000003), some (.int x2), some (.int x3), some (.int (x4 + 1))] [] (SH, st) := m_ev_K _ _ _ _ _ _ _
set_option maxRecDepth 20000 in
theorem edX6_placeIn_63 (d : Nat) (st : Nat → Nat → Int32) (x2 x3 x4 : Int32) : m_ev none d 59 63 [some (.ref 35), some (.ref 1000003), some (.int x2), some (.int x3), some (.int x4)] [] (SH, st) = some (some (.int (-1)), (SH, st)) := m_ev_K _ _ _ _ _ _ _
set_option maxRecDepth 20000 in
theorem eeX6_placeIn_0 (d : Nat) (st : Nat → Nat → Int32) : m_ev none d 59 0 [some (.ref 35), some (.ref 1000004), none, none, none] [] (SH, st) = if (st 35 3) = 0 then (m_ev none d 59 9 [some (.ref 35), some (.ref 1000004), none, none, none] [] (SH, st)) else (some (some (.int (-1)), (SH, st))) := m_ev_K _ _ _ _ _ _ _
set_option maxRecDepth 20000 in
theorem eeX6_placeIn_9 (d : Nat) (st : Nat → Nat → Int32) : m_ev none d 59 9 [some (.ref 35), some (.ref 1000004), none, none, none] [] (SH, st) = m_ev none d 59 16 [some (.ref 35), some (.ref 1000004), some (.int 0), some (.int 0), some (.int 0)] [] (SH, st) := m_ev_K _ _ _ _ _ _ _
set_option maxRecDepth 20000 in
theorem eeX6_placeIn_16 (d : Nat) (st : Nat → Nat → Int32) (x2 x3 x4 : Int32) : m_ev none d 59 16 [some (.ref 35), some (.ref 1000004), some (.int x2), some (.int x3), some (.int x4)] [] (SH, st) = m_bd (m_evc d 900 [.ref 1000004] (SH, st)) fun w h => m_ev none d 59 22 [some (.ref 35), some (.ref 1000004), some (.int x2), some (.int x3), some (.int x4)] (w.toList ++ [.int x4]) h := m_ev_K _ _ _ _ _ _ _
set_option maxRecDepth 20000 in
theorem eeX6_placeIn_22 (d : Nat) (st : Nat → Nat → Int32) (x2 x3 x4 t0 t1 : Int32) : m_ev none d 59 22 [some (.ref 35), some (.ref 1000004), some (.int x2), some (.int x3), some (.int x4)] [.int t0, .int t1] (SH, st) = if t1 < t0 then (m_bd (m_evc d 901 [.ref 1000004, .int x4] (SH, st)) fun w h => m_ev none d 59 31 [some (.ref 35), some (.ref 1000004), some (.int x2), some (.int x3), some (.int x4)] (w.toList ++ []) h) else (m_ev none d 59 63 [some (.ref 35), some (.ref 1000004), some (.int x2), some (.int x3), some (.int x4)] [] (SH, st)) := m_ev_K _ _ _ _ _ _ _
set_option maxRecDepth 20000 in
theorem eeX6_placeIn_31 (d : Nat) (st : Nat → Nat → Int32) (x2 x3 x4 t0 : Int32) : m_ev none d 59 31 [some (.ref 35), some (.ref 1000004), some (.int x2), some (.int x3), some (.int x4)] [.int t0] (SH, st) = if t0 = 32 then (m_bd (m_evc d 60 [.ref 35, .ref 1000004, .int x3, .int x4] (SH, st)) fun w h => m_ev none d 59 44 [some (.ref 35), some (.ref 1000004), some (.int x2), some (.int x3), some (.int x4)] (w.toList ++ []) h) else (m_ev none d 59 57 [some (.ref 35), some (.ref 1000004), some (.int x2), some (.int x3), some (.int x4)] [] (SH, st)) := m_ev_K _ _ _ _ _ _ _
set_option maxRecDepth 20000 in
theorem eeX6_placeIn_44 (d : Nat) (st : Nat → Nat → Int32) (x2 x3 x4 t0 : Int32) : m_ev none d 59 44 [some (.ref 35), some (.ref 1000004), some (.int x2), some (.int x3), some (.int x4)] [.int t0] (SH, st) = if t0 = 0 then (m_ev none d 59 49 [some (.ref 35), some (.ref 1000004), some (.int x2), some (.int x3), some (.int x4)] [] (SH, st)) else (some (some (.int x2), (SH, st))) := m_ev_K _ _ _ _ _ _ _
set_option maxRecDepth 20000 in
theorem eeX6_placeIn_49 (d : Nat) (st : Nat → Nat → Int32) (x2 x3 x4 : Int32) : m_ev none d 59 49 [some (.ref 35), some (.ref 1000004), some (.int x2), some (.int x3), some (.int x4)] [] (SH, st) = m_ev none d 59 57 [some (.ref 35), some (.ref 1000004), some (.int (x2 + 1)), some (.int (x4 + 1)), some (.int x4)] [] (SH, st) := m_ev_K _ _ _ _ _ _ _
set_option maxRecDepth 20000 in
theorem eeX6_placeIn_57 (d : Nat) (st : Nat → Nat → Int32) (x2 x3 x4 : Int32) : m_ev none d 59 57 [some (.ref 35), some (.ref 1000004), some (.int x2), some (.int x3), some (.int x4)] [] (SH, st) = m_ev none d 59 16 [some (.ref 35), some (.ref 1000004), some (.int x2), some (.int x3), some (.int (x4 + 1))] [] (SH, st) := m_ev_K _ _ _ _ _ _ _
set_option maxRecDepth 20000 in
theorem eeX6_placeIn_63 (d : Nat) (st : Nat → Nat → Int32) (x2 x3 x4 : Int32) : m_ev none d 59 63 [some (.ref 35), some (.ref 1000004), some (.int x2), some (.int x3), some (.int x4)] [] (SH, st) = some (some (.int (-1)), (SH, st)) := m_ev_K _ _ _ _ _ _ _
set_option maxRecDepth 20000 in
theorem efX6_placeIn_0 (d : Nat) (st : Nat → Nat → Int32) : m_ev none d 59 0 [some (.ref 35), some (.ref 1000005), none, none, none] [] (SH, st) = if (st 35 3) = 0 then (m_ev none d 59 9 [some (.ref 35), some (.ref 1000005), none, none, none] [] (SH, st)) else (some (some (.int (-1)), (SH, st))) := m_ev_K _ _ _ _ _ _ _
set_option maxRecDepth 20000 in
theorem efX6_placeIn_9 (d : Nat) (st : Nat → Nat → Int32) : m_ev none d 59 9 [some (.ref 35), some (.ref 1000005), none, none, none] [] (SH, st) = m_ev none d 59 16 [some (.ref 35), some (.ref 1000005), some (.int 0), some (.int 0), some (.int 0)] [] (SH, st) := m_ev_K _ _ _ _ _ _ _
set_option maxRecDepth 20000 in
theorem efX6_placeIn_16 (d : Nat) (st : Nat → Nat → Int32) (x2 x3 x4 : Int32) : m_ev none d 59 16 [some (.ref 35), some (.ref 1000005), some (.int x2), some (.int x3), some (.int x4)] [] (SH, st) = m_bd (m_evc d 900 [.ref 1000005] (SH, st)) fun w h => m_ev none d 59 22 [some (.ref 35), some (.ref 1000005), some (.int x2), some (.int x3), some (.int x4)] (w.toList ++ [.int x4]) h := m_ev_K _ _ _ _ _ _ _
set_option maxRecDepth 20000 in
theorem efX6_placeIn_22 (d : Nat) (st : Nat → Nat → Int32) (x2 x3 x4 t0 t1 : Int32) : m_ev none d 59 22 [some (.ref 35), some (.ref 1000005), some (.int x2), some (.int x3), some (.int x4)] [.int t0, .int t1] (SH, st) = if t1 < t0 then (m_bd (m_evc d 901 [.ref 1000005, .int x4] (SH, st)) fun w h => m_ev none d 59 31 [some (.ref 35), some (.ref 1000005), some (.int x2), some (.int x3), some (.int x4)] (w.toList ++ []) h) else (m_ev none d 59 63 [some (.ref 35), some (.ref 1000005), some (.int x2), some (.int x3), some (.int x4)] [] (SH, st)) := m_ev_K _ _ _ _ _ _ _
set_option maxRecDepth 20000 in
theorem efX6_placeIn_31 (d : Nat) (st : Nat → Nat → Int32) (x2 x3 x4 t0 : Int32) : m_ev none d 59 31 [some (.ref 35), some (.ref 1000005), some (.int x2), some (.int x3), some (.int x4)] [.int t0] (SH, st) = if t0 = 32 then (m_bd (m_evc d 60 [.ref 35, .ref 1000005, .int x3, .int x4] (SH, st)) fun w h => m_ev none d 59 44 [some (.ref 35), some (.ref 1000005), some (.int x2), some (.int x3), some (.int x4)] (w.toList ++ []) h) else (m_ev none d 59 57 [some (.ref 35), some (.ref 1000005), some (.int x2), some (.int x3), some (.int x4)] [] (SH, st)) := m_ev_K _ _ _ _ _ _ _
set_option maxRecDepth 20000 in
theorem efX6_placeIn_44 (d : Nat) (st : Nat → Nat → Int32) (x2 x3 x4 t0 : Int32) : m_ev none d 59 44 [some (.ref 35), some (.ref 1000005), some (.int x2), some (.int x3), some (.int x4)] [.int t0] (SH, st) = if t0 = 0 then (m_ev none d 59 49 [some (.ref 35), some (.ref 1000005), some (.int x2), some (.int x3), some (.int x4)] [] (SH, st)) else (some (some (.int x2), (SH, st))) := m_ev_K _ _ _ _ _ _ _
set_option maxRecDepth 20000 in
theorem efX6_placeIn_49 (d : Nat) (st : Nat → Nat → Int32) (x2 x3 x4 : Int32) : m_ev none d 59 49 [some (.ref 35), some (.ref 1000005), some (.int x2), some (.int x3), some (.int x4)] [] (SH, st) = m_ev none d 59 57 [some (.ref 35), some (.ref 1000005), some (.int (x2 + 1)), some (.int (x4 + 1)), some (.int x4)] [] (SH, st) := m_ev_K _ _ _ _ _ _ _
set_option maxRecDepth 20000 in
theorem efX6_placeIn_57 (d : Nat) (st : Nat → Nat → Int32) (x2 x3 x4 : Int32) : m_ev none d 59 57 [some (.ref 35), some (.ref 1000005), some (.int x2), some (.int x3), some (.int x4)] [] (SH, st) = m_ev none d 59 16 [some (.ref 35), some (.ref 1000005), some (.int x2), some (.int x3), some (.int (x4 + 1))] [] (SH, st) := m_ev_K _ _ _ _ _ _ _
set_option maxRecDepth 20000 in
theorem efX6_placeIn_63 (d : Nat) (st : Nat → Nat → Int32) (x2 x3 x4 : Int32) : m_ev none d 59 63 [some (.ref 35), some (.ref 1000005), some (.int x2), some (.int x3), some (.int x4)] [] (SH, st) = some (some (.int (-1)), (SH, st)) := m_ev_K _ _ _ _ _ _ _
set_option maxRecDepth 20000 in
theorem eaX6_isSpelt_0 (d : Nat) (st : Nat → Nat → Int32) (x2 x3 : Int32) : m_ev none d 60 0 [some (.ref 35), some (.ref 1000000), some (.int x2), some (.int x3), none] [] (SH, st) = if (x3 - x2) = ((st 35 5) - (st 35 4)) then (m_ev none d 60 17 [some (.ref 35), some (.ref 1000000), some (.int x2), some (.int x3), none] [] (SH, st)) else (some (some (.int 0), (SH, st))) := m_ev_K _ _ _ _ _ _ _
set_option maxRecDepth 20000 in
theorem eaX6_isSpelt_17 (d : Nat) (st : Nat → Nat → Int32) (x2 x3 : Int32) : m_ev none d 60 17 [some (.ref 35), some (.ref 1000000), some (.int x2), some (.int x3), none] [] (SH, st) = m_ev none d 60 20 [some (.ref 35), some (.ref 1000000), some (.int x2), some (.int x3), some (.int x2)] [] (SH, st) := m_ev_K _ _ _ _ _ _ _
set_option maxRecDepth 20000 in
theorem eaX6_isSpelt_20 (d : Nat) (st : Nat → Nat → Int32) (x2 x3 x4 : Int32) : m_ev none d 60 20 [some (.ref 35), some (.ref 1000000), some (.int x2), some (.int x3), some (.int x4)] [] (SH, st) = if x4 < x3 then (m_bd (m_evc d 901 [.ref 1000000, .int x4] (SH, st)) fun w h => m_ev none d 60 32 [some (.ref 35), some (.ref 1000000), some (.int x2), some (.int x3), some (.int x4)] (w.toList ++ []) h) else (m_ev none d 60 57 [some (.ref 35), some (.ref 1000000), some (.int x2), some (.int x3), some (.int x4)] [] (SH, st)) := m_ev_K _ _ _ _ _ _ _
set_option maxRecDepth 20000 in
theorem eaX6_isSpelt_32 (d : Nat) (st : Nat → Nat → Int32) (x2 x3 x4 t0 : Int32) : m_ev none d 60 32 [some (.ref 35), some (.ref 1000000), some (.int x2), some (.int x3), some (.int x4)] [.int t0] (SH, st) = m_ob (m_ix (((st 35 4) + x4) - x2) 200) fun q1 => if t0 = (st 36 q1) then (m_ev none d 60 51 [some (.ref 35), some (.ref 1000000), some (.int x2), some (.int x3), some (.int x4)] [] (SH, st)) else (some (some (.int 0), (SH, st))) := m_ev_K _ _ _ _ _ _ _
set_option maxRecDepth 20000 in
theorem eaX6_isSpelt_51 (d : Nat) (st : Nat → Nat → Int32) (x2 x3 x4 : Int32) : m_ev none d 60 51 [some (.ref 35), some (.ref 1000000), some (.int x2), some (.int x3), some (.int x4)] [] (SH, st) = m_ev none d 60 20 [some (.ref 35), some (.ref 1000000), some (.int x2), some (.int x3), some (.int (x4 + 1))] [] (SH, st) := m_ev_K _ _ _ _ _ _ _
set_option maxRecDepth 20000 in
theorem eaX6_isSpelt_57 (d : Nat) (st : Nat → Nat → Int32) (x2 x3 x4 : Int32) : m_ev none d 60 57 [some (.ref 35), some (.ref 1000000), some (.int x2), some (.int x3), some (.int x4)] [] (SH, st) = some (some (.int 1), (SH, st)) := m_ev_K _ _ _ _ _ _ _
set_option maxRecDepth 20000 in
theorem ebX6_isSpelt_0 (d : Nat) (st : Nat → Nat → Int32) (x2 x3 : Int32) : m_ev none d 60 0 [some (.ref 35), some (.ref 1000001), some (.int x2), some (.int x3), none] [] (SH, st) = if (x3 - x2) = ((st 35 5) - (st 35 4)) then (m_ev none d 60 17 [some (.ref 35), some (.ref 1000001), some (.int x2), some (.int x3), none] [] (SH, st)) else (some (some (.int 0), (SH, st))) := m_ev_K _ _ _ _ _ _ _
set_option maxRecDepth 20000 in
theorem ebX6_isSpelt_17 (d : Nat) (st : Nat → Nat → Int32) (x2 x3 : Int32) : m_ev none d 60 17 [some (.ref 35), some (.ref 1000001), some (.int x2), some (.int x3), none] [] (SH, st) = m_ev none d 60 20 [some (.ref 35), some (.ref 1000001), some (.int x2), some (.int x3), some (.int x2)] [] (SH, st) := m_ev_K _ _ _ _ _ _ _
set_option maxRecDepth 20000 in
theorem ebX6_isSpelt_20 (d : Nat) (st : Nat → Nat → Int32) (x2 x3 x4 : Int32) : m_ev none d 60 20 [some (.ref 35), some (.ref 1000001), some (.int x2), some (.int x3), some (.int x4)] [] (SH, st) = if x4 < x3 then (m_bd (m_evc d 901 [.ref 1000001, .int x4] (SH, st)) fun w h => m_ev none d 60 32 [some (.ref 35), some (.ref 1000001), some (.int x2), some (.int x3), some (.int x4)] (w.toList ++ []) h) else (m_ev none d 60 57 [some (.ref 35), some (.ref 1000001), some (.int x2), some (.int x3), some (.int x4)] [] (SH, st)) := m_ev_K _ _ _ _ _ _ _
set_option maxRecDepth 20000 in
theorem ebX6_isSpelt_32 (d : Nat) (st : Nat → Nat → Int32) (x2 x3 x4 t0 : Int32) : m_ev none d 60 32 [some (.ref 35), some (.ref 1000001), some (.int x2), some (.int x3), some (.int x4)] [.int t0] (SH, st) = m_ob (m_ix (((st 35 4) + x4) - x2) 200) fun q1 => if t0 = (st 36 q1) then (m_ev none d 60 51 [some (.ref 35), some (.ref 1000001), some (.int x2), some (.int x3), some (.int x4)] [] (SH, st)) else (some (some (.int 0), (SH, st))) := m_ev_K _ _ _ _ _ _ _
set_option maxRecDepth 20000 in
theorem ebX6_isSpelt_51 (d : Nat) (st : Nat → Nat → Int32) (x2 x3 x4 : Int32) : m_ev none d 60 51 [some (.ref 35), some (.ref 1000001), some (.int x2), some (.int x3), some (.int x4)] [] (SH, st) = m_ev none d 60 20 [some (.ref 35), some (.ref 1000001), some (.int x2), some (.int x3), some (.int (x4 + 1))] [] (SH, st) := m_ev_K _ _ _ _ _ _ _
set_option maxRecDepth 20000 in
theorem ebX6_isSpelt_57 (d : Nat) (st : Nat → Nat → Int32) (x2 x3 x4 : Int32) : m_ev none d 60 57 [some (.ref 35), some (.ref 1000001), some (.int x2), some (.int x3), some (.int x4)] [] (SH, st) = some (some (.int 1), (SH, st)) := m_ev_K _ _ _ _ _ _ _
set_option maxRecDepth 20000 in
theorem ecX6_isSpelt_0 (d : Nat) (st : Nat → Nat → Int32) (x2 x3 : Int32) : m_ev none d 60 0 [some (.ref 35), some (.ref 1000002), some (.int x2), some (.int x3), none] [] (SH, st) = if (x3 - x2) = ((st 35 5) - (st 35 4)) then (m_ev none d 60 17 [some (.ref 35), some (.ref 1000002), some (.int x2), some (.int x3), none] [] (SH, st)) else (some (some (.int 0), (SH, st))) := m_ev_K _ _ _ _ _ _ _
set_option maxRecDepth 20000 in
theorem ecX6_isSpelt_17 (d : Nat) (st : Nat → Nat → Int32) (x2 x3 : Int32) : m_ev none d 60 17 [some (.ref 35), some (.ref 1000002), some (.int x2), some (.int x3), none] [] (SH, st) = m_ev none d 60 20 [some (.ref 35), some (.ref 1000002), some (.int x2), some (.int x3), some (.int x2)] [] (SH, st) := m_ev_K _ _ _ _ _ _ _
set_option maxRecDepth 20000 in
theorem ecX6_isSpelt_20 (d : Nat) (st : Nat → Nat → Int32) (x2 x3 x4 : Int32) : m_ev none d 60 20 [some (.ref 35), some (.ref 1000002), some (.int x2), some (.int x3), some (.int x4)] [] (SH, st) = if x4 < x3 then (m_bd (m_evc d 901 [.ref 1000002, .int x4] (SH, st)) fun w h => m_ev none d 60 32 [some (.ref 35), some (.ref 1000002), some (.int x2), some (.int x3), some (.int x4)] (w.toList ++ []) h) else (m_ev none d 60 57 [some (.ref 35), some (.ref 1000002), some (.int x2), some (.int x3), some (.int x4)] [] (SH, st)) := m_ev_K _ _ _ _ _ _ _
set_option maxRecDepth 20000 in
theorem ecX6_isSpelt_32 (d : Nat) (st : Nat → Nat → Int32) (x2 x3 x4 t0 : Int32) : m_ev none d 60 32 [some (.ref 35), some (.ref 1000002), some (.int x2), some (.int x3), some (.int x4)] [.int t0] (SH, st) = m_ob (m_ix (((st 35 4) + x4) - x2) 200) fun q1 => if t0 = (st 36 q1) then (m_ev none d 60 51 [some (.ref 35), some (.ref 1000002), some (.int x2), some (.int x3), some (.int x4)] [] (SH, st)) else (some (some (.int 0), (SH, st))) := m_ev_K _ _ _ _ _ _ _
set_option maxRecDepth 20000 in
theorem ecX6_isSpelt_51 (d : Nat) (st : Nat → Nat → Int32) (x2 x3 x4 : Int32) : m_ev none d 60 51 [some (.ref 35), some (.ref 1000002), some (.int x2), some (.int x3), some (.int x4)] [] (SH, st) = m_ev none d 60 20 [some (.ref 35), some (.ref 1000002), some (.int x2), some (.int x3), some (.int (x4 + 1))] [] (SH, st) := m_ev_K _ _ _ _ _ _ _
set_option maxRecDepth 20000 in
theorem ecX6_isSpelt_57 (d : Nat) (st : Nat → Nat → Int32) (x2 x3 x4 : Int32) : m_ev none d 60 57 [some (.ref 35), some (.ref 1000002), some (.int x2), some (.int x3), some (.int x4)] [] (SH, st) = some (some (.int 1), (SH, st)) := m_ev_K _ _ _ _ _ _ _
set_option maxRecDepth 20000 in
theorem edX6_isSpelt_0 (d : Nat) (st : Nat → Nat → Int32) (x2 x3 : Int32) : m_ev none d 60 0 [some (.ref 35), some (.ref 1000003), some (.int x2), some (.int x3), none] [] (SH, st) = if (x3 - x2) = ((st 35 5) - (st 35 4)) then (m_ev none d 60 17 [some (.ref 35), some (.ref 1000003), some (.int x2), some (.int x3), none] [] (SH, st)) else (some (some (.int 0), (SH, st))) := m_ev_K _ _ _ _ _ _ _
set_option maxRecDepth 20000 in
theorem edX6_isSpelt_17 (d : Nat) (st : Nat → Nat → Int32) (x2 x3 : Int32) : m_ev none d 60 17 [some (.ref 35), some (.ref 1000003), some (.int x2), some (.int x3), none] [] (SH, st) = m_ev none d 60 20 [some (.ref 35), some (.ref 1000003), some (.int x2), some (.int x3), some (.int x2)] [] (SH, st) := m_ev_K _ _ _ _ _ _ _
set_option maxRecDepth 20000 in
theorem edX6_isSpelt_20 (d : Nat) (st : Nat → Nat → Int32) (x2 x3 x4 : Int32) : m_ev none d 60 20 [some (.ref 35), some (.ref 1000003), some (.int x2), some (.int x3), some (.int x4)] [] (SH, st) = if x4 < x3 then (m_bd (m_evc d 901 [.ref 1000003, .int x4] (SH, st)) fun w h => m_ev none d 60 32 [some (.ref 35), some (.ref 1000003), some (.int x2), some (.int x3), some (.int x4)] (w.toList ++ []) h) else (m_ev none d 60 57 [some (.ref 35), some (.ref 1000003), some (.int x2), some (.int x3), some (.int x4)] [] (SH, st)) := m_ev_K _ _ _ _ _ _ _
set_option maxRecDepth 20000 in
theorem edX6_isSpelt_32 (d : Nat) (st : Nat → Nat → Int32) (x2 x3 x4 t0 : Int32) : m_ev none d 60 32 [some (.ref 35), some (.ref 1000003), some (.int x2), some (.int x3), some (.int x4)] [.int t0] (SH, st) = m_ob (m_ix (((st 35 4) + x4) - x2) 200) fun q1 => if t0 = (st 36 q1) then (m_ev none d 60 51 [some (.ref 35), some (.ref 1000003), some (.int x2), some (.int x3), some (.int x4)] [] (SH, st)) else (some (some (.int 0), (SH, st))) := m_ev_K _ _ _ _ _ _ _
set_option maxRecDepth 20000 in
theorem edX6_isSpelt_51 (d : Nat) (st : Nat → Nat → Int32) (x2 x3 x4 : Int32) : m_ev none d 60 51 [some (.ref 35), some (.ref 1000003), some (.int x2), some (.int x3), some (.int x4)] [] (SH, st) = m_ev none d 60 20 [some (.ref 35), some (.ref 1000003), some (.int x2), some (.int x3), some (.int (x4 + 1))] [] (SH, st) := m_ev_K _ _ _ _ _ _ _
set_option maxRecDepth 20000 in
theorem edX6_isSpelt_57 (d : Nat) (st : Nat → Nat → Int32) (x2 x3 x4 : Int32) : m_ev none d 60 57 [some (.ref 35), some (.ref 1000003), some (.int x2), some (.int x3), some (.int x4)] [] (SH, st) = some (some (.int 1), (SH, st)) := m_ev_K _ _ _ _ _ _ _
set_option maxRecDepth 20000 in
theorem eeX6_isSpelt_0 (d : Nat) (st : Nat → Nat → Int32) (x2 x3 : Int32) : m_ev none d 60 0 [some (.ref 35), some (.ref 1000004), some (.int x2), some (.int x3), none] [] (SH, st) = if (x3 - x2) = ((st 35 5) - (st 35 4)) then (m_ev none d 60 17 [some (.ref 35), some (.ref 1000004), some (.int x2), some (.int x3), none] [] (SH, st)) else (some (some (.int 0), (SH, st))) := m_ev_K _ _ _ _ _ _ _
set_option maxRecDepth 20000 in
theorem eeX6_isSpelt_17 (d : Nat) (st : Nat → Nat → Int32) (x2 x3 : Int32) : m_ev none d 60 17 [some (.ref 35), some (.ref 1000004), some (.int x2), some (.int x3), none] [] (SH, st) = m_ev none d 60 20 [some (.ref 35), some (.ref 1000004), some (.int x2), some (.int x3), some (.int x2)] [] (SH, st) := m_ev_K _ _ _ _ _ _ _
set_option maxRecDepth 20000 in
theorem eeX6_isSpelt_20 (d : Nat) (st : Nat → Nat → Int32) (x2 x3 x4 : Int32) : m_ev none d 60 20 [some (.ref 35), some (.ref 1000004), some (.int x2), some (.int x3), some (.int x4)] [] (SH, st) = if x4 < x3 then (m_bd (m_evc d 901 [.ref 1000004, .int x4] (SH, st)) fun w h => m_ev none d 60 32 [some (.ref 35), some (.ref 1000004), some (.int x2), some (.int x3), some (.int x4)] (w.toList ++ []) h) else (m_ev none d 60 57 [some (.ref 35), some (.ref 1000004), some (.int x2), some (.int x3), some (.int x4)] [] (SH, st)) := m_ev_K _ _ _ _ _ _ _
set_option maxRecDepth 20000 in
theorem eeX6_isSpelt_32 (d : Nat) (st : Nat → Nat → Int32) (x2 x3 x4 t0 : Int32) : m_ev none d 60 32 [some (.ref 35), some (.ref 1000004), some (.int x2), some (.int x3), some (.int x4)] [.int t0] (SH, st) = m_ob (m_ix (((st 35 4) + x4) - x2) 200) fun q1 => if t0 = (st 36 q1) then (m_ev none d 60 51 [some (.ref 35), some (.ref 1000004), some (.int x2), some (.int x3), some (.int x4)] [] (SH, st)) else (some (some (.int 0), (SH, st))) := m_ev_K _ _ _ _ _ _ _
set_option maxRecDepth 20000 in
theorem eeX6_isSpelt_51 (d : Nat) (st : Nat → Nat → Int32) (x2 x3 x4 : Int32) : m_ev none d 60 51 [some (.ref 35), some (.ref 1000004), some (.int x2), some (.int x3), some (.int x4)] [] (SH, st) = m_ev none d 60 20 [some (.ref 35), some (.ref 1000004), some (.int x2), some (.int x3), some (.int (x4 + 1))] [] (SH, st) := m_ev_K _ _ _ _ _ _ _
set_option maxRecDepth 20000 in
theorem eeX6_isSpelt_57 (d : Nat) (st : Nat → Nat → Int32) (x2 x3 x4 : Int32) : m_ev none d 60 57 [some (.ref 35), some (.ref 1000004), some (.int x2), some (.int x3), some (.int x4)] [] (SH, st) = some (some (.int 1), (SH, st)) := m_ev_K _ _ _ _ _ _ _
set_option maxRecDepth 20000 in
theorem efX6_isSpelt_0 (d : Nat) (st : Nat → Nat → Int32) (x2 x3 : Int32) : m_ev none d 60 0 [some (.ref 35), some (.ref 1000005), some (.int x2), some (.int x3), none] [] (SH, st) = if (x3 - x2) = ((st 35 5) - (st 35 4)) then (m_ev none d 60 17 [some (.ref 35), some (.ref 1000005), some (.int x2), some (.int x3), none] [] (SH, st)) else (some (some (.int 0), (SH, st))) := m_ev_K _ _ _ _ _ _ _
set_option maxRecDepth 20000 in
theorem efX6_isSpelt_17 (d : Nat) (st : Nat → Nat → Int32) (x2 x3 : Int32) : m_ev none d 60 17 [some (.ref 35), some (.ref 1000005), some (.int x2), some (.int x3), none] [] (SH, st) = m_ev none d 60 20 [some (.ref 35), some (.ref 1000005), some (.int x2), some (.int x3), some (.int x2)] [] (SH, st) := m_ev_K _ _ _ _ _ _ _
set_option maxRecDepth 20000 in
theorem efX6_isSpelt_20 (d : Nat) (st : Nat → Nat → Int32) (x2 x3 x4 : Int32) : m_ev none d 60 20 [some (.ref 35), some (.ref 1000005), some (.int x2), some (.int x3), some (.int x4)] [] (SH, st) = if x4 < x3 then (m_bd (m_evc d 901 [.ref 1000005, .int x4] (SH, st)) fun w h => m_ev none d 60 32 [some (.ref 35), some (.ref 1000005), some (.int x2), some (.int x3), some (.int x4)] (w.toList ++ []) h) else (m_ev none d 60 57 [some (.ref 35), some (.ref 1000005), some (.int x2), some (.int x3), some (.int x4)] [] (SH, st)) := m_ev_K _ _ _ _ _ _ _
set_option maxRecDepth 20000 in
theorem efX6_isSpelt_32 (d : Nat) (st : Nat → Nat → Int32) (x2 x3 x4 t0 : Int32) : m_ev none d 60 32 [some (.ref 35), some (.ref 1000005), some (.int x2), some (.int x3), some (.int x4)] [.int t0] (SH, st) = m_ob (m_ix (((st 35 4) + x4) - x2) 200) fun q1 => if t0 = (st 36 q1) then (m_ev none d 60 51 [some (.ref 35), some (.ref 1000005), some (.int x2), some (.int x3), some (.int x4)] [] (SH, st)) else (some (some (.int 0), (SH, st))) := m_ev_K _ _ _ _ _ _ _
set_option maxRecDepth 20000 in
theorem efX6_isSpelt_51 (d : Nat) (st : Nat → Nat → Int32) (x2 x3 x4 : Int32) : m_ev none d 60 51 [some (.ref 35), some (.ref 1000005), some (.int x2), some (.int x3), some (.int x4)] [] (SH, st) = m_ev none d 60 20 [some (.ref 35), some (.ref 1000005), some (.int x2), some (.int x3), some (.int (x4 + 1))] [] (SH, st) := m_ev_K _ _ _ _ _ _ _
set_option maxRecDepth 20000 in
theorem efX6_isSpelt_57 (d : Nat) (st : Nat → Nat → Int32) (x2 x3 x4 : Int32) : m_ev none d 60 57 [some (.ref 35), some (.ref 1000005), some (.int x2), some (.int x3), some (.int x4)] [] (SH, st) = some (some (.int 1), (SH, st)) := m_ev_K _ _ _ _ _ _ _
