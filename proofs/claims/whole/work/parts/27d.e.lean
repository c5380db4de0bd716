set_option maxRecDepth 20000 in
theorem eX12_byteAt_17 (d : Nat) (st : Nat → Nat → Int32) (x1 : Int32) : m_ev none d 227 17 [some (.ref 85), some (.int x1)] [] (SH, st) = m_ev none d 227 18 [some (.ref 85), some (.int x1)] [.int (-1)] (SH, st) := m_ev_K _ _ _ _ _ _ _
set_option maxRecDepth 20000 in
theorem eX12_byteAt_18 (d : Nat) (st : Nat → Nat → Int32) (x1 t0 : Int32) : m_ev none d 227 18 [some (.ref 85), some (.int x1)] [.int t0] (SH, st) = some (some (.int t0), (SH, st)) := m_ev_K _ _ _ _ _ _ _
set_option maxRecDepth 20000 in
theorem eX12_isLetter_0 (d : Nat) (st : Nat → Nat → Int32) (x0 : Int32) : m_ev none d 228 0 [some (.int x0)] [] (SH, st) = m_bd (m_evc d 155 [.long ((x0 : Int32).toInt64), .long 97, .long 122] (SH, st)) fun w h => m_ev none d 228 11 [some (.int x0)] (w.toList ++ []) h := m_ev_K _ _ _ _ _ _ _
set_option maxRecDepth 20000 in
theorem eX12_isLetter_11 (d : Nat) (st : Nat → Nat → Int32) (x0 t0 : Int32) : m_ev none d 228 11 [some (.int x0)] [.int t0] (SH, st) = if t0 = 0 ∨ t0 = 1 then some (some (.int t0), (SH, st)) else none := m_ev_K _ _ _ _ _ _ _
set_option maxRecDepth 20000 in
theorem eX12_isDigit_0 (d : Nat) (st : Nat → Nat → Int32) (x0 : Int32) : m_ev none d 229 0 [some (.int x0)] [] (SH, st) = m_bd (m_evc d 155 [.long ((x0 : Int32).toInt64), .long 48, .long 57] (SH, st)) fun w h => m_ev none d 229 11 [some (.int x0)] (w.toList ++ []) h := m_ev_K _ _ _ _ _ _ _
set_option maxRecDepth 20000 in
theorem eX12_isDigit_11 (d : Nat) (st : Nat → Nat → Int32) (x0 t0 : Int32) : m_ev none d 229 11 [some (.int x0)] [.int t0] (SH, st) = if t0 = 0 ∨ t0 = 1 then some (some (.int t0), (SH, st)) else none := m_ev_K _ _ _ _ _ _ _
set_option maxRecDepth 20000 in
theorem eX12_token_0 (d : Nat) (st : Nat → Nat → Int32) : m_ev none d 230 0 [some (.ref 85), none, none] [] (SH, st) = m_ev none d 230 8 [some (.ref 85), none, none] [] (SH, (m_up st 85 18 (st 85 19))) := m_ev_K _ _ _ _ _ _ _
set_option maxRecDepth 20000 in
theorem eX12_token_8 (d : Nat) (st : Nat → Nat → Int32) : m_ev none d 230 8 [some (.ref 85), none, none] [] (SH, st) = m_bd (m_evc d 227 [.ref 85, .int (st 85 18)] (SH, st)) fun w h => m_ev none d 230 16 [some (.ref 85), none, none] (w.toList ++ []) h := m_ev_K _ _ _ _ _ _ _
set_option maxRecDepth 20000 in
theorem eX12_token_16 (d : Nat) (st : Nat → Nat → Int32) (t0 : Int32) : m_ev none d 230 16 [some (.ref 85), none, none] [.int t0] (SH, st) = if t0 = 32 then (m_ev none d 230 8 [some (.ref 85), none, none] [] (SH, (m_up st 85 18 ((st 85 18) + 1)))) else (m_ev none d 230 34 [some (.ref 85), none, none] [] (SH, st)) := m_ev_K _ _ _ _ _ _ _
set_option maxRecDepth 20000 in
theorem eX12_token_34 (d : Nat) (st : Nat → Nat → Int32) : m_ev none d 230 34 [some (.ref 85), none, none] [] (SH, st) = m_bd (m_evc d 227 [.ref 85, .int (st 85 18)] (SH, st)) fun w h => m_ev none d 230 42 [some (.ref 85), none, none] (w.toList ++ []) h := m_ev_K _ _ _ _ _ _ _
set_option maxRecDepth 20000 in
theorem eX12_token_42 (d : Nat) (st : Nat → Nat → Int32) (t0 : Int32) : m_ev none d 230 42 [some (.ref 85), none, none] [.int t0] (SH, st) = m_bd (m_evc d 228 [.int t0] (SH, st)) fun w h => m_ev none d 230 45 [some (.ref 85), none, none] (w.toList ++ []) h := m_ev_K _ _ _ _ _ _ _
set_option maxRecDepth 20000 in
theorem eX12_token_45 (d : Nat) (st : Nat → Nat → Int32) (t0 : Int32) : m_ev none d 230 45 [some (.ref 85), none, none] [.int t0] (SH, st) = m_bd (m_evc d 227 [.ref 85, .int (st 85 18)] (SH, st)) fun w h => m_ev none d 230 54 [some (.ref 85), some (.int t0), none] (w.toList ++ []) h := m_ev_K _ _ _ _ _ _ _
set_option maxRecDepth 20000 in
theorem eX12_token_54 (d : Nat) (st : Nat → Nat → Int32) (x1 t0 : Int32) : m_ev none d 230 54 [some (.ref 85), some (.int x1), none] [.int t0] (SH, st) = m_bd (m_evc d 229 [.int t0] (SH, st)) fun w h => m_ev none d 230 57 [some (.ref 85), some (.int x1), none] (w.toList ++ []) h := m_ev_K _ _ _ _ _ _ _
set_option maxRecDepth 20000 in
theorem eX12_token_57 (d : Nat) (st : Nat → Nat → Int32) (x1 t0 : Int32) : m_ev none d 230 57 [some (.ref 85), some (.int x1), none] [.int t0] (SH, st) = if (st 85 18) < (st 85 17) then (m_ev none d 230 83 [some (.ref 85), some (.int x1), some (.int t0)] [.int ((st 85 18) + 1), .ref 85] (SH, st)) else (m_ev none d 230 79 [some (.ref 85), some (.int x1), some (.int t0)] [.ref 85] (SH, st)) := m_ev_K _ _ _ _ _ _ _
set_option maxRecDepth 20000 in
theorem eX12_token_79 (d : Nat) (st : Nat → Nat → Int32) (x1 x2 : Int32) : m_ev none d 230 79 [some (.ref 85), some (.int x1), some (.int x2)] [.ref 85] (SH, st) = m_ev none d 230 83 [some (.ref 85), some (.int x1), some (.int x2)] [.int (st 85 18), .ref 85] (SH, st) := m_ev_K _ _ _ _ _ _ _
set_option maxRecDepth 20000 in
theorem eX12_token_83 (d : Nat) (st : Nat → Nat → Int32) (x1 x2 t0 : Int32) : m_ev none d 230 83 [some (.ref 85), some (.int x1), some (.int x2)] [.int t0, .ref 85] (SH, st) = m_ev none d 230 86 [some (.ref 85), some (.int x1), some (.int x2)] [] (SH, (m_up st 85 19 t0)) := m_ev_K _ _ _ _ _ _ _
set_option maxRecDepth 20000 in
theorem eX12_token_86 (d : Nat) (st : Nat → Nat → Int32) (x1 x2 : Int32) : m_ev none d 230 86 [some (.ref 85), some (.int x1), some (.int x2)] [] (SH, st) = if x1 = 0 then (m_ev none d 230 104 [some (.ref 85), some (.int x1), some (.int x2)] [] (SH, st)) else (m_bd (m_evc d 227 [.ref 85, .int (st 85 19)] (SH, st)) fun w h => m_ev none d 230 98 [some (.ref 85), some (.int x1), some (.int x2)] (w.toList ++ []) h) := m_ev_K _ _ _ _ _ _ _
set_option maxRecDepth 20000 in
theorem eX12_token_98 (d : Nat) (st : Nat → Nat → Int32) (x1 x2 t0 : Int32) : m_ev none d 230 98 [some (.ref 85), some (.int x1), some (.int x2)] [.int t0] (SH, st) = m_bd (m_evc d 228 [.int t0] (SH, st)) fun w h => m_ev none d 230 101 [some (.ref 85), some (.int x1), some (.int x2)] (w.toList ++ []) h := m_ev_K _ _ _ _ _ _ _
set_option maxRecDepth 20000 in
theorem eX12_token_101 (d : Nat) (st : Nat → Nat → Int32) (x1 x2 t0 : Int32) : m_ev none d 230 101 [some (.ref 85), some (.int x1), some (.int x2)] [.int t0] (SH, st) = if t0 = 0 then (m_ev none d 230 104 [some (.ref 85), some (.int x1), some (.int x2)] [] (SH, st)) else (m_ev none d 230 122 [some (.ref 85), some (.int x1), some (.int x2)] [] (SH, st)) := m_ev_K _ _ _ _ _ _ _
set_option maxRecDepth 20000 in
theorem eX12_token_104 (d : Nat) (st : Nat → Nat → Int32) (x1 x2 : Int32) : m_ev none d 230 104 [some (.ref 85), some (.int x1), some (.int x2)] [] (SH, st) = if x2 = 0 then (m_ev none d 230 135 [some (.ref 85), some (.int x1), some (.int x2)] [] (SH, st)) else (m_bd (m_evc d 227 [.ref 85, .int (st 85 19)] (SH, st)) fun w h => m_ev none d 230 116 [some (.ref 85), some (.int x1), some (.int x2)] (w.toList ++ []) h) := m_ev_K _ _ _ _ _ _ _
set_option maxRecDepth 20000 in
theorem eX12_token_116 (d : Nat) (st : Nat → Nat → Int32) (x1 x2 t0 : Int32) : m_ev none d 230 116 [some (.ref 85), some (.int x1), some (.int x2)] [.int t0] (SH, st) = m_bd (m_evc d 229 [.int t0] (SH, st)) fun w h => m_ev none d 230 119 [some (.ref 85), some (.int x1), some (.int x2)] (w.toList ++ []) h := m_ev_K _ _ _ _ _ _ _
set_option maxRecDepth 20000 in
theorem eX12_token_119 (d : Nat) (st : Nat → Nat → Int32) (x1 x2 t0 : Int32) : m_ev none d 230 119 [some (.ref 85), some (.int x1), some (.int x2)] [.int t0] (SH, st) = if t0 = 0 then (m_ev none d 230 135 [some (.ref 85), some (.int x1), some (.int x2)] [] (SH, st)) else (m_ev none d 230 122 [some (.ref 85), some (.int x1), some (.int x2)] [] (SH, st)) := m_ev_K _ _ _ _ _ _ _
set_option maxRecDepth 20000 in
theorem eX12_token_122 (d : Nat) (st : Nat → Nat → Int32) (x1 x2 : Int32) : m_ev none d 230 122 [some (.ref 85), some (.int x1), some (.int x2)] [] (SH, st) = m_ev none d 230 86 [some (.ref 85), some (.int x1), some (.int x2)] [] (SH, (m_up st 85 19 ((st 85 19) + 1))) := m_ev_K _ _ _ _ _ _ _
set_option maxRecDepth 20000 in
theorem eX12_token_135 (d : Nat) (st : Nat → Nat → Int32) (x1 x2 : Int32) : m_ev none d 230 135 [some (.ref 85), some (.int x1), some (.int x2)] [] (SH, st) = some (none, (SH, st)) := m_ev_K _ _ _ _ _ _ _
set_option maxRecDepth 20000 in
theorem eX12_needs_0 (d : Nat) (st : Nat → Nat → Int32) (x1 : Int32) : m_ev none d 231 0 [some (.ref 85), some (.int x1)] [] (SH, st) = if (st 85 23) = 0 then (if x1 = 0 then (m_ev none d 231 12 [some (.ref 85), some (.int x1)] [.ref 85] (SH, st)) else (m_ev none d 231 16 [some (.ref 85), some (.int x1)] [.ref 85] (SH, st))) else (m_ev none d 231 12 [some (.ref 85), some (.int x1)] [.ref 85] (SH, st)) := m_ev_K _ _ _ _ _ _ _
set_option maxRecDepth 20000 in
theorem eX12_needs_12 (d : Nat) (st : Nat → Nat → Int32) (x1 : Int32) : m_ev none d 231 12 [some (.ref 85), some (.int x1)] [.ref 85] (SH, st) = m_ev none d 231 17 [some (.ref 85), some (.int x1)] [.int 1, .ref 85] (SH, st) := m_ev_K _ _ _ _ _ _ _
set_option maxRecDepth 20000 in
theorem eX12_needs_16 (d : Nat) (st : Nat → Nat → Int32) (x1 : Int32) : m_ev none d 231 16 [some (.ref 85), some (.int x1)] [.ref 85] (SH, st) = m_ev none d 231 17 [some (.ref 85), some (.int x1)] [.int 0, .ref 85] (SH, st) := m_ev_K _ _ _ _ _ _ _
set_option maxRecDepth 20000 in
theorem eX12_needs_17 (d : Nat) (st : Nat → Nat → Int32) (x1 t0 : Int32) : m_ev none d 231 17 [some (.ref 85), some (.int x1)] [.int t0, .ref 85] (SH, st) = if t0 = 0 ∨ t0 = 1 then (if t0 = 0 then (m_bd (m_evc d 230 [.ref 85] (SH, (m_up st 85 23 t0))) fun w h => m_ev none d 231 31 [some (.ref 85), some (.int x1)] (w.toList ++ []) h) else (m_ev none d 231 31 [some (.ref 85), some (.int x1)] [] (SH, (m_up st 85 23 t0)))) else none := m_ev_K _ _ _ _ _ _ _
set_option maxRecDepth 20000 in
theorem eX12_needs_31 (d : Nat) (st : Nat → Nat → Int32) (x1 : Int32) : m_ev none d 231 31 [some (.ref 85), some (.int x1)] [] (SH, st) = some (none, (SH, st)) := m_ev_K _ _ _ _ _ _ _
set_option maxRecDepth 20000 in
theorem eX12_word_0 (d : Nat) (st : Nat → Nat → Int32) : m_ev none d 232 0 [some (.ref 85), none, none, none] [] (SH, st) = m_ev none d 232 7 [some (.ref 85), some (.long 0), none, some (.int (st 85 18))] [] (SH, st) := m_ev_K _ _ _ _ _ _ _
set_option maxRecDepth 20000 in
theorem eX12_word_7 (d : Nat) (st : Nat → Nat → Int32) (x3 : Int32) (x1 : Int64) : m_ev none d 232 7 [some (.ref 85), some (.long x1), none, some (.int x3)] [] (SH, st) = if x3 < (st 85 19) then (if 0 < (lg_cmp x1 36028797018963967) then (m_ev none d 232 43 [some (.ref 85), some (.long x1), none, some (.int x3)] [.long x1] (SH, st)) else (m_ev none d 232 27 [some (.ref 85), some (.long x1), none, some (.int x3)] [] (SH, st))) else (m_ev none d 232 50 [some (.ref 85), some (.long x1), none, some (.int x3)] [] (SH, st)) := m_ev_K _ _ _ _ _ _ _
set_option maxRecDepth 20000 in
theorem eX12_word_27 (d : Nat) (st : Nat → Nat → Int32) (x3 : Int32) (x1 : Int64) : m_ev none d 232 27 [some (.ref 85), some (.long x1), none, some (.int x3)] [] (SH, st) = m_ob (m_ix x3 200) fun q1 => m_ev none d 232 43 [some (.ref 85), some (.long x1), none, some (.int x3)] [.long ((32 * x1) + (((st 94 q1) - 96) : Int32).toInt64)] (SH, st) := m_ev_K _ _ _ _ _ _ _
set_option maxRecDepth 20000 in
theorem eX12_word_43 (d : Nat) (st : Nat → Nat → Int32) (x3 : Int32) (x1 t0 : Int64) : m_ev none d 232 43 [some (.ref 85), some (.long x1), none, some (.int x3)] [.long t0] (SH, st) = m_ev none d 232 7 [some (.ref 85), some (.long t0), none, some (.int (x3 + 1))] [] (SH, st) := m_ev_K _ _ _ _ _ _ _
set_option maxRecDepth 20000 in
theorem eX12_word_50 (d : Nat) (st : Nat → Nat → Int32) (x3 : Int32) (x1 : Int64) : m_ev none d 232 50 [some (.ref 85), some (.long x1), none, some (.int x3)] [] (SH, st) = if (st 85 23) = 0 then (m_bd (m_evc d 227 [.ref 85, .int (st 85 18)] (SH, st)) fun w h => m_ev none d 232 65 [some (.ref 85), some (.long x1), none, some (.int x3)] (w.toList ++ []) h) else (m_ev none d 232 71 [some (.ref 85), some (.long x1), none, some (.int x3)] [] (SH, st)) := m_ev_K _ _ _ _ _ _ _
set_option maxRecDepth 20000 in
theorem eX12_word_65 (d : Nat) (st : Nat → Nat → Int32) (x3 t0 : Int32) (x1 : Int64) : m_ev none d 232 65 [some (.ref 85), some (.long x1), none, some (.int x3)] [.int t0] (SH, st) = m_bd (m_evc d 228 [.int t0] (SH, st)) fun w h => m_ev none d 232 68 [some (.ref 85), some (.long x1), none, some (.int x3)] (w.toList ++ []) h := m_ev_K _ _ _ _ _ _ _
set_option maxRecDepth 20000 in
theorem eX12_word_68 (d : Nat) (st : Nat → Nat → Int32) (x3 t0 : Int32) (x1 : Int64) : m_ev none d 232 68 [some (.ref 85), some (.long x1), none, some (.int x3)] [.int t0] (SH, st) = if t0 = 0 then (m_ev none d 232 71 [some (.ref 85), some (.long x1), none, some (.int x3)] [] (SH, st)) else (m_ev none d 232 75 [some (.ref 85), some (.long x1), none, some (.int x3)] [] (SH, st)) := m_ev_K _ _ _ _ _ _ _
set_option maxRecDepth 20000 in
theorem eX12_word_71 (d : Nat) (st : Nat → Nat → Int32) (x3 : Int32) (x1 : Int64) : m_ev none d 232 71 [some (.ref 85), some (.long x1), none, some (.int x3)] [] (SH, st) = m_ev none d 232 76 [some (.ref 85), some (.long x1), none, some (.int x3)] [.long 0] (SH, st) := m_ev_K _ _ _ _ _ _ _
set_option maxRecDepth 20000 in
theorem eX12_word_75 (d : Nat) (st : Nat → Nat → Int32) (x3 : Int32) (x1 : Int64) : m_ev none d 232 75 [some (.ref 85), some (.long x1), none, some (.int x3)] [] (SH, st) = m_ev none d 232 76 [some (.ref 85), some (.long x1), none, some (.int x3)] [.long x1] (SH, st) := m_ev_K _ _ _ _ _ _ _
set_option maxRecDepth 20000 in
theorem eX12_word_76 (d : Nat) (st : Nat → Nat → Int32) (x3 : Int32) (x1 t0 : Int64) : m_ev none d 232 76 [some (.ref 85), some (.long x1), none, some (.int x3)] [.long t0] (SH, st) = some (some (.long t0), (SH, st)) := m_ev_K _ _ _ _ _ _ _
set_option maxRecDepth 20000 in
theorem eX12_number_0 (d : Nat) (st : Nat → Nat → Int32) (x1 : Int32) : m_ev none d 233 0 [some (.ref 85), some (.int x1), none, none] [] (SH, st) = m_bd (m_evc d 227 [.ref 85, .int (st 85 18)] (SH, st)) fun w h => m_ev none d 233 8 [some (.ref 85), some (.int x1), none, none] (w.toList ++ []) h := m_ev_K _ _ _ _ _ _ _
set_option maxRecDepth 20000 in
theorem eX12_number_8 (d : Nat) (st : Nat → Nat → Int32) (x1 t0 : Int32) : m_ev none d 233 8 [some (.ref 85), some (.int x1), none, none] [.int t0] (SH, st) = m_bd (m_evc d 229 [.int t0] (SH, st)) fun w h => m_ev none d 233 11 [some (.ref 85), some (.int x1), none, none] (w.toList ++ []) h := m_ev_K _ _ _ _ _ _ _
set_option maxRecDepth 20000 in
theorem eX12_number_11 (d : Nat) (st : Nat → Nat → Int32) (x1 t0 : Int32) : m_ev none d 233 11 [some (.ref 85), some (.int x1), none, none] [.int t0] (SH, st) = if t0 = 0 then (m_ev none d 233 31 [some (.ref 85), some (.int x1), none, none] [] (SH, st)) else (if ((st 85 19) - (st 85 18)) < 5 then (m_ev none d 233 32 [some (.ref 85), some (.int x1), none, none] [.int 1] (SH, st)) else (m_ev none d 233 31 [some (.ref 85), some (.int x1), none, none] [] (SH, st))) := m_ev_K _ _ _ _ _ _ _
set_option maxRecDepth 20000 in
theorem eX12_number_31 (d : Nat) (st : Nat → Nat → Int32) (x1 : Int32) : m_ev none d 233 31 [some (.ref 85), some (.int x1), none, none] [] (SH, st) = m_ev none d 233 32 [some (.ref 85), some (.int x1), none, none] [.int 0] (SH, st) := m_ev_K _ _ _ _ _ _ _
set_option maxRecDepth 20000 in
theorem eX12_number_32 (d : Nat) (st : Nat → Nat → Int32) (x1 t0 : Int32) : m_ev none d 233 32 [some (.ref 85), some (.int x1), none, none] [.int t0] (SH, st) = m_ev none d 233 43 [some (.ref 85), some (.int x1), some (.int t0), some (.int (st 85 18))] [] (SH, (m_up st 85 20 0)) := m_ev_K _ _ _ _ _ _ _
set_option maxRecDepth 20000 in
theorem eX12_number_43 (d : Nat) (st : Nat → Nat → Int32) (x1 x2 x3 : Int32) : m_ev none d 233 43 [some (.ref 85), some (.int x1), some (.int x2), some (.int x3)] [] (SH, st) = if x3 < (st 85 19) then (if x2 = 0 then (m_ev none d 233 82 [some (.ref 85), some (.int x1), some (.int x2), some (.int x3)] [] (SH, st)) else (m_ob (m_ix x3 200) fun q1 => m_ev none d 233 43 [some (.ref 85), some (.int x1), some (.int x2), some (.int (x3 + 1))] [] (SH, (m_up st 85 20 (((10 * (st 85 20)) + (st 94 q1)) - 48))))) else (m_ev none d 233 82 [some (.ref 85), some (.int x1), some (.int x2), some (.int x3)] [] (SH, st)) := m_ev_K _ _ _ _ _ _ _
set_option maxRecDepth 20000 in
theorem eX12_number_82 (d : Nat) (st : Nat → Nat → Int32) (x1 x2 x3 : Int32) : m_ev none d 233 82 [some (.ref 85), some (.int x1), some (.int x2), some (.int x3)] [] (SH, st) = if x2 = 0 then (m_ev none d 233 99 [some (.ref 85), some (.int x1), some (.int x2), some (.int x3)] [.ref 85] (SH, st)) else (if x1 < (st 85 20) then (m_ev none d 233 99 [some (.ref 85), some (.int x1), some (.int x2), some (.int x3)] [.ref 85] (SH, st)) else (m_ev none d 233 100 [some (.ref 85), some (.int x1), some (.int x2), some (.int x3)] [.int 1, .ref 85] (SH, st))) := m_ev_K _ _ _ _ _ _ _
set_option maxRecDepth 20000 in
theorem eX12_number_99 (d : Nat) (st : Nat → Nat → Int32) (x1 x2 x3 : Int32) : m_ev none d 233 99 [some (.ref 85), some (.int x1), some (.int x2), some (.int x3)] [.ref 85] (SH, st) = m_ev none d 233 100 [some (.ref 85), some (.int x1), some (.int x2), some (.int x3)] [.int 0, .ref 85] (SH, st) := m_ev_K _ _ _ _ _ _ _
set_option maxRecDepth 20000 in
theorem eX12_number_100 (d : Nat) (st : Nat → Nat → Int32) (x1 x2 x3 t0 : Int32) : m_ev none d 233 100 [some (.ref 85), some (.int x1), some (.int x2), some (.int x3)] [.int t0, .ref 85] (SH, st) = m_bd (m_evc d 231 [.ref 85, .int t0] (SH, st)) fun w h => m_ev none d 233 103 [some (.ref 85), some (.int x1), some (.int x2), some (.int x3)] (w.toList ++ []) h := m_ev_K _ _ _ _ _ _ _
set_option maxRecDepth 20000 in
theorem eX12_number_103 (d : Nat) (st : Nat → Nat → Int32) (x1 x2 x3 : Int32) : m_ev none d 233 103 [some (.ref 85), some (.int x1), some (.int x2), some (.int x3)] [] (SH, st) = some (none, (SH, st)) := m_ev_K _ _ _ _ _ _ _
set_option maxRecDepth 20000 in
theorem eX12_kindHere_0 (d : Nat) (st : Nat → Nat → Int32) : m_ev none d 234 0 [some (.ref 85), none, none] [] (SH, st) = m_bd (m_evc d 232 [.ref 85] (SH, st)) fun w h => m_ev none d 234 4 [some (.ref 85), none, none] (w.toList ++ []) h := m_ev_K _ _ _ _ _ _ _
set_option maxRecDepth 20000 in
theorem eX12_kindHere_4 (d : Nat) (st : Nat → Nat → Int32) (t0 : Int64) : m_ev none d 234 4 [some (.ref 85), none, none] [.long t0] (SH, st) = if (lg_cmp t0 792022234158) = 0 then (m_ev none d 234 78 [some (.ref 85), some (.long t0), none] [.int 0] (SH, st)) else (m_ev none d 234 17 [some (.ref 85), some (.long t0), none] [] (SH, st)) := m_ev_K _ _ _ _ _ _ _
set_option maxRecDepth 20000 in
theorem eX12_kindHere_17 (d : Nat) (st : Nat → Nat → Int32) (x1 : Int64) : m_ev none d 234 17 [some (.ref 85), some (.long x1), none] [] (SH, st) = if (lg_cmp x1 17171758) = 0 then (m_ev none d 234 78 [some (.ref 85), some (.long x1), none] [.int 1] (SH, st)) else (m_ev none d 234 29 [some (.ref 85), some (.long x1), none] [] (SH, st)) := m_ev_K _ _ _ _ _ _ _
set_option maxRecDepth 20000 in
theorem eX12_kindHere_29 (d : Nat) (st : Nat → Nat → Int32) (x1 : Int64) : m_ev none d 234 29 [some (.ref 85), some (.long x1), none] [] (SH, st) = if (lg_cmp x1 17383076) = 0 then (m_ev none d 234 78 [some (.ref 85), some (.long x1), none] [.int 2] (SH, st)) else (m_ev none d 234 41 [some (.ref 85), some (.long x1), none] [] (SH, st)) := m_ev_K _ _ _ _ _ _ _
set_option maxRecDepth 20000 in
theorem eX12_kindHere_41 (d : Nat) (st : Nat → Nat → Int32) (x1 : Int64) : m_ev none d 234 41 [some (.ref 85), some (.long x1), none] [] (SH, st) = if (lg_cmp x1 4806091) = 0 then (m_ev none d 234 78 [some (.ref 85), some (.long x1), none] [.int 3] (SH, st)) else (m_ev none d 234 53 [some (.ref 85), some (.long x1), none] [] (SH, st)) := m_ev_K _ _ _ _ _ _ _
set_option maxRecDepth 20000 in
theorem eX12_kindHere_53 (d : Nat) (st : Nat → Nat → Int32) (x1 : Int64) : m_ev none d 234 53 [some (.ref 85), some (.long x1), none] [] (SH, st) = if (lg_cmp x1 441913522) = 0 then (m_ev none d 234 78 [some (.ref 85), some (.long x1), none] [.int 4] (SH, st)) else (m_ev none d 234 65 [some (.ref 85), some (.long x1), none] [] (SH, st)) := m_ev_K _ _ _ _ _ _ _
set_option maxRecDepth 20000 in
theorem eX12_kindHere_65 (d : Nat) (st : Nat → Nat → Int32) (x1 : Int64) : m_ev none d 234 65 [some (.ref 85), some (.long x1), none] [] (SH, st) = if (lg_cmp x1 20809171122) = 0 then (m_ev none d 234 78 [some (.ref 85), some (.long x1), none] [.int 5] (SH, st)) else (m_ev none d 234 77 [some (.ref 85), some (.long x1), none] [] (SH, st)) := m_ev_K _ _ _ _ _ _ _
set_option maxRecDepth 20000 in
theorem eX12_kindHere_77 (d : Nat) (st : Nat → Nat → Int32) (x1 : Int64) : m_ev none d 234 77 [some (.ref 85), some (.long x1), none] [] (SH, st) = m_ev none d 234 78 [some (.ref 85), some (.long x1), none] [.int (-1)] (SH, st) := m_ev_K _ _ _ _ _ _ _
set_option maxRecDepth 20000 in
theorem eX12_kindHere_78 (d : Nat) (st : Nat → Nat → Int32) (t0 : Int32) (x1 : Int64) : m_ev none d 234 78 [some (.ref 85), some (.long x1), none] [.int t0] (SH, st) = some (some (.int t0), (SH, st)) := m_ev_K _ _ _ _ _ _ _
set_option maxRecDepth 20000 in
theorem eX12_factHere_0 (d : Nat) (st : Nat → Nat → Int32) : m_ev none d 235 0 [some (.ref 85), none, none] [] (SH, st) = m_bd (m_evc d 232 [.ref 85] (SH, st)) fun w h => m_ev none d 235 4 [some (.ref 85), none, none] (w.toList ++ []) h := m_ev_K _ _ _ _ _ _ _
set_option maxRecDepth 20000 in
theorem eX12_factHere_4 (d : Nat) (st : Nat → Nat → Int32) (t0 : Int64) : m_ev none d 235 4 [some (.ref 85), none, none] [.long t0] (SH, st) = if (lg_cmp t0 4153) = 0 then (m_ev none d 235 83 [some (.ref 85), some (.long t0), none] [.int (-1)] (SH, st)) else (m_ev none d 235 17 [some (.ref 85), some (.long t0), none] [] (SH, st)) := m_ev_K _ _ _ _ _ _ _
set_option maxRecDepth 20000 in
theorem eX12_factHere_17 (d : Nat) (st : Nat → Nat → Int32) (x1 : Int64) : m_ev none d 235 17 [some (.ref 85), some (.long x1), none] [] (SH, st) = if (lg_cmp x1 763332) = 0 then (m_ev none d 235 83 [some (.ref 85), some (.long x1), none] [.int (-2)] (SH, st)) else (m_ev none d 235 30 [some (.ref 85), some (.long x1), none] [] (SH, st)) := m_ev_K _ _ _ _ _ _ _
set_option maxRecDepth 20000 in
theorem eX12_factHere_30 (d : Nat) (st : Nat → Nat → Int32) (x1 : Int64) : m_ev none d 235 30 [some (.ref 85), some (.long x1), none] [] (SH, st) = if (lg_cmp x1 1156) = 0 then (m_ev none d 235 83 [some (.ref 85), some (.long x1), none] [.int (-3)] (SH, st)) else (m_ev none d 235 43 [some (.ref 85), some (.long x1), none] [] (SH, st)) := m_ev_K _ _ _ _ _ _ _
set_option maxRecDepth 20000 in
theorem eX12_factHere_43 (d : Nat) (st : Nat → Nat → Int32) (x1 : Int64) : m_ev none d 235 43 [some (.ref 85), some (.long x1), none] [] (SH, st) = if (lg_cmp x1 4370489) = 0 then (m_ev none d 235 83 [some (.ref 85), some (.long x1), none] [.int (-4)] (SH, st)) else (m_ev none d 235 56 [some (.ref 85), some (.long x1), none] [] (SH, st)) := m_ev_K _ _ _ _ _ _ _
set_option maxRecDepth 20000 in
theorem eX12_factHere_56 (d : Nat) (st : Nat → Nat → Int32) (x1 : Int64) : m_ev none d 235 56 [some (.ref 85), some (.long x1), none] [] (SH, st) = if (lg_cmp x1 13938867) = 0 then (m_ev none d 235 83 [some (.ref 85), some (.long x1), none] [.int (-5)] (SH, st)) else (m_ev none d 235 69 [some (.ref 85), some (.long x1), none] [] (SH, st)) := m_ev_K _ _ _ _ _ _ _
set_option maxRecDepth 20000 in
theorem eX12_factHere_69 (d : Nat) (st : Nat → Nat → Int32) (x1 : Int64) : m_ev none d 235 69 [some (.ref 85), some (.long x1), none] [] (SH, st) = if (lg_cmp x1 492210354) = 0 then (m_ev none d 235 83 [some (.ref 85), some (.long x1), none] [.int (-6)] (SH, st)) else (m_ev none d 235 82 [some (.ref 85), some (.long x1), none] [] (SH, st)) := m_ev_K _ _ _ _ _ _ _
set_option maxRecDepth 20000 in
theorem eX12_factHere_82 (d : Nat) (st : Nat → Nat → Int32) (x1 : Int64) : m_ev none d 235 82 [some (.ref 85), some (.long x1), none] [] (SH, st) = m_ev none d 235 83 [some (.ref 85), some (.long x1), none] [.int 0] (SH, st) := m_ev_K _ _ _ _ _ _ _
set_option maxRecDepth 20000 in
theorem eX12_factHere_83 (d : Nat) (st : Nat → Nat → Int32) (t0 : Int32) (x1 : Int64) : m_ev none d 235 83 [some (.ref 85), some (.long x1), none] [.int t0] (SH, st) = some (some (.int t0), (SH, st)) := m_ev_K _ _ _ _ _ _ _
set_option maxRecDepth 20000 in
theorem eX12_writes_0 (d : Nat) (st : Nat → Nat → Int32) (x1 : Int32) : m_ev none d 236 0 [some (.ref 85), some (.int x1)] [] (SH, st) = if (st 85 23) = 0 then (m_ob (m_ix (110 + (st 85 22)) 310) fun q1 => m_ev none d 236 30 [some (.ref 85), some (.int x1)] [] (SH, (m_up (m_up st 86 q1 x1) 85 22 ((st 85 22) + 1)))) else (m_ev none d 236 30 [some (.ref 85), some (.int x1)] [] (SH, st)) := m_ev_K _ _ _ _ _ _ _
set_option maxRecDepth 20000 in
theorem eX12_writes_30 (d : Nat) (st : Nat → Nat → Int32) (x1 : Int32) : m_ev none d 236 30 [some (.ref 85), some (.int x1)] [] (SH, st) = some (none, (SH, st)) := m_ev_K _ _ _ _ _ _ _
set_option maxRecDepth 20000 in
theorem eX12_valueHere_0 (d : Nat) (st : Nat → Nat → Int32) : m_ev none d 237 0 [some (.ref 85), none] [] (SH, st) = m_bd (m_evc d 235 [.ref 85] (SH, st)) fun w h => m_ev none d 237 4 [some (.ref 85), none] (w.toList ++ []) h := m_ev_K _ _ _ _ _ _ _
set_option maxRecDepth 20000 in
theorem eX12_valueHere_4 (d : Nat) (st : Nat → Nat → Int32) (t0 : Int32) : m_ev none d 237 4 [some (.ref 85), none] [.int t0] (SH, st) = if t0 < 0 then (m_bd (m_evc d 231 [.ref 85, .int 1] (SH, st)) fun w h => m_ev none d 237 14 [some (.ref 85), some (.int t0)] (w.toList ++ []) h) else (m_ev none d 237 22 [some (.ref 85), some (.int t0)] [] (SH, st)) := m_ev_K _ _ _ _ _ _ _
set_option maxRecDepth 20000 in
theorem eX12_valueHere_14 (d : Nat) (st : Nat → Nat → Int32) (x1 : Int32) : m_ev none d 237 14 [some (.ref 85), some (.int x1)] [] (SH, st) = m_bd (m_evc d 236 [.ref 85, .int x1] (SH, st)) fun w h => m_ev none d 237 19 [some (.ref 85), some (.int x1)] (w.toList ++ []) h := m_ev_K _ _ _ _ _ _ _
set_option maxRecDepth 20000 in
theorem eX12_valueHere_19 (d : Nat) (st : Nat → Nat → Int32) (x1 : Int32) : m_ev none d 237 19 [some (.ref 85), some (.int x1)] [] (SH, st) = m_ev none d 237 44 [some (.ref 85), some (.int x1)] [] (SH, st) := m_ev_K _ _ _ _ _ _ _
set_option maxRecDepth 20000 in
theorem eX12_valueHere_22 (d : Nat) (st : Nat → Nat → Int32) (x1 : Int32) : m_ev none d 237 22 [some (.ref 85), some (.int x1)] [] (SH, st) = if (st 85 23) = 0 then (m_bd (m_evc d 233 [.ref 85, .int 9999] (SH, st)) fun w h => m_ev none d 237 36 [some (.ref 85), some (.int x1)] (w.toList ++ []) h) else (m_ev none d 237 44 [some (.ref 85), some (.int x1)] [] (SH, st)) := m_ev_K _ _ _ _ _ _ _
set_option maxRecDepth 20000 in
theorem eX12_valueHere_36 (d : Nat) (st : Nat → Nat → Int32) (x1 : Int32) : m_ev none d 237 36 [some (.ref 85), some (.int x1)] [] (SH, st) = m_bd (m_evc d 236 [.ref 85, .int (st 85 20)] (SH, st)) fun w h => m_ev none d 237 44 [some (.ref 85), some (.int x1)] (w.toList ++ []) h := m_ev_K _ _ _ _ _ _ _
set_option maxRecDepth 20000 in
theorem eX12_valueHere_44 (d : Nat) (st : Nat → Nat → Int32) (x1 : Int32) : m_ev none d 237 44 [some (.ref 85), some (.int x1)] [] (SH, st) = some (none, (SH, st)) := m_ev_K _ _ _ _ _ _ _
set_option maxRecDepth 20000 in
theorem eX12_comparison_0 (d : Nat) (st : Nat → Nat → Int32) : m_ev none d 238 0 [some (.ref 85), none] [] (SH, st) = m_bd (m_evc d 237 [.ref 85] (SH, st)) fun w h => m_ev none d 238 4 [some (.ref 85), none] (w.toList ++ []) h := m_ev_K _ _ _ _ _ _ _
set_option maxRecDepth 20000 in
theorem eX12_comparison_4 (d : Nat) (st : Nat → Nat → Int32) : m_ev none d 238 4 [some (.ref 85), none] [] (SH, st) = if (st 85 23) = 0 then (m_ev none d 238 15 [some (.ref 85), none] [] (SH, st)) else (m_ev none d 238 23 [some (.ref 85), none] [.int (-1)] (SH, st)) := m_ev_K _ _ _ _ _ _ _
set_option maxRecDepth 20000 in
theorem eX12_comparison_15 (d : Nat) (st : Nat → Nat → Int32) : m_ev none d 238 15 [some (.ref 85), none] [] (SH, st) = m_bd (m_evc d 227 [.ref 85, .int (st 85 18)] (SH, st)) fun w h => m_ev none d 238 23 [some (.ref 85), none] (w.toList ++ []) h := m_ev_K _ _ _ _ _ _ _
set_option maxRecDepth 20000 in
theorem eX12_comparison_23 (d : Nat) (st : Nat → Nat → Int32) (t0 : Int32) : m_ev none d 238 23 [some (.ref 85), none] [.int t0] (SH, st) = if t0 = 60 then (m_ev none d 238 43 [some (.ref 85), some (.int t0)] [.ref 85] (SH, st)) else (if t0 = 61 then (m_ev none d 238 43 [some (.ref 85), some (.int t0)] [.ref 85] (SH, st)) else (if t0 = 62 then (m_ev none d 238 43 [some (.ref 85), some (.int t0)] [.ref 85] (SH, st)) else (m_ev none d 238 47 [some (.ref 85), some (.int t0)] [.ref 85] (SH, st)))) := m_ev_K _ _ _ _ _ _ _
set_option maxRecDepth 20000 in
theorem eX12_comparison_43 (d : Nat) (st : Nat → Nat → Int32) (x1 : Int32) : m_ev none d 238 43 [some (.ref 85), some (.int x1)] [.ref 85] (SH, st) = m_ev none d 238 48 [some (.ref 85), some (.int x1)] [.int 1, .ref 85] (SH, st) := m_ev_K _ _ _ _ _ _ _
set_option maxRecDepth 20000 in
theorem eX12_comparison_47 (d : Nat) (st : Nat → Nat → Int32) (x1 : Int32) : m_ev none d 238 47 [some (.ref 85), some (.int x1)] [.ref 85] (SH, st) = m_ev none d 238 48 [some (.ref 85), some (.int x1)] [.int 0, .ref 85] (SH, st) := m_ev_K _ _ _ _ _ _ _
set_option maxRecDepth 20000 in
theorem eX12_comparison_48 (d : Nat) (st : Nat → Nat → Int32) (x1 t0 : Int32) : m_ev none d 238 48 [some (.ref 85), some (.int x1)] [.int t0, .ref 85] (SH, st) = m_bd (m_evc d 231 [.ref 85, .int t0] (SH, st)) fun w h => m_ev none d 238 51 [some (.ref 85), some (.int x1)] (w.toList ++ []) h := m_ev_K _ _ _ _ _ _ _
set_option maxRecDepth 20000 in
theorem eX12_comparison_51 (d : Nat) (st : Nat → Nat → Int32) (x1 : Int32) : m_ev none d 238 51 [some (.ref 85), some (.int x1)] [] (SH, st) = m_bd (m_evc d 237 [.ref 85] (SH, st)) fun w h => m_ev none d 238 55 [some (.ref 85), some (.int x1)] (w.toList ++ []) h := m_ev_K _ _ _ _ _ _ _
set_option maxRecDepth 20000 in
theorem eX12_comparison_55 (d : Nat) (st : Nat → Nat → Int32) (x1 : Int32) : m_ev none d 238 55 [some (.ref 85), some (.int x1)] [] (SH, st) = if x1 = 60 then (m_ev none d 238 80 [some (.ref 85), some (.int x1)] [.int (-11), .ref 85] (SH, st)) else (m_ev none d 238 67 [some (.ref 85), some (.int x1)] [.ref 85] (SH, st)) := m_ev_K _ _ _ _ _ _ _
set_option maxRecDepth 20000 in
theorem eX12_comparison_67 (d : Nat) (st : Nat → Nat → Int32) (x1 : Int32) : m_ev none d 238 67 [some (.ref 85), some (.int x1)] [.ref 85] (SH, st) = if x1 = 61 then (m_ev none d 238 80 [some (.ref 85), some (.int x1)] [.int (-12), .ref 85] (SH, st)) else (m_ev none d 238 78 [some (.ref 85), some (.int x1)] [.ref 85] (SH, st)) := m_ev_K _ _ _ _ _ _ _
set_option maxRecDepth 20000 in
theorem eX12_comparison_78 (d : Nat) (st : Nat → Nat → Int32) (x1 : Int32) : m_ev none d 238 78 [some (.ref 85), some (.int x1)] [.ref 85] (SH, st) = m_ev none d 238 80 [some (.ref 85), some (.int x1)] [.int (-13), .ref 85] (SH, st) := m_ev_K _ _ _ _ _ _ _
set_option maxRecDepth 20000 in
theorem eX12_comparison_80 (d : Nat) (st : Nat → Nat → Int32) (x1 t0 : Int32) : m_ev none d 238 80 [some (.ref 85), some (.int x1)] [.int t0, .ref 85] (SH, st) = m_bd (m_evc d 236 [.ref 85, .int t0] (SH, st)) fun w h => m_ev none d 238 83 [some (.ref 85), some (.int x1)] (w.toList ++ []) h := m_ev_K _ _ _ _ _ _ _
set_option maxRecDepth 20000 in
theorem eX12_comparison_83 (d : Nat) (st : Nat → Nat → Int32) (x1 : Int32) : m_ev none d 238 83 [some (.ref 85), some (.int x1)] [] (SH, st) = some (none, (SH, st)) := m_ev_K _ _ _ _ _ _ _
set_option maxRecDepth 20000 in
theorem eX12_one_0 (d : Nat) (st : Nat → Nat → Int32) : m_ev none d 239 0 [some (.ref 85), none] [] (SH, st) = m_ev none d 239 2 [some (.ref 85), some (.int 0)] [] (SH, st) := m_ev_K _ _ _ _ _ _ _
set_option maxRecDepth 20000 in
theorem eX12_one_2 (d : Nat) (st : Nat → Nat → Int32) (x1 : Int32) : m_ev none d 239 2 [some (.ref 85), some (.int x1)] [] (SH, st) = m_bd (m_evc d 232 [.ref 85] (SH, st)) fun w h => m_ev none d 239 6 [some (.ref 85), some (.int x1)] (w.toList ++ []) h := m_ev_K _ _ _ _ _ _ _
set_option maxRecDepth 20000 in
theorem eX12_one_6 (d : Nat) (st : Nat → Nat → Int32) (x1 : Int32) (t0 : Int64) : m_ev none d 239 6 [some (.ref 85), some (.int x1)] [.long t0] (SH, st) = if (lg_cmp t0 14836) = 0 then (if x1 = 0 then (m_ev none d 239 22 [some (.ref 85), some (.int x1)] [.int 1] (SH, st)) else (m_ev none d 239 21 [some (.ref 85), some (.int x1)] [] (SH, st))) else (m_ev none d 239 31 [some (.ref 85), some (.int x1)] [] (SH, st)) := m_ev_K _ _ _ _ _ _ _
set_option maxRecDepth 20000 in
theorem eX12_one_21 (d : Nat) (st : Nat → Nat → Int32) (x1 : Int32) : m_ev none d 239 21 [some (.ref 85), some (.int x1)] [] (SH, st) = m_ev none d 239 22 [some (.ref 85), some (.int x1)] [.int 0] (SH, st) := m_ev_K _ _ _ _ _ _ _
set_option maxRecDepth 20000 in
theorem eX12_one_22 (d : Nat) (st : Nat → Nat → Int32) (x1 t0 : Int32) : m_ev none d 239 22 [some (.ref 85), some (.int x1)] [.int t0] (SH, st) = m_bd (m_evc d 231 [.ref 85, .int 1] (SH, st)) fun w h => m_ev none d 239 28 [some (.ref 85), some (.int t0)] (w.toList ++ []) h := m_ev_K _ _ _ _ _ _ _
set_option maxRecDepth 20000 in
theorem eX12_one_28 (d : Nat) (st : Nat → Nat → Int32) (x1 : Int32) : m_ev none d 239 28 [some (.ref 85), some (.int x1)] [] (SH, st) = m_ev none d 239 2 [some (.ref 85), some (.int x1)] [] (SH, st) := m_ev_K _ _ _ _ _ _ _
set_option maxRecDepth 20000 in
theorem eX12_one_31 (d : Nat) (st : Nat → Nat → Int32) (x1 : Int32) : m_ev none d 239 31 [some (.ref 85), some (.int x1)] [] (SH, st) = if (st 85 23) = 0 then (m_bd (m_evc d 227 [.ref 85, .int (st 85 18)] (SH, st)) fun w h => m_ev none d 239 46 [some (.ref 85), some (.int x1)] (w.toList ++ []) h) else (m_ev none d 239 124 [some (.ref 85), some (.int x1)] [] (SH, st)) := m_ev_K _ _ _ _ _ _ _
set_option maxRecDepth 20000 in
theorem eX12_one_46 (d : Nat) (st : Nat → Nat → Int32) (x1 t0 : Int32) : m_ev none d 239 46 [some (.ref 85), some (.int x1)] [.int t0] (SH, st) = if t0 = 40 then (if (st 85 21) < 3 then (m_ev none d 239 65 [some (.ref 85), some (.int x1)] [.int 1, .ref 85] (SH, st)) else (m_ev none d 239 64 [some (.ref 85), some (.int x1)] [.ref 85] (SH, st))) else (m_ev none d 239 124 [some (.ref 85), some (.int x1)] [] (SH, st)) := m_ev_K _ _ _ _ _ _ _
set_option maxRecDepth 20000 in
theorem eX12_one_64 (d : Nat) (st : Nat → Nat → Int32) (x1 : Int32) : m_ev none d 239 64 [some (.ref 85), some (.int x1)] [.ref 85] (SH, st) = m_ev none d 239 65 [some (.ref 85), some (.int x1)] [.int 0, .ref 85] (SH, st) := m_ev_K _ _ _ _ _ _ _
set_option maxRecDepth 20000 in
theorem eX12_one_65 (d : Nat) (st : Nat → Nat → Int32) (x1 t0 : Int32) : m_ev none d 239 65 [some (.ref 85), some (.int x1)] [.int t0, .ref 85] (SH, st) = m_bd (m_evc d 231 [.ref 85, .int t0] (SH, st)) fun w h => m_ev none d 239 68 [some (.ref 85), some (.int x1)] (w.toList ++ []) h := m_ev_K _ _ _ _ _ _ _
set_option maxRecDepth 20000 in
theorem eX12_one_68 (d : Nat) (st : Nat → Nat → Int32) (x1 : Int32) : m_ev none d 239 68 [some (.ref 85), some (.int x1)] [] (SH, st) = m_bd (m_evc d 241 [.ref 85] (SH, (m_up st 85 21 ((st 85 21) + 1)))) fun w h => m_ev none d 239 82 [some (.ref 85), some (.int x1)] (w.toList ++ []) h := m_ev_K _ _ _ _ _ _ _
set_option maxRecDepth 20000 in
theorem eX12_one_82 (d : Nat) (st : Nat → Nat → Int32) (x1 : Int32) : m_ev none d 239 82 [some (.ref 85), some (.int x1)] [] (SH, st) = if (st 85 23) = 0 then (m_bd (m_evc d 227 [.ref 85, .int (st 85 18)] (SH, (m_up st 85 21 ((st 85 21) - 1)))) fun w h => m_ev none d 239 108 [some (.ref 85), some (.int x1)] (w.toList ++ [.ref 85]) h) else (m_ev none d 239 117 [some (.ref 85), some (.int x1)] [.ref 85] (SH, (m_up st 85 21 ((st 85 21) - 1)))) := m_ev_K _ _ _ _ _ _ _
set_option maxRecDepth 20000 in
theorem eX12_one_108 (d : Nat) (st : Nat → Nat → Int32) (x1 t0 : Int32) : m_ev none d 239 108 [some (.ref 85), some (.int x1)] [.int t0, .ref 85] (SH, st) = if t0 = 41 then (m_ev none d 239 118 [some (.ref 85), some (.int x1)] [.int 1, .ref 85] (SH, st)) else (m_ev none d 239 117 [some (.ref 85), some (.int x1)] [.ref 85] (SH, st)) := m_ev_K _ _ _ _ _ _ _
set_option maxRecDepth 20000 in
theorem eX12_one_117 (d : Nat) (st : Nat → Nat → Int32) (x1 : Int32) : m_ev none d 239 117 [some (.ref 85), some (.int x1)] [.ref 85] (SH, st) = m_ev none d 239 118 [some (.ref 85), some (.int x1)] [.int 0, .ref 85] (SH, st) := m_ev_K _ _ _ _ _ _ _
set_option maxRecDepth 20000 in
theorem eX12_one_118 (d : Nat) (st : Nat → Nat → Int32) (x1 t0 : Int32) : m_ev none d 239 118 [some (.ref 85), some (.int x1)] [.int t0, .ref 85] (SH, st) = m_bd (m_evc d 231 [.ref 85, .int t0] (SH, st)) fun w h => m_ev none d 239 121 [some (.ref 85), some (.int x1)] (w.toList ++ []) h := m_ev_K _ _ _ _ _ _ _
set_option maxRecDepth 20000 in
theorem eX12_one_121 (d : Nat) (st : Nat → Nat → Int32) (x1 : Int32) : m_ev none d 239 121 [some (.ref 85), some (.int x1)] [] (SH, st) = m_ev none d 239 128 [some (.ref 85), some (.int x1)] [] (SH, st) := m_ev_K _ _ _ _ _ _ _
set_option maxRecDepth 20000 in
theorem eX12_one_124 (d : Nat) (st : Nat → Nat → Int32) (x1 : Int32) : m_ev none d 239 124 [some (.ref 85), some (.int x1)] [] (SH, st) = m_bd (m_evc d 238 [.ref 85] (SH, st)) fun w h => m_ev none d 239 128 [some (.ref 85), some (.int x1)] (w.toList ++ []) h := m_ev_K _ _ _ _ _ _ _
set_option maxRecDepth 20000 in
theorem eX12_one_128 (d : Nat) (st : Nat → Nat → Int32) (x1 : Int32) : m_ev none d 239 128 [some (.ref 85), some (.int x1)] [] (SH, st) = if x1 = 0 then (m_ev none d 239 138 [some (.ref 85), some (.int x1)] [] (SH, st)) else (m_bd (m_evc d 236 [.ref 85, .int (-20)] (SH, st)) fun w h => m_ev none d 239 138 [some (.ref 85), some (.int x1)] (w.toList ++ []) h) := m_ev_K _ _ _ _ _ _ _
set_option maxRecDepth 20000 in
theorem eX12_one_138 (d : Nat) (st : Nat → Nat → Int32) (x1 : Int32) : m_ev none d 239 138 [some (.ref 85), some (.int x1)] [] (SH, st) = some (none, (SH, st)) := m_ev_K _ _ _ _ _ _ _
set_option maxRecDepth 20000 in
theorem eX12_all_0 (d : Nat) (st : Nat → Nat → Int32) : m_ev none d 240 0 [some (.ref 85)] [] (SH, st) = m_bd (m_evc d 239 [.ref 85] (SH, st)) fun w h => m_ev none d 240 4 [some (.ref 85)] (w.toList ++ []) h := m_ev_K _ _ _ _ _ _ _
set_option maxRecDepth 20000 in
theorem eX12_all_4 (d : Nat) (st : Nat → Nat → Int32) : m_ev none d 240 4 [some (.ref 85)] [] (SH, st) = m_bd (m_evc d 232 [.ref 85] (SH, st)) fun w h => m_ev none d 240 8 [some (.ref 85)] (w.toList ++ []) h := m_ev_K _ _ _ _ _ _ _
set_option maxRecDepth 20000 in
theorem eX12_all_8 (d : Nat) (st : Nat → Nat → Int32) (t0 : Int64) : m_ev none d 240 8 [some (.ref 85)] [.long t0] (SH, st) = if (lg_cmp t0 1476) = 0 then (m_bd (m_evc d 231 [.ref 85, .int 1] (SH, st)) fun w h => m_ev none d 240 20 [some (.ref 85)] (w.toList ++ []) h) else (m_ev none d 240 33 [some (.ref 85)] [] (SH, st)) := m_ev_K _ _ _ _ _ _ _
set_option maxRecDepth 20000 in
theorem eX12_all_20 (d : Nat) (st : Nat → Nat → Int32) : m_ev none d 240 20 [some (.ref 85)] [] (SH, st) = m_bd (m_evc d 239 [.ref 85] (SH, st)) fun w h => m_ev none d 240 24 [some (.ref 85)] (w.toList ++ []) h := m_ev_K _ _ _ _ _ _ _
set_option maxRecDepth 20000 in
theorem eX12_all_24 (d : Nat) (st : Nat → Nat → Int32) : m_ev none d 240 24 [some (.ref 85)] [] (SH, st) = m_bd (m_evc d 236 [.ref 85, .int (-21)] (SH, st)) fun w h => m_ev none d 240 30 [some (.ref 85)] (w.toList ++ []) h := m_ev_K _ _ _ _ _ _ _
set_option maxRecDepth 20000 in
theorem eX12_all_30 (d : Nat) (st : Nat → Nat → Int32) : m_ev none d 240 30 [some (.ref 85)] [] (SH, st) = m_ev none d 240 4 [some (.ref 85)] [] (SH, st) := m_ev_K _ _ _ _ _ _ _
set_option maxRecDepth 20000 in
theorem eX12_all_33 (d : Nat) (st : Nat → Nat → Int32) : m_ev none d 240 33 [some (.ref 85)] [] (SH, st) = some (none, (SH, st)) := m_ev_K _ _ _ _ _ _ _
set_option maxRecDepth 20000 in
theorem eX12_condition_0 (d : Nat) (st : Nat → Nat → Int32) : m_ev none d 241 0 [some (.ref 85)] [] (SH, st) = if (st 85 23) = 0 then (m_ev none d 241 8 [some (.ref 85)] [] (SH, st)) else (some (none, (SH, st))) := m_ev_K _ _ _ _ _ _ _
set_option maxRecDepth 20000 in
theorem eX12_condition_8 (d : Nat) (st : Nat → Nat → Int32) : m_ev none d 241 8 [some (.ref 85)] [] (SH, st) = m_bd (m_evc d 240 [.ref 85] (SH, st)) fun w h => m_ev none d 241 12 [some (.ref 85)] (w.toList ++ []) h := m_ev_K _ _ _ _ _ _ _
set_option maxRecDepth 20000 in
theorem eX12_condition_12 (d : Nat) (st : Nat → Nat → Int32) : m_ev none d 241 12 [some (.ref 85)] [] (SH, st) = m_bd (m_evc d 232 [.ref 85] (SH, st)) fun w h => m_ev none d 241 16 [some (.ref 85)] (w.toList ++ []) h := m_ev_K _ _ _ _ _ _ _
set_option maxRecDepth 20000 in
theorem eX12_condition_16 (d : Nat) (st : Nat → Nat → Int32) (t0 : Int64) : m_ev none d 241 16 [some (.ref 85)] [.long t0] (SH, st) = if (lg_cmp t0 498) = 0 then (m_bd (m_evc d 231 [.ref 85, .int 1] (SH, st)) fun w h => m_ev none d 241 28 [some (.ref 85)] (w.toList ++ []) h) else (m_ev none d 241 41 [some (.ref 85)] [] (SH, st)) := m_ev_K _ _ _ _ _ _ _
set_option maxRecDepth 20000 in
theorem eX12_condition_28 (d : Nat) (st : Nat → Nat → Int32) : m_ev none d 241 28 [some (.ref 85)] [] (SH, st) = m_bd (m_evc d 240 [.ref 85] (SH, st)) fun w h => m_ev none d 241 32 [some (.ref 85)] (w.toList ++ []) h := m_ev_K _ _ _ _ _ _ _
set_option maxRecDepth 20000 in
theorem eX12_condition_32 (d : Nat) (st : Nat → Nat → Int32) : m_ev none d 241 32 [some (.ref 85)] [] (SH, st) = m_bd (m_evc d 236 [.ref 85, .int (-22)] (SH, st)) fun w h => m_ev none d 241 38 [some (.ref 85)] (w.toList ++ []) h := m_ev_K _ _ _ _ _ _ _
set_option maxRecDepth 20000 in
theorem eX12_condition_38 (d : Nat) (st : Nat → Nat → Int32) : m_ev none d 241 38 [some (.ref 85)] [] (SH, st) = m_ev none d 241 12 [some (.ref 85)] [] (SH, st) := m_ev_K _ _ _ _ _ _ _
set_option maxRecDepth 20000 in
theorem eX12_condition_41 (d : Nat) (st : Nat → Nat → Int32) : m_ev none d 241 41 [some (.ref 85)] [] (SH, st) = some (none, (SH, st)) := m_ev_K _ _ _ _ _ _ _
set_option maxRecDepth 20000 in
theorem eX12_rule_0 (d : Nat) (st : Nat → Nat → Int32) : m_ev none d 242 0 [some (.ref 85), none, none, none, none, none, none] [] (SH, st) = m_bd (m_evc d 234 [.ref 85] (SH, st)) fun w h => m_ev none d 242 4 [some (.ref 85), none, none, none, none, none, none] (w.toList ++ []) h := m_ev_K _ _ _ _ _ _ _
set_option maxRecDepth 20000 in
theorem eX12_rule_4 (d : Nat) (st : Nat → Nat → Int32) (t0 : Int32) : m_ev none d 242 4 [some (.ref 85), none, none, none, none, none, none] [.int t0] (SH, st) = if t0 < 0 then (m_ev none d 242 25 [some (.ref 85), some (.int t0), none, none, none, none, none] [.ref 85] (SH, st)) else (if (st 86 4) < 8 then (m_ev none d 242 26 [some (.ref 85), some (.int t0), none, none, none, none, none] [.int 1, .ref 85] (SH, st)) else (m_ev none d 242 25 [some (.ref 85), some (.int t0), none, none, none, none, none] [.ref 85] (SH, st))) := m_ev_K _ _ _ _ _ _ _
set_option maxRecDepth 20000 in
theorem eX12_rule_25 (d : Nat) (st : Nat → Nat → Int32) (x1 : Int32) : m_ev none d 242 25 [some (.ref 85), some (.int x1), none, none, none, none, none] [.ref 85] (SH, st) = m_ev none d 242 26 [some (.ref 85), some (.int x1), none, none, none, none, none] [.int 0, .ref 85] (SH, st) := m_ev_K _ _ _ _ _ _ _
set_option maxRecDepth 20000 in
theorem eX12_rule_26 (d : Nat) (st : Nat → Nat → Int32) (x1 t0 : Int32) : m_ev none d 242 26 [some (.ref 85), some (.int x1), none, none, none, none, none] [.int t0, .ref 85] (SH, st) = m_bd (m_evc d 231 [.ref 85, .int t0] (SH, st)) fun w h => m_ev none d 242 29 [some (.ref 85), some (.int x1), none, none, none, none, none] (w.toList ++ []) h := m_ev_K _ _ _ _ _ _ _
set_option maxRecDepth 20000 in
theorem eX12_rule_29 (d : Nat) (st : Nat → Nat → Int32) (x1 : Int32) : m_ev none d 242 29 [some (.ref 85), some (.int x1), none, none, none, none, none] [] (SH, st) = m_bd (m_evc d 232 [.ref 85] (SH, st)) fun w h => m_ev none d 242 33 [some (.ref 85), some (.int x1), none, none, none, none, none] (w.toList ++ []) h := m_ev_K _ _ _ _ _ _ _
set_option maxRecDepth 20000 in
theorem eX12_rule_33 (d : Nat) (st : Nat → Nat → Int32) (x1 : Int32) (t0 : Int64) : m_ev none d 242 33 [some (.ref 85), some (.int x1), none, none, none, none, none] [.long t0] (SH, st) = if (lg_cmp t0 294) = 0 then (m_bd (m_evc d 231 [.ref 85, .int 1] (SH, st)) fun w h => m_ev none d 242 45 [some (.ref 85), some (.int x1), none, none, none, none, none] (w.toList ++ []) h) else (m_ev none d 242 49 [some (.ref 85), some (.int x1), none, none, none, none, none] [] (SH, st)) := m_ev_K _ _ _ _ _ _ _
set_option maxRecDepth 20000 in
theorem eX12_rule_45 (d : Nat) (st : Nat → Nat → Int32) (x1 : Int32) : m_ev none d 242 45 [some (.ref 85), some (.int x1), none, none, none, none, none] [] (SH, st) = m_bd (m_evc d 241 [.ref 85] (SH, st)) fun w h => m_ev none d 242 49 [some (.ref 85), some (.int x1), none, none, none, none, none] (w.toList ++ []) h := m_ev_K _ _ _ _ _ _ _
set_option maxRecDepth 20000 in
theorem eX12_rule_49 (d : Nat) (st : Nat → Nat → Int32) (x1 : Int32) : m_ev none d 242 49 [some (.ref 85), some (.int x1), none, none, none, none, none] [] (SH, st) = m_bd (m_evc d 232 [.ref 85] (SH, st)) fun w h => m_ev none d 242 53 [some (.ref 85), some (.int x1), none, none, none, none, none] (w.toList ++ []) h := m_ev_K _ _ _ _ _ _ _
set_option maxRecDepth 20000 in
theorem eX12_rule_53 (d : Nat) (st : Nat → Nat → Int32) (x1 : Int32) (t0 : Int64) : m_ev none d 242 53 [some (.ref 85), some (.int x1), none, none, none, none, none] [.long t0] (SH, st) = if (lg_cmp t0 1156) = 0 then (m_ev none d 242 103 [some (.ref 85), some (.int x1), some (.long t0), none, none, none, none] [.int 0] (SH, st)) else (m_ev none d 242 66 [some (.ref 85), some (.int x1), some (.long t0), none, none, none, none] [] (SH, st)) := m_ev_K _ _ _ _ _ _ _
set_option maxRecDepth 20000 in
theorem eX12_rule_66 (d : Nat) (st : Nat → Nat → Int32) (x1 : Int32) (x2 : Int64) : m_ev none d 242 66 [some (.ref 85), some (.int x1), some (.long x2), none, none, none, none] [] (SH, st) = if (lg_cmp x2 441925) = 0 then (m_ev none d 242 103 [some (.ref 85), some (.int x1), some (.long x2), none, none, none, none] [.int 1] (SH, st)) else (m_ev none d 242 78 [some (.ref 85), some (.int x1), some (.long x2), none, none, none, none] [] (SH, st)) := m_ev_K _ _ _ _ _ _ _
set_option maxRecDepth 20000 in
theorem eX12_rule_78 (d : Nat) (st : Nat → Nat → Int32) (x1 : Int32) (x2 : Int64) : m_ev none d 242 78 [some (.ref 85), some (.int x1), some (.long x2), none, none, none, none] [] (SH, st) = if (lg_cmp x2 435589) = 0 then (m_ev none d 242 103 [some (.ref 85), some (.int x1), some (.long x2), none, none, none, none] [.int 2] (SH, st)) else (m_ev none d 242 90 [some (.ref 85), some (.int x1), some (.long x2), none, none, none, none] [] (SH, st)) := m_ev_K _ _ _ _ _ _ _
set_option maxRecDepth 20000 in
theorem eX12_rule_90 (d : Nat) (st : Nat → Nat → Int32) (x1 : Int32) (x2 : Int64) : m_ev none d 242 90 [some (.ref 85), some (.int x1), some (.long x2), none, none, none, none] [] (SH, st) = if (lg_cmp x2 647370196) = 0 then (m_ev none d 242 103 [some (.ref 85), some (.int x1), some (.long x2), none, none, none, none] [.int 3] (SH, st)) else (m_ev none d 242 102 [some (.ref 85), some (.int x1), some (.long x2), none, none, none, none] [] (SH, st)) := m_ev_K _ _ _ _ _ _ _
set_option maxRecDepth 20000 in
theorem eX12_rule_102 (d : Nat) (st : Nat → Nat → Int32) (x1 : Int32) (x2 : Int64) : m_ev none d 242 102 [some (.ref 85), some (.int x1), some (.long x2), none, none, none, none] [] (SH, st) = m_ev none d 242 103 [some (.ref 85), some (.int x1), some (.long x2), none, none, none, none] [.int (-1)] (SH, st) := m_ev_K _ _ _ _ _ _ _
set_option maxRecDepth 20000 in
theorem eX12_rule_103 (d : Nat) (st : Nat → Nat → Int32) (x1 t0 : Int32) (x2 : Int64) : m_ev none d 242 103 [some (.ref 85), some (.int x1), some (.long x2), none, none, none, none] [.int t0] (SH, st) = if t0 < 0 then (m_ev none d 242 115 [some (.ref 85), some (.int x1), some (.long x2), none, some (.int t0), none, none] [.ref 85] (SH, st)) else (m_ev none d 242 116 [some (.ref 85), some (.int x1), some (.long x2), none, some (.int t0), none, none] [.int 1, .ref 85] (SH, st)) := m_ev_K _ _ _ _ _ _ _
set_option maxRecDepth 20000 in
theorem eX12_rule_115 (d : Nat) (st : Nat → Nat → Int32) (x1 x4 : Int32) (x2 : Int64) : m_ev none d 242 115 [some (.ref 85), some (.int x1), some (.long x2), none, some (.int x4), none, none] [.ref 85] (SH, st) = m_ev none d 242 116 [some (.ref 85), some (.int x1), some (.long x2), none, some (.int x4), none, none] [.int 0, .ref 85] (SH, st) := m_ev_K _ _ _ _ _ _ _
set_option maxRecDepth 20000 in
theorem eX12_rule_116 (d : Nat) (st : Nat → Nat → Int32) (x1 x4 t0 : Int32) (x2 : Int64) : m_ev none d 242 116 [some (.ref 85), some (.int x1), some (.long x2), none, some (.int x4), none, none] [.int t0, .ref 85] (SH, st) = m_bd (m_evc d 231 [.ref 85, .int t0] (SH, st)) fun w h => m_ev none d 242 119 [some (.ref 85), some (.int x1), some (.long x2), none, some (.int x4), none, none] (w.toList ++ []) h := m_ev_K _ _ _ _ _ _ _
set_option maxRecDepth 20000 in
theorem eX12_rule_119 (d : Nat) (st : Nat → Nat → Int32) (x1 x4 : Int32) (x2 : Int64) : m_ev none d 242 119 [some (.ref 85), some (.int x1), some (.long x2), none, some (.int x4), none, none] [] (SH, st) = if x4 < 0 then (m_ev none d 242 159 [some (.ref 85), some (.int x1), some (.long x2), none, some (.int x4), none, none] [] (SH, (m_up st 85 20 0))) else (if x4 = 3 then (m_ev none d 242 159 [some (.ref 85), some (.int x1), some (.long x2), none, some (.int x4), none, none] [] (SH, (m_up st 85 20 0))) else (if (st 85 23) = 0 then (if x4 = 2 then (m_ev none d 242 156 [some (.ref 85), some (.int x1), some (.long x2), none, some (.int x4), none, none] [.int 9, .ref 85] (SH, (m_up st 85 20 0))) else (m_ev none d 242 154 [some (.ref 85), some (.int x1), some (.long x2), none, some (.int x4), none, none] [.ref 85] (SH, (m_up st 85 20 0)))) else (m_ev none d 242 159 [some (.ref 85), some (.int x1), some (.long x2), none, some (.int x4), none, none] [] (SH, (m_up st 85 20 0))))) := m_ev_K _ _ _ _ _ _ _
set_option maxRecDepth 20000 in
theorem eX12_rule_154 (d : Nat) (st : Nat → Nat → Int32) (x1 x4 : Int32) (x2 : Int64) : m_ev none d 242 154 [some (.ref 85), some (.int x1), some (.long x2), none, some (.int x4), none, none] [.ref 85] (SH, st) = m_ev none d 242 156 [some (.ref 85), some (.int x1), some (.long x2), none, some (.int x4), none, none] [.int 99, .ref 85] (SH, st) := m_ev_K _ _ _ _ _ _ _
set_option maxRecDepth 20000 in
theorem eX12_rule_156 (d : Nat) (st : Nat → Nat → Int32) (x1 x4 t0 : Int32) (x2 : Int64) : m_ev none d 242 156 [some (.ref 85), some (.int x1), some (.long x2), none, some (.int x4), none, none] [.int t0, .ref 85] (SH, st) = m_bd (m_evc d 233 [.ref 85, .int t0] (SH, st)) fun w h => m_ev none d 242 159 [some (.ref 85), some (.int x1), some (.long x2), none, some (.int x4), none, none] (w.toList ++ []) h := m_ev_K _ _ _ _ _ _ _
set_option maxRecDepth 20000 in
theorem eX12_rule_159 (d : Nat) (st : Nat → Nat → Int32) (x1 x4 : Int32) (x2 : Int64) : m_ev none d 242 159 [some (.ref 85), some (.int x1), some (.long x2), none, some (.int x4), none, none] [] (SH, st) = if (st 85 23) = 0 then (m_bd (m_evc d 227 [.ref 85, .int (st 85 18)] (SH, st)) fun w h => m_ev none d 242 181 [some (.ref 85), some (.int x1), some (.long x2), none, some (.int x4), some (.int (st 85 20)), none] (w.toList ++ [.ref 85]) h) else (m_ev none d 242 190 [some (.ref 85), some (.int x1), some (.long x2), none, some (.int x4), some (.int (st 85 20)), none] [.ref 85] (SH, st)) := m_ev_K _ _ _ _ _ _ _
set_option maxRecDepth 20000 in
theorem eX12_rule_181 (d : Nat) (st : Nat → Nat → Int32) (x1 x4 x5 t0 : Int32) (x2 : Int64) : m_ev none d 242 181 [some (.ref 85), some (.int x1), some (.long x2), none, some (.int x4), some (.int x5), none] [.int t0, .ref 85] (SH, st) = if t0 = 59 then (m_ev none d 242 191 [some (.ref 85), some (.int x1), some (.long x2), none, some (.int x4), some (.int x5), none] [.int 1, .ref 85] (SH, st)) else (m_ev none d 242 190 [some (.ref 85), some (.int x1), some (.long x2), none, some (.int x4), some (.int x5), none] [.ref 85] (SH, st)) := m_ev_K _ _ _ _ _ _ _
set_option maxRecDepth 20000 in
theorem eX12_rule_190 (d : Nat) (st : Nat → Nat → Int32) (x1 x4 x5 : Int32) (x2 : Int64) : m_ev none d 242 190 [some (.ref 85), some (.int x1), some (.long x2), none, some (.int x4), some (.int x5), none] [.ref 85] (SH, st) = m_ev none d 242 191 [some (.ref 85), some (.int x1), some (.long x2), none, some (.int x4), some (.int x5), none] [.int 0, .ref 85] (SH, st) := m_ev_K _ _ _ _ _ _ _
set_option maxRecDepth 20000 in
theorem eX12_rule_191 (d : Nat) (st : Nat → Nat → Int32) (x1 x4 x5 t0 : Int32) (x2 : Int64) : m_ev none d 242 191 [some (.ref 85), some (.int x1), some (.long x2), none, some (.int x4), some (.int x5), none] [.int t0, .ref 85] (SH, st) = m_bd (m_evc d 231 [.ref 85, .int t0] (SH, st)) fun w h => m_ev none d 242 194 [some (.ref 85), some (.int x1), some (.long x2), none, some (.int x4), some (.int x5), none] (w.toList ++ []) h := m_ev_K _ _ _ _ _ _ _
set_option maxRecDepth 20000 in
theorem eX12_rule_194 (d : Nat) (st : Nat → Nat → Int32) (x1 x4 x5 : Int32) (x2 : Int64) : m_ev none d 242 194 [some (.ref 85), some (.int x1), some (.long x2), none, some (.int x4), some (.int x5), none] [] (SH, st) = if (st 85 23) = 0 then (m_ob (m_ix ((78 + (4 * (st 86 4))) + 0) 310) fun q1 => m_ob (m_ix ((78 + (4 * (st 86 4))) + 1) 310) fun q2 => m_ob (m_ix ((78 + (4 * (st 86 4))) + 2) 310) fun q3 => m_ob (m_ix ((78 + (4 * (st 86 4))) + 3) 310) fun q4 => m_ev none d 242 269 [some (.ref 85), some (.int x1), some (.long x2), none, some (.int x4), some (.int x5), some (.int (78 + (4 * (st 86 4))))] [] (SH, (m_up (m_up (m_up (m_up (m_up st 86 q1 x1) 86 q2 x4) 86 q3 x5) 86 q4 (st 85 22)) 86 4 (((m_up (m_up (m_up (m_up st 86 q1 x1) 86 q2 x4) 86 q3 x5) 86 q4 (st 85 22)) 86 4) + 1)))) else (m_ev none d 242 269 [some (.ref 85), some (.int x1), some (.long x2), none, some (.int x4), some (.int x5), none] [] (SH, st)) := m_ev_K _ _ _ _ _ _ _
set_option maxRecDepth 20000 in
theorem eX12_rule_269 (d : Nat) (st : Nat → Nat → Int32) (x1 x4 x5 : Int32) (x2 : Int64) (x6 : Option Value) : m_ev none d 242 269 [some (.ref 85), some (.int x1), some (.long x2), none, some (.int x4), some (.int x5), x6] [] (SH, st) = some (none, (SH, st)) := m_ev_K _ _ _ _ _ _ _
set_option maxRecDepth 20000 in
theorem eX12_rules_0 (d : Nat) (st : Nat → Nat → Int32) : m_ev none d 243 0 [some (.ref 85)] [] (SH, st) = m_bd (m_evc d 161 [.ref 85] (SH, st)) fun w h => m_ev none d 243 4 [some (.ref 85)] (w.toList ++ []) h := m_ev_K _ _ _ _ _ _ _
set_option maxRecDepth 20000 in
theorem eX12_rules_4 (d : Nat) (st : Nat → Nat → Int32) : m_ev none d 243 4 [some (.ref 85)] [] (SH, st) = m_bd (m_evc d 230 [.ref 85] (SH, (m_up (m_up (m_up (m_up (m_up st 86 4 0) 85 22 0) 85 21 0) 85 19 0) 85 23 0))) fun w h => m_ev none d 243 35 [some (.ref 85)] (w.toList ++ []) h := m_ev_K _ _ _ _ _ _ _
set_option maxRecDepth 20000 in
theorem eX12_rules_35 (d : Nat) (st : Nat → Nat → Int32) : m_ev none d 243 35 [some (.ref 85)] [] (SH, st) = if (st 85 23) = 0 then (if (st 85 18) < (st 85 17) then (m_bd (m_evc d 242 [.ref 85] (SH, st)) fun w h => m_ev none d 243 57 [some (.ref 85)] (w.toList ++ []) h) else (m_ev none d 243 60 [some (.ref 85)] [] (SH, st))) else (m_ev none d 243 60 [some (.ref 85)] [] (SH, st)) := m_ev_K _ _ _ _ _ _ _
set_option maxRecDepth 20000 in
theorem eX12_rules_57 (d : Nat) (st : Nat → Nat → Int32) : m_ev none d 243 57 [some (.ref 85)] [] (SH, st) = m_ev none d 243 35 [some (.ref 85)] [] (SH, st) := m_ev_K _ _ _ _ _ _ _
set_option maxRecDepth 20000 in
theorem eX12_rules_60 (d : Nat) (st : Nat → Nat → Int32) : m_ev none d 243 60 [some (.ref 85)] [] (SH, st) = if (st 85 23) = 0 then (m_ev none d 243 84 [some (.ref 85)] [] (SH, (m_up st 85 17 0))) else (m_bd (m_evc d 162 [.ref 85] (SH, (m_up st 85 17 0))) fun w h => m_ev none d 243 76 [some (.ref 85)] (w.toList ++ []) h) := m_ev_K _ _ _ _ _ _ _
set_option maxRecDepth 20000 in
theorem eX12_rules_76 (d : Nat) (st : Nat → Nat → Int32) : m_ev none d 243 76 [some (.ref 85)] [] (SH, st) = some (some (.int ((-100) - (st 85 18))), (SH, st)) := m_ev_K _ _ _ _ _ _ _
set_option maxRecDepth 20000 in
theorem eX12_rules_84 (d : Nat) (st : Nat → Nat → Int32) : m_ev none d 243 84 [some (.ref 85)] [] (SH, st) = some (some (.int (st 86 4)), (SH, st)) := m_ev_K _ _ _ _ _ _ _
set_option maxRecDepth 20000 in
theorem eX12_isOne_0 (d : Nat) (st : Nat → Nat → Int32) (x0 : Int32) : m_ev none d 244 0 [some (.int x0)] [] (SH, st) = m_bd (m_evc d 155 [.long ((x0 : Int32).toInt64), .long 0, .long 3] (SH, st)) fun w h => m_ev none d 244 9 [some (.int x0)] (w.toList ++ []) h := m_ev_K _ _ _ _ _ _ _
set_option maxRecDepth 20000 in
theorem eX12_isOne_9 (d : Nat) (st : Nat → Nat → Int32) (x0 t0 : Int32) : m_ev none d 244 9 [some (.int x0)] [.int t0] (SH, st) = if t0 = 0 ∨ t0 = 1 then some (some (.int t0), (SH, st)) else none := m_ev_K _ _ _ _ _ _ _
set_option maxRecDepth 20000 in
theorem eX12_sheet_0 (d : Nat) (st : Nat → Nat → Int32) (x1 x2 x3 : Int32) : m_ev none d 245 0 [some (.ref 85), some (.int x1), some (.int x2), some (.int x3), none] [] (SH, st) = m_bd (m_evc d 244 [.int x1] (SH, st)) fun w h => m_ev none d 245 4 [some (.ref 85), some (.int x1), some (.int x2), some (.int x3), none] (w.toList ++ []) h := m_ev_K _ _ _ _ _ _ _
set_option maxRecDepth 20000 in
theorem eX12_sheet_4 (d : Nat) (st : Nat → Nat → Int32) (x1 x2 x3 t0 : Int32) : m_ev none d 245 4 [some (.ref 85), some (.int x1), some (.int x2), some (.int x3), none] [.int t0] (SH, st) = if t0 = 0 then (m_ev none d 245 31 [some (.ref 85), some (.int x1), some (.int x2), some (.int x3), none] [] (SH, st)) else (m_bd (m_evc d 155 [.long ((x2 : Int32).toInt64), .long (-1), .long 4] (SH, st)) fun w h => m_ev none d 245 18 [some (.ref 85), some (.int x1), some (.int x2), some (.int x3), none] (w.toList ++ []) h) := m_ev_K _ _ _ _ _ _ _
set_option maxRecDepth 20000 in
theorem eX12_sheet_18 (d : Nat) (st : Nat → Nat → Int32) (x1 x2 x3 t0 : Int32) : m_ev none d 245 18 [some (.ref 85), some (.int x1), some (.int x2), some (.int x3), none] [.int t0] (SH, st) = if t0 = 0 then (m_ev none d 245 31 [some (.ref 85), some (.int x1), some (.int x2), some (.int x3), none] [] (SH, st)) else (if x2 < 0 then (m_ev none d 245 33 [some (.ref 85), some (.int x1), some (.int x2), some (.int x3), none] [] (SH, st)) else (if 40 < x3 then (m_ev none d 245 31 [some (.ref 85), some (.int x1), some (.int x2), some (.int x3), none] [] (SH, st)) else (m_ev none d 245 33 [some (.ref 85), some (.int x1), some (.int x2), some (.int x3), none] [] (SH, st)))) := m_ev_K _ _ _ _ _ _ _
set_option maxRecDepth 20000 in
theorem eX12_sheet_31 (d : Nat) (st : Nat → Nat → Int32) (x1 x2 x3 : Int32) : m_ev none d 245 31 [some (.ref 85), some (.int x1), some (.int x2), some (.int x3), none] [] (SH, st) = some (some (.int (-1)), (SH, st)) := m_ev_K _ _ _ _ _ _ _
set_option maxRecDepth 20000 in
theorem eX12_sheet_33 (d : Nat) (st : Nat → Nat → Int32) (x1 x2 x3 : Int32) : m_ev none d 245 33 [some (.ref 85), some (.int x1), some (.int x2), some (.int x3), none] [] (SH, st) = if x2 < 0 then (m_ev none d 245 44 [some (.ref 85), some (.int x1), some (.int x2), some (.int x3), none] [] (SH, st)) else (if x3 < 0 then (some (some (.int (-14)), (SH, st))) else (m_ev none d 245 44 [some (.ref 85), some (.int x1), some (.int x2), some (.int x3), none] [] (SH, st))) := m_ev_K _ _ _ _ _ _ _
set_option maxRecDepth 20000 in
theorem eX12_sheet_44 (d : Nat) (st : Nat → Nat → Int32) (x1 x2 x3 : Int32) : m_ev none d 245 44 [some (.ref 85), some (.int x1), some (.int x2), some (.int x3), none] [] (SH, st) = m_ob (m_ix x1 4) fun q1 => if x2 < 0 then (m_ev none d 245 65 [some (.ref 85), some (.int x1), some (.int x2), some (.int x3), none] [.int 0, .int x1, .ref 96] (SH, (m_up st 95 q1 x2))) else (m_ev none d 245 64 [some (.ref 85), some (.int x1), some (.int x2), some (.int x3), none] [.int x1, .ref 96] (SH, (m_up st 95 q1 x2))) := m_ev_K _ _ _ _ _ _ _
set_option maxRecDepth 20000 in
theorem eX12_sheet_64 (d : Nat) (st : Nat → Nat → Int32) (x1 x2 x3 t0 : Int32) : m_ev none d 245 64 [some (.ref 85), some (.int x1), some (.int x2), some (.int x3), none] [.int t0, .ref 96] (SH, st) = m_ev none d 245 65 [some (.ref 85), some (.int x1), some (.int x2), some (.int x3), none] [.int x3, .int t0, .ref 96] (SH, st) := m_ev_K _ _ _ _ _ _ _
set_option maxRecDepth 20000 in
theorem eX12_sheet_65 (d : Nat) (st : Nat → Nat → Int32) (x1 x2 x3 t0 t1 : Int32) : m_ev none d 245 65 [some (.ref 85), some (.int x1), some (.int x2), some (.int x3), none] [.int t0, .int t1, .ref 96] (SH, st) = m_ob (m_ix t1 4) fun q1 => m_ev none d 245 69 [some (.ref 85), some (.int x1), some (.int x2), some (.int x3), some (.int 0)] [] (SH, (m_up st 96 q1 t0)) := m_ev_K _ _ _ _ _ _ _
set_option maxRecDepth 20000 in
theorem eX12_sheet_69 (d : Nat) (st : Nat → Nat → Int32) (x1 x2 x3 x4 : Int32) : m_ev none d 245 69 [some (.ref 85), some (.int x1), some (.int x2), some (.int x3), some (.int x4)] [] (SH, st) = if x4 < 40 then (m_ob (m_ix ((40 * x1) + x4) 160) fun q1 => m_ev none d 245 69 [some (.ref 85), some (.int x1), some (.int x2), some (.int x3), some (.int (x4 + 1))] [] (SH, (m_up st 97 q1 0))) else (m_ev none d 245 95 [some (.ref 85), some (.int x1), some (.int x2), some (.int x3), some (.int x4)] [] (SH, st)) := m_ev_K _ _ _ _ _ _ _
set_option maxRecDepth 20000 in
theorem eX12_sheet_95 (d : Nat) (st : Nat → Nat → Int32) (x1 x2 x3 x4 : Int32) : m_ev none d 245 95 [some (.ref 85), some (.int x1), some (.int x2), some (.int x3), some (.int x4)] [] (SH, st) = some (some (.int 1), (SH, st)) := m_ev_K _ _ _ _ _ _ _
set_option maxRecDepth 20000 in
theorem eX12_narrowed_0 (d : Nat) (st : Nat → Nat → Int32) (x0 x1 : Int32) : m_ev none d 246 0 [some (.int x0), some (.int x1)] [] (SH, st) = if x0 = 0 then (m_ev none d 246 37 [some (.int x0), some (.int x1)] [.int ((x1 : Int32).toInt8.toInt32)] (SH, st)) else (m_ev none d 246 9 [some (.int x0), some (.int x1)] [] (SH, st)) := m_ev_K _ _ _ _ _ _ _
set_option maxRecDepth 20000 in
theorem eX12_narrowed_9 (d : Nat) (st : Nat → Nat → Int32) (x0 x1 : Int32) : m_ev none d 246 9 [some (.int x0), some (.int x1)] [] (SH, st) = if x0 = 1 then (m_ev none d 246 37 [some (.int x0), some (.int x1)] [.int ((x1 : Int32).toInt16.toInt32)] (SH, st)) else (m_ev none d 246 19 [some (.int x0), some (.int x1)] [] (SH, st)) := m_ev_K _ _ _ _ _ _ _
set_option maxRecDepth 20000 in
theorem eX12_narrowed_19 (d : Nat) (st : Nat → Nat → Int32) (x0 x1 : Int32) : m_ev none d 246 19 [some (.int x0), some (.int x1)] [] (SH, st) = if x0 = 4 then (if x1 = 0 then (m_ev none d 246 37 [some (.int x0), some (.int x1)] [.int 0] (SH, st)) else (m_ev none d 246 32 [some (.int x0), some (.int x1)] [] (SH, st))) else (m_ev none d 246 36 [some (.int x0), some (.int x1)] [] (SH, st)) := m_ev_K _ _ _ _ _ _ _
set_option maxRecDepth 20000 in
theorem eX12_narrowed_32 (d : Nat) (st : Nat → Nat → Int32) (x0 x1 : Int32) : m_ev none d 246 32 [some (.int x0), some (.int x1)] [] (SH, st) = m_ev none d 246 37 [some (.int x0), some (.int x1)] [.int 1] (SH, st) := m_ev_K _ _ _ _ _ _ _
set_option maxRecDepth 20000 in
theorem eX12_narrowed_36 (d : Nat) (st : Nat → Nat → Int32) (x0 x1 : Int32) : m_ev none d 246 36 [some (.int x0), some (.int x1)] [] (SH, st) = m_ev none d 246 37 [some (.int x0), some (.int x1)] [.int x1] (SH, st) := m_ev_K _ _ _ _ _ _ _
set_option maxRecDepth 20000 in
theorem eX12_narrowed_37 (d : Nat) (st : Nat → Nat → Int32) (x0 x1 t0 : Int32) : m_ev none d 246 37 [some (.int x0), some (.int x1)] [.int t0] (SH, st) = some (some (.int t0), (SH, st)) := m_ev_K _ _ _ _ _ _ _
set_option maxRecDepth 20000 in
theorem eX12_write_0 (d : Nat) (st : Nat → Nat → Int32) (x1 x2 x3 : Int32) : m_ev none d 247 0 [some (.ref 85), some (.int x1), some (.int x2), some (.int x3)] [] (SH, st) = m_bd (m_evc d 244 [.int x1] (SH, st)) fun w h => m_ev none d 247 4 [some (.ref 85), some (.int x1), some (.int x2), some (.int x3)] (w.toList ++ []) h := m_ev_K _ _ _ _ _ _ _
set_option maxRecDepth 20000 in
theorem eX12_write_4 (d : Nat) (st : Nat → Nat → Int32) (x1 x2 x3 t0 : Int32) : m_ev none d 247 4 [some (.ref 85), some (.int x1), some (.int x2), some (.int x3)] [.int t0] (SH, st) = if t0 = 0 then (some (some (.int (-1)), (SH, st))) else (m_ev none d 247 9 [some (.ref 85), some (.int x1), some (.int x2), some (.int x3)] [] (SH, st)) := m_ev_K _ _ _ _ _ _ _
set_option maxRecDepth 20000 in
theorem eX12_write_9 (d : Nat) (st : Nat → Nat → Int32) (x1 x2 x3 : Int32) : m_ev none d 247 9 [some (.ref 85), some (.int x1), some (.int x2), some (.int x3)] [] (SH, st) = m_ob (m_ix x1 4) fun q1 => if (st 95 q1) < 0 then (some (some (.int (-11)), (SH, st))) else (m_ev none d 247 21 [some (.ref 85), some (.int x1), some (.int x2), some (.int x3)] [] (SH, st)) := m_ev_K _ _ _ _ _ _ _
set_option maxRecDepth 20000 in
theorem eX12_write_21 (d : Nat) (st : Nat → Nat → Int32) (x1 x2 x3 : Int32) : m_ev none d 247 21 [some (.ref 85), some (.int x1), some (.int x2), some (.int x3)] [] (SH, st) = m_ob (m_ix x1 4) fun q1 => m_bd (m_evc d 155 [.long ((x2 : Int32).toInt64), .long 0, .long ((((st 96 q1) - 1) : Int32).toInt64)] (SH, st)) fun w h => m_ev none d 247 36 [some (.ref 85), some (.int x1), some (.int x2), some (.int x3)] (w.toList ++ []) h := m_ev_K _ _ _ _ _ _ _
set_option maxRecDepth 20000 in
theorem eX12_write_36 (d : Nat) (st : Nat → Nat → Int32) (x1 x2 x3 t0 : Int32) : m_ev none d 247 36 [some (.ref 85), some (.int x1), some (.int x2), some (.int x3)] [.int t0] (SH, st) = if t0 = 0 then (some (some (.int (-12)), (SH, st))) else (m_ev none d 247 42 [some (.ref 85), some (.int x1), some (.int x2), some (.int x3)] [] (SH, st)) := m_ev_K _ _ _ _ _ _ _
set_option maxRecDepth 20000 in
theorem eX12_write_42 (d : Nat) (st : Nat → Nat → Int32) (x1 x2 x3 : Int32) : m_ev none d 247 42 [some (.ref 85), some (.int x1), some (.int x2), some (.int x3)] [] (SH, st) = m_ob (m_ix x1 4) fun q1 => m_bd (m_evc d 246 [.int (st 95 q1), .int x3] (SH, st)) fun w h => m_ev none d 247 62 [some (.ref 85), some (.int x1), some (.int x2), some (.int x3)] (w.toList ++ [.int ((40 * x1) + x2), .ref 97]) h := m_ev_K _ _ _ _ _ _ _
set_option maxRecDepth 20000 in
theorem eX12_write_62 (d : Nat) (st : Nat → Nat → Int32) (x1 x2 x3 t0 t1 : Int32) : m_ev none d 247 62 [some (.ref 85), some (.int x1), some (.int x2), some (.int x3)] [.int t0, .int t1, .ref 97] (SH, st) = m_ob (m_ix t1 160) fun q1 => some (some (.int 1), (SH, (m_up st 97 q1 t0))) := m_ev_K _ _ _ _ _ _ _
set_option maxRecDepth 20000 in
theorem eX12_wrong_0 (d : Nat) (st : Nat → Nat → Int32) (x1 x2 : Int32) : m_ev none d 248 0 [some (.ref 85), some (.int x1), some (.int x2)] [] (SH, st) = m_ob (m_ix x1 4) fun q1 => if (st 95 q1) < 0 then (m_ev none d 248 30 [some (.ref 85), some (.int x1), some (.int x2)] [.int (-11)] (SH, st)) else (m_ev none d 248 14 [some (.ref 85), some (.int x1), some (.int x2)] [] (SH, st)) := m_ev_K _ _ _ _ _ _ _
set_option maxRecDepth 20000 in
theorem eX12_wrong_14 (d : Nat) (st : Nat → Nat → Int32) (x1 x2 : Int32) : m_ev none d 248 14 [some (.ref 85), some (.int x1), some (.int x2)] [] (SH, st) = m_ob (m_ix x1 4) fun q1 => if (st 95 q1) = x2 then (m_ev none d 248 29 [some (.ref 85), some (.int x1), some (.int x2)] [] (SH, st)) else (m_ev none d 248 30 [some (.ref 85), some (.int x1), some (.int x2)] [.int (-13)] (SH, st)) := m_ev_K _ _ _ _ _ _ _
set_option maxRecDepth 20000 in
theorem eX12_wrong_29 (d : Nat) (st : Nat → Nat → Int32) (x1 x2 : Int32) : m_ev none d 248 29 [some (.ref 85), some (.int x1), some (.int x2)] [] (SH, st) = m_ev none d 248 30 [some (.ref 85), some (.int x1), some (.int x2)] [.int 0] (SH, st) := m_ev_K _ _ _ _ _ _ _
set_option maxRecDepth 20000 in
theorem eX12_wrong_30 (d : Nat) (st : Nat → Nat → Int32) (x1 x2 t0 : Int32) : m_ev none d 248 30 [some (.ref 85), some (.int x1), some (.int x2)] [.int t0] (SH, st) = some (some (.int t0), (SH, st)) := m_ev_K _ _ _ _ _ _ _
set_option maxRecDepth 20000 in
theorem eX12_item_0 (d : Nat) (st : Nat → Nat → Int32) (x1 x2 x3 : Int32) : m_ev none d 249 0 [some (.ref 85), some (.int x1), some (.int x2), some (.int x3), none] [] (SH, st) = m_bd (m_evc d 244 [.int x1] (SH, st)) fun w h => m_ev none d 249 4 [some (.ref 85), some (.int x1), some (.int x2), some (.int x3), none] (w.toList ++ []) h := m_ev_K _ _ _ _ _ _ _
set_option maxRecDepth 20000 in
theorem eX12_item_4 (d : Nat) (st : Nat → Nat → Int32) (x1 x2 x3 t0 : Int32) : m_ev none d 249 4 [some (.ref 85), some (.int x1), some (.int x2), some (.int x3), none] [.int t0] (SH, st) = if t0 = 0 then (m_ev none d 249 19 [some (.ref 85), some (.int x1), some (.int x2), some (.int x3), none] [] (SH, st)) else (m_bd (m_evc d 155 [.long ((x2 : Int32).toInt64), .long 0, .long 4] (SH, st)) fun w h => m_ev none d 249 16 [some (.ref 85), some (.int x1), some (.int x2), some (.int x3), none] (w.toList ++ []) h) := m_ev_K _ _ _ _ _ _ _
set_option maxRecDepth 20000 in
theorem eX12_item_16 (d : Nat) (st : Nat → Nat → Int32) (x1 x2 x3 t0 : Int32) : m_ev none d 249 16 [some (.ref 85), some (.int x1), some (.int x2), some (.int x3), none] [.int t0] (SH, st) = if t0 = 0 then (m_ev none d 249 19 [some (.ref 85), some (.int x1), some (.int x2), some (.int x3), none] [] (SH, st)) else (m_ev none d 249 21 [some (.ref 85), some (.int x1), some (.int x2), some (.int x3), none] [] (SH, st)) := m_ev_K _ _ _ _ _ _ _
set_option maxRecDepth 20000 in
theorem eX12_item_19 (d : Nat) (st : Nat → Nat → Int32) (x1 x2 x3 : Int32) : m_ev none d 249 19 [some (.ref 85), some (.int x1), some (.int x2), some (.int x3), none] [] (SH, st) = some (some (.int (-1)), (SH, st)) := m_ev_K _ _ _ _ _ _ _
set_option maxRecDepth 20000 in
theorem eX12_item_21 (d : Nat) (st : Nat → Nat → Int32) (x1 x2 x3 : Int32) : m_ev none d 249 21 [some (.ref 85), some (.int x1), some (.int x2), some (.int x3), none] [] (SH, st) = m_bd (m_evc d 248 [.ref 85, .int x1, .int x2] (SH, st)) fun w h => m_ev none d 249 27 [some (.ref 85), some (.int x1), some (.int x2), some (.int x3), none] (w.toList ++ []) h := m_ev_K _ _ _ _ _ _ _
set_option maxRecDepth 20000 in
theorem eX12_item_27 (d : Nat) (st : Nat → Nat → Int32) (x1 x2 x3 t0 : Int32) : m_ev none d 249 27 [some (.ref 85), some (.int x1), some (.int x2), some (.int x3), none] [.int t0] (SH, st) = if t0 = 0 then (m_ev none d 249 39 [some (.ref 85), some (.int x1), some (.int x2), some (.int x3), some (.int t0)] [] (SH, st)) else (m_ev none d 249 73 [some (.ref 85), some (.int x1), some (.int x2), some (.int x3), some (.int t0)] [.int t0] (SH, st)) := m_ev_K _ _ _ _ _ _ _
set_option maxRecDepth 20000 in
theorem eX12_item_39 (d : Nat) (st : Nat → Nat → Int32) (x1 x2 x3 x4 : Int32) : m_ev none d 249 39 [some (.ref 85), some (.int x1), some (.int x2), some (.int x3), some (.int x4)] [] (SH, st) = m_ob (m_ix x1 4) fun q1 => m_bd (m_evc d 155 [.long ((x3 : Int32).toInt64), .long 0, .long ((((st 96 q1) - 1) : Int32).toInt64)] (SH, st)) fun w h => m_ev none d 249 54 [some (.ref 85), some (.int x1), some (.int x2), some (.int x3), some (.int x4)] (w.toList ++ []) h := m_ev_K _ _ _ _ _ _ _
set_option maxRecDepth 20000 in
theorem eX12_item_54 (d : Nat) (st : Nat → Nat → Int32) (x1 x2 x3 x4 t0 : Int32) : m_ev none d 249 54 [some (.ref 85), some (.int x1), some (.int x2), some (.int x3), some (.int x4)] [.int t0] (SH, st) = if t0 = 0 then (m_ev none d 249 71 [some (.ref 85), some (.int x1), some (.int x2), some (.int x3), some (.int x4)] [] (SH, st)) else (m_ob (m_ix ((40 * x1) + x3) 160) fun q1 => m_ev none d 249 73 [some (.ref 85), some (.int x1), some (.int x2), some (.int x3), some (.int x4)] [.int (st 97 q1)] (SH, st)) := m_ev_K _ _ _ _ _ _ _
set_option maxRecDepth 20000 in
theorem eX12_item_71 (d : Nat) (st : Nat → Nat → Int32) (x1 x2 x3 x4 : Int32) : m_ev none d 249 71 [some (.ref 85), some (.int x1), some (.int x2), some (.int x3), some (.int x4)] [] (SH, st) = m_ev none d 249 73 [some (.ref 85), some (.int x1), some (.int x2), some (.int x3), some (.int x4)] [.int (-12)] (SH, st) := m_ev_K _ _ _ _ _ _ _
set_option maxRecDepth 20000 in
theorem eX12_item_73 (d : Nat) (st : Nat → Nat → Int32) (x1 x2 x3 x4 t0 : Int32) : m_ev none d 249 73 [some (.ref 85), some (.int x1), some (.int x2), some (.int x3), some (.int x4)] [.int t0] (SH, st) = some (some (.int t0), (SH, st)) := m_ev_K _ _ _ _ _ _ _
set_option maxRecDepth 20000 in
theorem eX12_adds_0 (d : Nat) (st : Nat → Nat → Int32) (x1 x2 x3 : Int32) : m_ev none d 250 0 [some (.ref 85), some (.int x1), some (.int x2), some (.int x3), none, none, none] [] (SH, st) = m_bd (m_evc d 244 [.int x1] (SH, st)) fun w h => m_ev none d 250 4 [some (.ref 85), some (.int x1), some (.int x2), some (.int x3), none, none, none] (w.toList ++ []) h := m_ev_K _ _ _ _ _ _ _
set_option maxRecDepth 20000 in
theorem eX12_adds_4 (d : Nat) (st : Nat → Nat → Int32) (x1 x2 x3 t0 : Int32) : m_ev none d 250 4 [some (.ref 85), some (.int x1), some (.int x2), some (.int x3), none, none, none] [.int t0] (SH, st) = if t0 = 0 then (m_ev none d 250 19 [some (.ref 85), some (.int x1), some (.int x2), some (.int x3), none, none, none] [] (SH, st)) else (m_bd (m_evc d 155 [.long ((x3 : Int32).toInt64), .long 0, .long 9] (SH, st)) fun w h => m_ev none d 250 16 [some (.ref 85), some (.int x1), some (.int x2), some (.int x3), none, none, none] (w.toList ++ []) h) := m_ev_K _ _ _ _ _ _ _
set_option maxRecDepth 20000 in
theorem eX12_adds_16 (d : Nat) (st : Nat → Nat → Int32) (x1 x2 x3 t0 : Int32) : m_ev none d 250 16 [some (.ref 85), some (.int x1), some (.int x2), some (.int x3), none, none, none] [.int t0] (SH, st) = if t0 = 0 then (m_ev none d 250 19 [some (.ref 85), some (.int x1), some (.int x2), some (.int x3), none, none, none] [] (SH, st)) else (m_ev none d 250 21 [some (.ref 85), some (.int x1), some (.int x2), some (.int x3), none, none, none] [] (SH, st)) := m_ev_K _ _ _ _ _ _ _
set_option maxRecDepth 20000 in
theorem eX12_adds_19 (d : Nat) (st : Nat → Nat → Int32) (x1 x2 x3 : Int32) : m_ev none d 250 19 [some (.ref 85), some (.int x1), some (.int x2), some (.int x3), none, none, none] [] (SH, st) = some (some (.int (-1)), (SH, st)) := m_ev_K _ _ _ _ _ _ _
set_option maxRecDepth 20000 in
theorem eX12_adds_21 (d : Nat) (st : Nat → Nat → Int32) (x1 x2 x3 : Int32) : m_ev none d 250 21 [some (.ref 85), some (.int x1), some (.int x2), some (.int x3), none, none, none] [] (SH, st) = m_bd (m_evc d 248 [.ref 85, .int x1, .int 0] (SH, st)) fun w h => m_ev none d 250 27 [some (.ref 85), some (.int x1), some (.int x2), some (.int x3), none, none, none] (w.toList ++ []) h := m_ev_K _ _ _ _ _ _ _
set_option maxRecDepth 20000 in
theorem eX12_adds_27 (d : Nat) (st : Nat → Nat → Int32) (x1 x2 x3 t0 : Int32) : m_ev none d 250 27 [some (.ref 85), some (.int x1), some (.int x2), some (.int x3), none, none, none] [.int t0] (SH, st) = if t0 = 0 then (m_ev none d 250 37 [some (.ref 85), some (.int x1), some (.int x2), some (.int x3), some (.int t0), none, none] [] (SH, st)) else (some (some (.int t0), (SH, st))) := m_ev_K _ _ _ _ _ _ _
