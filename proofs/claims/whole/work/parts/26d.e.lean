set_option maxRecDepth 20000 in
theorem eX11_act_56_v0 (d : Nat) (st : Nat → Nat → Int32) (x1 x2 x3 x4 : Int32) : m_ev none d 143 56 [some (.ref 0), some (.int x1), some (.int x2), some (.int x3), some (.int x4), none, none] [.ref 79] (SH, st) = m_ob (m_ix x4 9) fun q1 => m_ev none d 143 (m_case x2 [[0, 108], [1, 119], [2, 130]] 141) [some (.ref 0), some (.int x1), some (.int x2), some (.int x3), some (.int x4), some (.ref 79), none] [] (SH, (m_up (m_up st 79 1 x4) 79 2 (st 4 q1))) := m_ev_K _ _ _ _ _ _ _
set_option maxRecDepth 20000 in
theorem eX11_act_56_v1 (d : Nat) (st : Nat → Nat → Int32) (x1 x2 x3 x4 : Int32) : m_ev none d 143 56 [some (.ref 0), some (.int x1), some (.int x2), some (.int x3), some (.int x4), none, none] [.ref 80] (SH, st) = m_ob (m_ix x4 9) fun q1 => m_ev none d 143 (m_case x2 [[0, 108], [1, 119], [2, 130]] 141) [some (.ref 0), some (.int x1), some (.int x2), some (.int x3), some (.int x4), some (.ref 80), none] [] (SH, (m_up (m_up st 80 1 x4) 80 2 (st 4 q1))) := m_ev_K _ _ _ _ _ _ _
set_option maxRecDepth 20000 in
theorem eX11_act_56_v2 (d : Nat) (st : Nat → Nat → Int32) (x1 x2 x3 x4 : Int32) : m_ev none d 143 56 [some (.ref 0), some (.int x1), some (.int x2), some (.int x3), some (.int x4), none, none] [.ref 81] (SH, st) = m_ob (m_ix x4 9) fun q1 => m_ev none d 143 (m_case x2 [[0, 108], [1, 119], [2, 130]] 141) [some (.ref 0), some (.int x1), some (.int x2), some (.int x3), some (.int x4), some (.ref 81), none] [] (SH, (m_up (m_up st 81 1 x4) 81 2 (st 4 q1))) := m_ev_K _ _ _ _ _ _ _
set_option maxRecDepth 20000 in
theorem eX11_act_56_v3 (d : Nat) (st : Nat → Nat → Int32) (x1 x2 x3 x4 : Int32) : m_ev none d 143 56 [some (.ref 0), some (.int x1), some (.int x2), some (.int x3), some (.int x4), none, none] [.ref 82] (SH, st) = m_ob (m_ix x4 9) fun q1 => m_ev none d 143 (m_case x2 [[0, 108], [1, 119], [2, 130]] 141) [some (.ref 0), some (.int x1), some (.int x2), some (.int x3), some (.int x4), some (.ref 82), none] [] (SH, (m_up (m_up st 82 1 x4) 82 2 (st 4 q1))) := m_ev_K _ _ _ _ _ _ _
set_option maxRecDepth 20000 in
theorem eX11_act_56_v4 (d : Nat) (st : Nat → Nat → Int32) (x1 x2 x3 x4 : Int32) : m_ev none d 143 56 [some (.ref 0), some (.int x1), some (.int x2), some (.int x3), some (.int x4), none, none] [.ref 83] (SH, st) = m_ob (m_ix x4 9) fun q1 => m_ev none d 143 (m_case x2 [[0, 108], [1, 119], [2, 130]] 141) [some (.ref 0), some (.int x1), some (.int x2), some (.int x3), some (.int x4), some (.ref 83), none] [] (SH, (m_up (m_up st 83 1 x4) 83 2 (st 4 q1))) := m_ev_K _ _ _ _ _ _ _
set_option maxRecDepth 20000 in
theorem eX11_act_56_v5 (d : Nat) (st : Nat → Nat → Int32) (x1 x2 x3 x4 : Int32) : m_ev none d 143 56 [some (.ref 0), some (.int x1), some (.int x2), some (.int x3), some (.int x4), none, none] [.ref 84] (SH, st) = m_ob (m_ix x4 9) fun q1 => m_ev none d 143 (m_case x2 [[0, 108], [1, 119], [2, 130]] 141) [some (.ref 0), some (.int x1), some (.int x2), some (.int x3), some (.int x4), some (.ref 84), none] [] (SH, (m_up (m_up st 84 1 x4) 84 2 (st 4 q1))) := m_ev_K _ _ _ _ _ _ _
set_option maxRecDepth 20000 in
theorem eX11_act_108_v0 (d : Nat) (st : Nat → Nat → Int32) (x1 x2 x3 x4 : Int32) : m_ev none d 143 108 [some (.ref 0), some (.int x1), some (.int x2), some (.int x3), some (.int x4), some (.ref 79), none] [] (SH, st) = m_bd (m_evc d 75 [.ref 79, .int x3] (SH, st)) fun w h => m_ev none d 143 114 [some (.ref 0), some (.int x1), some (.int x2), some (.int x3), some (.int x4), some (.ref 79), none] (w.toList ++ []) h := m_ev_K _ _ _ _ _ _ _
set_option maxRecDepth 20000 in
theorem eX11_act_108_v1 (d : Nat) (st : Nat → Nat → Int32) (x1 x2 x3 x4 : Int32) : m_ev none d 143 108 [some (.ref 0), some (.int x1), some (.int x2), some (.int x3), some (.int x4), some (.ref 80), none] [] (SH, st) = m_bd (m_evc d 22 [.ref 80, .int x3] (SH, st)) fun w h => m_ev none d 143 114 [some (.ref 0), some (.int x1), some (.int x2), some (.int x3), some (.int x4), some (.ref 80), none] (w.toList ++ []) h := m_ev_K _ _ _ _ _ _ _
set_option maxRecDepth 20000 in
theorem eX11_act_108_v2 (d : Nat) (st : Nat → Nat → Int32) (x1 x2 x3 x4 : Int32) : m_ev none d 143 108 [some (.ref 0), some (.int x1), some (.int x2), some (.int x3), some (.int x4), some (.ref 81), none] [] (SH, st) = m_bd (m_evc d 75 [.ref 81, .int x3] (SH, st)) fun w h => m_ev none d 143 114 [some (.ref 0), some (.int x1), some (.int x2), some (.int x3), some (.int x4), some (.ref 81), none] (w.toList ++ []) h := m_ev_K _ _ _ _ _ _ _
set_option maxRecDepth 20000 in
theorem eX11_act_108_v3 (d : Nat) (st : Nat → Nat → Int32) (x1 x2 x3 x4 : Int32) : m_ev none d 143 108 [some (.ref 0), some (.int x1), some (.int x2), some (.int x3), some (.int x4), some (.ref 82), none] [] (SH, st) = m_bd (m_evc d 17 [.ref 82, .int x3] (SH, st)) fun w h => m_ev none d 143 114 [some (.ref 0), some (.int x1), some (.int x2), some (.int x3), some (.int x4), some (.ref 82), none] (w.toList ++ []) h := m_ev_K _ _ _ _ _ _ _
set_option maxRecDepth 20000 in
theorem eX11_act_108_v4 (d : Nat) (st : Nat → Nat → Int32) (x1 x2 x3 x4 : Int32) : m_ev none d 143 108 [some (.ref 0), some (.int x1), some (.int x2), some (.int x3), some (.int x4), some (.ref 83), none] [] (SH, st) = m_bd (m_evc d 75 [.ref 83, .int x3] (SH, st)) fun w h => m_ev none d 143 114 [some (.ref 0), some (.int x1), some (.int x2), some (.int x3), some (.int x4), some (.ref 83), none] (w.toList ++ []) h := m_ev_K _ _ _ _ _ _ _
set_option maxRecDepth 20000 in
theorem eX11_act_108_v5 (d : Nat) (st : Nat → Nat → Int32) (x1 x2 x3 x4 : Int32) : m_ev none d 143 108 [some (.ref 0), some (.int x1), some (.int x2), some (.int x3), some (.int x4), some (.ref 84), none] [] (SH, st) = m_bd (m_evc d 75 [.ref 84, .int x3] (SH, st)) fun w h => m_ev none d 143 114 [some (.ref 0), some (.int x1), some (.int x2), some (.int x3), some (.int x4), some (.ref 84), none] (w.toList ++ []) h := m_ev_K _ _ _ _ _ _ _
set_option maxRecDepth 20000 in
theorem eX11_act_114_v0 (d : Nat) (st : Nat → Nat → Int32) (x1 x2 x3 x4 t0 : Int32) : m_ev none d 143 114 [some (.ref 0), some (.int x1), some (.int x2), some (.int x3), some (.int x4), some (.ref 79), none] [.int t0] (SH, st) = m_ev none d 143 149 [some (.ref 0), some (.int x1), some (.int x2), some (.int x3), some (.int x4), some (.ref 79), some (.int t0)] [] (SH, st) := m_ev_K _ _ _ _ _ _ _
set_option maxRecDepth 20000 in
theorem eX11_act_114_v1 (d : Nat) (st : Nat → Nat → Int32) (x1 x2 x3 x4 t0 : Int32) : m_ev none d 143 114 [some (.ref 0), some (.int x1), some (.int x2), some (.int x3), some (.int x4), some (.ref 80), none] [.int t0] (SH, st) = m_ev none d 143 149 [some (.ref 0), some (.int x1), some (.int x2), some (.int x3), some (.int x4), some (.ref 80), some (.int t0)] [] (SH, st) := m_ev_K _ _ _ _ _ _ _
set_option maxRecDepth 20000 in
theorem eX11_act_114_v2 (d : Nat) (st : Nat → Nat → Int32) (x1 x2 x3 x4 t0 : Int32) : m_ev none d 143 114 [some (.ref 0), some (.int x1), some (.int x2), some (.int x3), some (.int x4), some (.ref 81), none] [.int t0] (SH, st) = m_ev none d 143 149 [some (.ref 0), some (.int x1), some (.int x2), some (.int x3), some (.int x4), some (.ref 81), some (.int t0)] [] (SH, st) := m_ev_K _ _ _ _ _ _ _
set_option maxRecDepth 20000 in
theorem eX11_act_114_v3 (d : Nat) (st : Nat → Nat → Int32) (x1 x2 x3 x4 t0 : Int32) : m_ev none d 143 114 [some (.ref 0), some (.int x1), some (.int x2), some (.int x3), some (.int x4), some (.ref 82), none] [.int t0] (SH, st) = m_ev none d 143 149 [some (.ref 0), some (.int x1), some (.int x2), some (.int x3), some (.int x4), some (.ref 82), some (.int t0)] [] (SH, st) := m_ev_K _ _ _ _ _ _ _
set_option maxRecDepth 20000 in
theorem eX11_act_114_v4 (d : Nat) (st : Nat → Nat → Int32) (x1 x2 x3 x4 t0 : Int32) : m_ev none d 143 114 [some (.ref 0), some (.int x1), some (.int x2), some (.int x3), some (.int x4), some (.ref 83), none] [.int t0] (SH, st) = m_ev none d 143 149 [some (.ref 0), some (.int x1), some (.int x2), some (.int x3), some (.int x4), some (.ref 83), some (.int t0)] [] (SH, st) := m_ev_K _ _ _ _ _ _ _
set_option maxRecDepth 20000 in
theorem eX11_act_114_v5 (d : Nat) (st : Nat → Nat → Int32) (x1 x2 x3 x4 t0 : Int32) : m_ev none d 143 114 [some (.ref 0), some (.int x1), some (.int x2), some (.int x3), some (.int x4), some (.ref 84), none] [.int t0] (SH, st) = m_ev none d 143 149 [some (.ref 0), some (.int x1), some (.int x2), some (.int x3), some (.int x4), some (.ref 84), some (.int t0)] [] (SH, st) := m_ev_K _ _ _ _ _ _ _
set_option maxRecDepth 20000 in
theorem eX11_act_119_v0 (d : Nat) (st : Nat → Nat → Int32) (x1 x2 x3 x4 : Int32) : m_ev none d 143 119 [some (.ref 0), some (.int x1), some (.int x2), some (.int x3), some (.int x4), some (.ref 79), none] [] (SH, st) = m_bd (m_evc d 76 [.ref 79, .int x3] (SH, st)) fun w h => m_ev none d 143 125 [some (.ref 0), some (.int x1), some (.int x2), some (.int x3), some (.int x4), some (.ref 79), none] (w.toList ++ []) h := m_ev_K _ _ _ _ _ _ _
set_option maxRecDepth 20000 in
theorem eX11_act_119_v1 (d : Nat) (st : Nat → Nat → Int32) (x1 x2 x3 x4 : Int32) : m_ev none d 143 119 [some (.ref 0), some (.int x1), some (.int x2), some (.int x3), some (.int x4), some (.ref 80), none] [] (SH, st) = m_bd (m_evc d 76 [.ref 80, .int x3] (SH, st)) fun w h => m_ev none d 143 125 [some (.ref 0), some (.int x1), some (.int x2), some (.int x3), some (.int x4), some (.ref 80), none] (w.toList ++ []) h := m_ev_K _ _ _ _ _ _ _
set_option maxRecDepth 20000 in
theorem eX11_act_119_v2 (d : Nat) (st : Nat → Nat → Int32) (x1 x2 x3 x4 : Int32) : m_ev none d 143 119 [some (.ref 0), some (.int x1), some (.int x2), some (.int x3), some (.int x4), some (.ref 81), none] [] (SH, st) = m_bd (m_evc d 24 [.ref 81, .int x3] (SH, st)) fun w h => m_ev none d 143 125 [some (.ref 0), some (.int x1), some (.int x2), some (.int x3), some (.int x4), some (.ref 81), none] (w.toList ++ []) h := m_ev_K _ _ _ _ _ _ _
set_option maxRecDepth 20000 in
theorem eX11_act_119_v3 (d : Nat) (st : Nat → Nat → Int32) (x1 x2 x3 x4 : Int32) : m_ev none d 143 119 [some (.ref 0), some (.int x1), some (.int x2), some (.int x3), some (.int x4), some (.ref 82), none] [] (SH, st) = m_bd (m_evc d 24 [.ref 82, .int x3] (SH, st)) fun w h => m_ev none d 143 125 [some (.ref 0), some (.int x1), some (.int x2), some (.int x3), some (.int x4), some (.ref 82), none] (w.toList ++ []) h := m_ev_K _ _ _ _ _ _ _
set_option maxRecDepth 20000 in
theorem eX11_act_119_v4 (d : Nat) (st : Nat → Nat → Int32) (x1 x2 x3 x4 : Int32) : m_ev none d 143 119 [some (.ref 0), some (.int x1), some (.int x2), some (.int x3), some (.int x4), some (.ref 83), none] [] (SH, st) = m_bd (m_evc d 76 [.ref 83, .int x3] (SH, st)) fun w h => m_ev none d 143 125 [some (.ref 0), some (.int x1), some (.int x2), some (.int x3), some (.int x4), some (.ref 83), none] (w.toList ++ []) h := m_ev_K _ _ _ _ _ _ _
set_option maxRecDepth 20000 in
theorem eX11_act_119_v5 (d : Nat) (st : Nat → Nat → Int32) (x1 x2 x3 x4 : Int32) : m_ev none d 143 119 [some (.ref 0), some (.int x1), some (.int x2), some (.int x3), some (.int x4), some (.ref 84), none] [] (SH, st) = m_bd (m_evc d 62 [.ref 84, .int x3] (SH, st)) fun w h => m_ev none d 143 125 [some (.ref 0), some (.int x1), some (.int x2), some (.int x3), some (.int x4), some (.ref 84), none] (w.toList ++ []) h := m_ev_K _ _ _ _ _ _ _
set_option maxRecDepth 20000 in
theorem eX11_act_125_v0 (d : Nat) (st : Nat → Nat → Int32) (x1 x2 x3 x4 t0 : Int32) : m_ev none d 143 125 [some (.ref 0), some (.int x1), some (.int x2), some (.int x3), some (.int x4), some (.ref 79), none] [.int t0] (SH, st) = m_ev none d 143 149 [some (.ref 0), some (.int x1), some (.int x2), some (.int x3), some (.int x4), some (.ref 79), some (.int t0)] [] (SH, st) := m_ev_K _ _ _ _ _ _ _
set_option maxRecDepth 20000 in
theorem eX11_act_125_v1 (d : Nat) (st : Nat → Nat → Int32) (x1 x2 x3 x4 t0 : Int32) : m_ev none d 143 125 [some (.ref 0), some (.int x1), some (.int x2), some (.int x3), some (.int x4), some (.ref 80), none] [.int t0] (SH, st) = m_ev none d 143 149 [some (.ref 0), some (.int x1), some (.int x2), some (.int x3), some (.int x4), some (.ref 80), some (.int t0)] [] (SH, st) := m_ev_K _ _ _ _ _ _ _
set_option maxRecDepth 20000 in
theorem eX11_act_125_v2 (d : Nat) (st : Nat → Nat → Int32) (x1 x2 x3 x4 t0 : Int32) : m_ev none d 143 125 [some (.ref 0), some (.int x1), some (.int x2), some (.int x3), some (.int x4), some (.ref 81), none] [.int t0] (SH, st) = m_ev none d 143 149 [some (.ref 0), some (.int x1), some (.int x2), some (.int x3), some (.int x4), some (.ref 81), some (.int t0)] [] (SH, st) := m_ev_K _ _ _ _ _ _ _
set_option maxRecDepth 20000 in
theorem eX11_act_125_v3 (d : Nat) (st : Nat → Nat → Int32) (x1 x2 x3 x4 t0 : Int32) : m_ev none d 143 125 [some (.ref 0), some (.int x1), some (.int x2), some (.int x3), some (.int x4), some (.ref 82), none] [.int t0] (SH, st) = m_ev none d 143 149 [some (.ref 0), some (.int x1), some (.int x2), some (.int x3), some (.int x4), some (.ref 82), some (.int t0)] [] (SH, st) := m_ev_K _ _ _ _ _ _ _
set_option maxRecDepth 20000 in
theorem eX11_act_125_v4 (d : Nat) (st : Nat → Nat → Int32) (x1 x2 x3 x4 t0 : Int32) : m_ev none d 143 125 [some (.ref 0), some (.int x1), some (.int x2), some (.int x3), some (.int x4), some (.ref 83), none] [.int t0] (SH, st) = m_ev none d 143 149 [some (.ref 0), some (.int x1), some (.int x2), some (.int x3), some (.int x4), some (.ref 83), some (.int t0)] [] (SH, st) := m_ev_K _ _ _ _ _ _ _
set_option maxRecDepth 20000 in
theorem eX11_act_125_v5 (d : Nat) (st : Nat → Nat → Int32) (x1 x2 x3 x4 t0 : Int32) : m_ev none d 143 125 [some (.ref 0), some (.int x1), some (.int x2), some (.int x3), some (.int x4), some (.ref 84), none] [.int t0] (SH, st) = m_ev none d 143 149 [some (.ref 0), some (.int x1), some (.int x2), some (.int x3), some (.int x4), some (.ref 84), some (.int t0)] [] (SH, st) := m_ev_K _ _ _ _ _ _ _
set_option maxRecDepth 20000 in
theorem eX11_act_130_v0 (d : Nat) (st : Nat → Nat → Int32) (x1 x2 x3 x4 : Int32) : m_ev none d 143 130 [some (.ref 0), some (.int x1), some (.int x2), some (.int x3), some (.int x4), some (.ref 79), none] [] (SH, st) = m_bd (m_evc d 77 [.ref 79, .int x3] (SH, st)) fun w h => m_ev none d 143 136 [some (.ref 0), some (.int x1), some (.int x2), some (.int x3), some (.int x4), some (.ref 79), none] (w.toList ++ []) h := m_ev_K _ _ _ _ _ _ _
set_option maxRecDepth 20000 in
theorem eX11_act_130_v1 (d : Nat) (st : Nat → Nat → Int32) (x1 x2 x3 x4 : Int32) : m_ev none d 143 130 [some (.ref 0), some (.int x1), some (.int x2), some (.int x3), some (.int x4), some (.ref 80), none] [] (SH, st) = m_bd (m_evc d 77 [.ref 80, .int x3] (SH, st)) fun w h => m_ev none d 143 136 [some (.ref 0), some (.int x1), some (.int x2), some (.int x3), some (.int x4), some (.ref 80), none] (w.toList ++ []) h := m_ev_K _ _ _ _ _ _ _
set_option maxRecDepth 20000 in
theorem eX11_act_130_v2 (d : Nat) (st : Nat → Nat → Int32) (x1 x2 x3 x4 : Int32) : m_ev none d 143 130 [some (.ref 0), some (.int x1), some (.int x2), some (.int x3), some (.int x4), some (.ref 81), none] [] (SH, st) = m_bd (m_evc d 77 [.ref 81, .int x3] (SH, st)) fun w h => m_ev none d 143 136 [some (.ref 0), some (.int x1), some (.int x2), some (.int x3), some (.int x4), some (.ref 81), none] (w.toList ++ []) h := m_ev_K _ _ _ _ _ _ _
set_option maxRecDepth 20000 in
theorem eX11_act_130_v3 (d : Nat) (st : Nat → Nat → Int32) (x1 x2 x3 x4 : Int32) : m_ev none d 143 130 [some (.ref 0), some (.int x1), some (.int x2), some (.int x3), some (.int x4), some (.ref 82), none] [] (SH, st) = m_bd (m_evc d 77 [.ref 82, .int x3] (SH, st)) fun w h => m_ev none d 143 136 [some (.ref 0), some (.int x1), some (.int x2), some (.int x3), some (.int x4), some (.ref 82), none] (w.toList ++ []) h := m_ev_K _ _ _ _ _ _ _
set_option maxRecDepth 20000 in
theorem eX11_act_130_v4 (d : Nat) (st : Nat → Nat → Int32) (x1 x2 x3 x4 : Int32) : m_ev none d 143 130 [some (.ref 0), some (.int x1), some (.int x2), some (.int x3), some (.int x4), some (.ref 83), none] [] (SH, st) = m_bd (m_evc d 20 [.ref 83, .int x3] (SH, st)) fun w h => m_ev none d 143 136 [some (.ref 0), some (.int x1), some (.int x2), some (.int x3), some (.int x4), some (.ref 83), none] (w.toList ++ []) h := m_ev_K _ _ _ _ _ _ _
set_option maxRecDepth 20000 in
theorem eX11_act_130_v5 (d : Nat) (st : Nat → Nat → Int32) (x1 x2 x3 x4 : Int32) : m_ev none d 143 130 [some (.ref 0), some (.int x1), some (.int x2), some (.int x3), some (.int x4), some (.ref 84), none] [] (SH, st) = m_bd (m_evc d 63 [.ref 84, .int x3] (SH, st)) fun w h => m_ev none d 143 136 [some (.ref 0), some (.int x1), some (.int x2), some (.int x3), some (.int x4), some (.ref 84), none] (w.toList ++ []) h := m_ev_K _ _ _ _ _ _ _
set_option maxRecDepth 20000 in
theorem eX11_act_136_v0 (d : Nat) (st : Nat → Nat → Int32) (x1 x2 x3 x4 t0 : Int32) : m_ev none d 143 136 [some (.ref 0), some (.int x1), some (.int x2), some (.int x3), some (.int x4), some (.ref 79), none] [.int t0] (SH, st) = m_ev none d 143 149 [some (.ref 0), some (.int x1), some (.int x2), some (.int x3), some (.int x4), some (.ref 79), some (.int t0)] [] (SH, st) := m_ev_K _ _ _ _ _ _ _
set_option maxRecDepth 20000 in
theorem eX11_act_136_v1 (d : Nat) (st : Nat → Nat → Int32) (x1 x2 x3 x4 t0 : Int32) : m_ev none d 143 136 [some (.ref 0), some (.int x1), some (.int x2), some (.int x3), some (.int x4), some (.ref 80), none] [.int t0] (SH, st) = m_ev none d 143 149 [some (.ref 0), some (.int x1), some (.int x2), some (.int x3), some (.int x4), some (.ref 80), some (.int t0)] [] (SH, st) := m_ev_K _ _ _ _ _ _ _
set_option maxRecDepth 20000 in
theorem eX11_act_136_v2 (d : Nat) (st : Nat → Nat → Int32) (x1 x2 x3 x4 t0 : Int32) : m_ev none d 143 136 [some (.ref 0), some (.int x1), some (.int x2), some (.int x3), some (.int x4), some (.ref 81), none] [.int t0] (SH, st) = m_ev none d 143 149 [some (.ref 0), some (.int x1), some (.int x2), some (.int x3), some (.int x4), some (.ref 81), some (.int t0)] [] (SH, st) := m_ev_K _ _ _ _ _ _ _
set_option maxRecDepth 20000 in
theorem eX11_act_136_v3 (d : Nat) (st : Nat → Nat → Int32) (x1 x2 x3 x4 t0 : Int32) : m_ev none d 143 136 [some (.ref 0), some (.int x1), some (.int x2), some (.int x3), some (.int x4), some (.ref 82), none] [.int t0] (SH, st) = m_ev none d 143 149 [some (.ref 0), some (.int x1), some (.int x2), some (.int x3), some (.int x4), some (.ref 82), some (.int t0)] [] (SH, st) := m_ev_K _ _ _ _ _ _ _
set_option maxRecDepth 20000 in
theorem eX11_act_136_v4 (d : Nat) (st : Nat → Nat → Int32) (x1 x2 x3 x4 t0 : Int32) : m_ev none d 143 136 [some (.ref 0), some (.int x1), some (.int x2), some (.int x3), some (.int x4), some (.ref 83), none] [.int t0] (SH, st) = m_ev none d 143 149 [some (.ref 0), some (.int x1), some (.int x2), some (.int x3), some (.int x4), some (.ref 83), some (.int t0)] [] (SH, st) := m_ev_K _ _ _ _ _ _ _
set_option maxRecDepth 20000 in
theorem eX11_act_136_v5 (d : Nat) (st : Nat → Nat → Int32) (x1 x2 x3 x4 t0 : Int32) : m_ev none d 143 136 [some (.ref 0), some (.int x1), some (.int x2), some (.int x3), some (.int x4), some (.ref 84), none] [.int t0] (SH, st) = m_ev none d 143 149 [some (.ref 0), some (.int x1), some (.int x2), some (.int x3), some (.int x4), some (.ref 84), some (.int t0)] [] (SH, st) := m_ev_K _ _ _ _ _ _ _
set_option maxRecDepth 20000 in
theorem eX11_act_141_v0 (d : Nat) (st : Nat → Nat → Int32) (x1 x2 x3 x4 : Int32) : m_ev none d 143 141 [some (.ref 0), some (.int x1), some (.int x2), some (.int x3), some (.int x4), some (.ref 79), none] [] (SH, st) = m_bd (m_evc d 78 [.ref 79, .int x3] (SH, st)) fun w h => m_ev none d 143 147 [some (.ref 0), some (.int x1), some (.int x2), some (.int x3), some (.int x4), some (.ref 79), none] (w.toList ++ []) h := m_ev_K _ _ _ _ _ _ _
set_option maxRecDepth 20000 in
theorem eX11_act_141_v1 (d : Nat) (st : Nat → Nat → Int32) (x1 x2 x3 x4 : Int32) : m_ev none d 143 141 [some (.ref 0), some (.int x1), some (.int x2), some (.int x3), some (.int x4), some (.ref 80), none] [] (SH, st) = m_bd (m_evc d 78 [.ref 80, .int x3] (SH, st)) fun w h => m_ev none d 143 147 [some (.ref 0), some (.int x1), some (.int x2), some (.int x3), some (.int x4), some (.ref 80), none] (w.toList ++ []) h := m_ev_K _ _ _ _ _ _ _
set_option maxRecDepth 20000 in
theorem eX11_act_141_v2 (d : Nat) (st : Nat → Nat → Int32) (x1 x2 x3 x4 : Int32) : m_ev none d 143 141 [some (.ref 0), some (.int x1), some (.int x2), some (.int x3), some (.int x4), some (.ref 81), none] [] (SH, st) = m_bd (m_evc d 78 [.ref 81, .int x3] (SH, st)) fun w h => m_ev none d 143 147 [some (.ref 0), some (.int x1), some (.int x2), some (.int x3), some (.int x4), some (.ref 81), none] (w.toList ++ []) h := m_ev_K _ _ _ _ _ _ _
set_option maxRecDepth 20000 in
theorem eX11_act_141_v3 (d : Nat) (st : Nat → Nat → Int32) (x1 x2 x3 x4 : Int32) : m_ev none d 143 141 [some (.ref 0), some (.int x1), some (.int x2), some (.int x3), some (.int x4), some (.ref 82), none] [] (SH, st) = m_bd (m_evc d 18 [.ref 82, .int x3] (SH, st)) fun w h => m_ev none d 143 147 [some (.ref 0), some (.int x1), some (.int x2), some (.int x3), some (.int x4), some (.ref 82), none] (w.toList ++ []) h := m_ev_K _ _ _ _ _ _ _
set_option maxRecDepth 20000 in
theorem eX11_act_141_v4 (d : Nat) (st : Nat → Nat → Int32) (x1 x2 x3 x4 : Int32) : m_ev none d 143 141 [some (.ref 0), some (.int x1), some (.int x2), some (.int x3), some (.int x4), some (.ref 83), none] [] (SH, st) = m_bd (m_evc d 78 [.ref 83, .int x3] (SH, st)) fun w h => m_ev none d 143 147 [some (.ref 0), some (.int x1), some (.int x2), some (.int x3), some (.int x4), some (.ref 83), none] (w.toList ++ []) h := m_ev_K _ _ _ _ _ _ _
set_option maxRecDepth 20000 in
theorem eX11_act_141_v5 (d : Nat) (st : Nat → Nat → Int32) (x1 x2 x3 x4 : Int32) : m_ev none d 143 141 [some (.ref 0), some (.int x1), some (.int x2), some (.int x3), some (.int x4), some (.ref 84), none] [] (SH, st) = m_bd (m_evc d 78 [.ref 84, .int x3] (SH, st)) fun w h => m_ev none d 143 147 [some (.ref 0), some (.int x1), some (.int x2), some (.int x3), some (.int x4), some (.ref 84), none] (w.toList ++ []) h := m_ev_K _ _ _ _ _ _ _
set_option maxRecDepth 20000 in
theorem eX11_act_147_v0 (d : Nat) (st : Nat → Nat → Int32) (x1 x2 x3 x4 t0 : Int32) : m_ev none d 143 147 [some (.ref 0), some (.int x1), some (.int x2), some (.int x3), some (.int x4), some (.ref 79), none] [.int t0] (SH, st) = m_ev none d 143 149 [some (.ref 0), some (.int x1), some (.int x2), some (.int x3), some (.int x4), some (.ref 79), some (.int t0)] [] (SH, st) := m_ev_K _ _ _ _ _ _ _
set_option maxRecDepth 20000 in
theorem eX11_act_147_v1 (d : Nat) (st : Nat → Nat → Int32) (x1 x2 x3 x4 t0 : Int32) : m_ev none d 143 147 [some (.ref 0), some (.int x1), some (.int x2), some (.int x3), some (.int x4), some (.ref 80), none] [.int t0] (SH, st) = m_ev none d 143 149 [some (.ref 0), some (.int x1), some (.int x2), some (.int x3), some (.int x4), some (.ref 80), some (.int t0)] [] (SH, st) := m_ev_K _ _ _ _ _ _ _
set_option maxRecDepth 20000 in
theorem eX11_act_147_v2 (d : Nat) (st : Nat → Nat → Int32) (x1 x2 x3 x4 t0 : Int32) : m_ev none d 143 147 [some (.ref 0), some (.int x1), some (.int x2), some (.int x3), some (.int x4), some (.ref 81), none] [.int t0] (SH, st) = m_ev none d 143 149 [some (.ref 0), some (.int x1), some (.int x2), some (.int x3), some (.int x4), some (.ref 81), some (.int t0)] [] (SH, st) := m_ev_K _ _ _ _ _ _ _
set_option maxRecDepth 20000 in
theorem eX11_act_147_v3 (d : Nat) (st : Nat → Nat → Int32) (x1 x2 x3 x4 t0 : Int32) : m_ev none d 143 147 [some (.ref 0), some (.int x1), some (.int x2), some (.int x3), some (.int x4), some (.ref 82), none] [.int t0] (SH, st) = m_ev none d 143 149 [some (.ref 0), some (.int x1), some (.int x2), some (.int x3), some (.int x4), some (.ref 82), some (.int t0)] [] (SH, st) := m_ev_K _ _ _ _ _ _ _
set_option maxRecDepth 20000 in
theorem eX11_act_147_v4 (d : Nat) (st : Nat → Nat → Int32) (x1 x2 x3 x4 t0 : Int32) : m_ev none d 143 147 [some (.ref 0), some (.int x1), some (.int x2), some (.int x3), some (.int x4), some (.ref 83), none] [.int t0] (SH, st) = m_ev none d 143 149 [some (.ref 0), some (.int x1), some (.int x2), some (.int x3), some (.int x4), some (.ref 83), some (.int t0)] [] (SH, st) := m_ev_K _ _ _ _ _ _ _
set_option maxRecDepth 20000 in
theorem eX11_act_147_v5 (d : Nat) (st : Nat → Nat → Int32) (x1 x2 x3 x4 t0 : Int32) : m_ev none d 143 147 [some (.ref 0), some (.int x1), some (.int x2), some (.int x3), some (.int x4), some (.ref 84), none] [.int t0] (SH, st) = m_ev none d 143 149 [some (.ref 0), some (.int x1), some (.int x2), some (.int x3), some (.int x4), some (.ref 84), some (.int t0)] [] (SH, st) := m_ev_K _ _ _ _ _ _ _
set_option maxRecDepth 20000 in
theorem eX11_act_149_v0 (d : Nat) (st : Nat → Nat → Int32) (x1 x2 x3 x4 x6 : Int32) : m_ev none d 143 149 [some (.ref 0), some (.int x1), some (.int x2), some (.int x3), some (.int x4), some (.ref 79), some (.int x6)] [] (SH, st) = if (st 76 2) = 0 then (m_ev none d 143 164 [some (.ref 0), some (.int x1), some (.int x2), some (.int x3), some (.int x4), some (.ref 79), some (.int x6)] [] (SH, st)) else (m_ev none d 143 166 [some (.ref 0), some (.int x1), some (.int x2), some (.int x3), some (.int x4), some (.ref 79), some (.int x6)] [.int (-15)] (SH, st)) := m_ev_K _ _ _ _ _ _ _
set_option maxRecDepth 20000 in
theorem eX11_act_149_v1 (d : Nat) (st : Nat → Nat → Int32) (x1 x2 x3 x4 x6 : Int32) : m_ev none d 143 149 [some (.ref 0), some (.int x1), some (.int x2), some (.int x3), some (.int x4), some (.ref 80), some (.int x6)] [] (SH, st) = if (st 76 2) = 0 then (m_ev none d 143 164 [some (.ref 0), some (.int x1), some (.int x2), some (.int x3), some (.int x4), some (.ref 80), some (.int x6)] [] (SH, st)) else (m_ev none d 143 166 [some (.ref 0), some (.int x1), some (.int x2), some (.int x3), some (.int x4), some (.ref 80), some (.int x6)] [.int (-15)] (SH, st)) := m_ev_K _ _ _ _ _ _ _
set_option maxRecDepth 20000 in
theorem eX11_act_149_v2 (d : Nat) (st : Nat → Nat → Int32) (x1 x2 x3 x4 x6 : Int32) : m_ev none d 143 149 [some (.ref 0), some (.int x1), some (.int x2), some (.int x3), some (.int x4), some (.ref 81), some (.int x6)] [] (SH, st) = if (st 76 2) = 0 then (m_ev none d 143 164 [some (.ref 0), some (.int x1), some (.int x2), some (.int x3), some (.int x4), some (.ref 81), some (.int x6)] [] (SH, st)) else (m_ev none d 143 166 [some (.ref 0), some (.int x1), some (.int x2), some (.int x3), some (.int x4), some (.ref 81), some (.int x6)] [.int (-15)] (SH, st)) := m_ev_K _ _ _ _ _ _ _
set_option maxRecDepth 20000 in
theorem eX11_act_149_v3 (d : Nat) (st : Nat → Nat → Int32) (x1 x2 x3 x4 x6 : Int32) : m_ev none d 143 149 [some (.ref 0), some (.int x1), some (.int x2), some (.int x3), some (.int x4), some (.ref 82), some (.int x6)] [] (SH, st) = if (st 76 2) = 0 then (m_ev none d 143 164 [some (.ref 0), some (.int x1), some (.int x2), some (.int x3), some (.int x4), some (.ref 82), some (.int x6)] [] (SH, st)) else (m_ev none d 143 166 [some (.ref 0), some (.int x1), some (.int x2), some (.int x3), some (.int x4), some (.ref 82), some (.int x6)] [.int (-15)] (SH, st)) := m_ev_K _ _ _ _ _ _ _
set_option maxRecDepth 20000 in
theorem eX11_act_149_v4 (d : Nat) (st : Nat → Nat → Int32) (x1 x2 x3 x4 x6 : Int32) : m_ev none d 143 149 [some (.ref 0), some (.int x1), some (.int x2), some (.int x3), some (.int x4), some (.ref 83), some (.int x6)] [] (SH, st) = if (st 76 2) = 0 then (m_ev none d 143 164 [some (.ref 0), some (.int x1), some (.int x2), some (.int x3), some (.int x4), some (.ref 83), some (.int x6)] [] (SH, st)) else (m_ev none d 143 166 [some (.ref 0), some (.int x1), some (.int x2), some (.int x3), some (.int x4), some (.ref 83), some (.int x6)] [.int (-15)] (SH, st)) := m_ev_K _ _ _ _ _ _ _
set_option maxRecDepth 20000 in
theorem eX11_act_149_v5 (d : Nat) (st : Nat → Nat → Int32) (x1 x2 x3 x4 x6 : Int32) : m_ev none d 143 149 [some (.ref 0), some (.int x1), some (.int x2), some (.int x3), some (.int x4), some (.ref 84), some (.int x6)] [] (SH, st) = if (st 76 2) = 0 then (m_ev none d 143 164 [some (.ref 0), some (.int x1), some (.int x2), some (.int x3), some (.int x4), some (.ref 84), some (.int x6)] [] (SH, st)) else (m_ev none d 143 166 [some (.ref 0), some (.int x1), some (.int x2), some (.int x3), some (.int x4), some (.ref 84), some (.int x6)] [.int (-15)] (SH, st)) := m_ev_K _ _ _ _ _ _ _
set_option maxRecDepth 20000 in
theorem eX11_act_164_v0 (d : Nat) (st : Nat → Nat → Int32) (x1 x2 x3 x4 x6 : Int32) : m_ev none d 143 164 [some (.ref 0), some (.int x1), some (.int x2), some (.int x3), some (.int x4), some (.ref 79), some (.int x6)] [] (SH, st) = m_ev none d 143 166 [some (.ref 0), some (.int x1), some (.int x2), some (.int x3), some (.int x4), some (.ref 79), some (.int x6)] [.int x6] (SH, st) := m_ev_K _ _ _ _ _ _ _
set_option maxRecDepth 20000 in
theorem eX11_act_164_v1 (d : Nat) (st : Nat → Nat → Int32) (x1 x2 x3 x4 x6 : Int32) : m_ev none d 143 164 [some (.ref 0), some (.int x1), some (.int x2), some (.int x3), some (.int x4), some (.ref 80), some (.int x6)] [] (SH, st) = m_ev none d 143 166 [some (.ref 0), some (.int x1), some (.int x2), some (.int x3), some (.int x4), some (.ref 80), some (.int x6)] [.int x6] (SH, st) := m_ev_K _ _ _ _ _ _ _
set_option maxRecDepth 20000 in
theorem eX11_act_164_v2 (d : Nat) (st : Nat → Nat → Int32) (x1 x2 x3 x4 x6 : Int32) : m_ev none d 143 164 [some (.ref 0), some (.int x1), some (.int x2), some (.int x3), some (.int x4), some (.ref 81), some (.int x6)] [] (SH, st) = m_ev none d 143 166 [some (.ref 0), some (.int x1), some (.int x2), some (.int x3), some (.int x4), some (.ref 81), some (.int x6)] [.int x6] (SH, st) := m_ev_K _ _ _ _ _ _ _
set_option maxRecDepth 20000 in
theorem eX11_act_164_v3 (d : Nat) (st : Nat → Nat → Int32) (x1 x2 x3 x4 x6 : Int32) : m_ev none d 143 164 [some (.ref 0), some (.int x1), some (.int x2), some (.int x3), some (.int x4), some (.ref 82), some (.int x6)] [] (SH, st) = m_ev none d 143 166 [some (.ref 0), some (.int x1), some (.int x2), some (.int x3), some (.int x4), some (.ref 82), some (.int x6)] [.int x6] (SH, st) := m_ev_K _ _ _ _ _ _ _
set_option maxRecDepth 20000 in
theorem eX11_act_164_v4 (d : Nat) (st : Nat → Nat → Int32) (x1 x2 x3 x4 x6 : Int32) : m_ev none d 143 164 [some (.ref 0), some (.int x1), some (.int x2), some (.int x3), some (.int x4), some (.ref 83), some (.int x6)] [] (SH, st) = m_ev none d 143 166 [some (.ref 0), some (.int x1), some (.int x2), some (.int x3), some (.int x4), some (.ref 83), some (.int x6)] [.int x6] (SH, st) := m_ev_K _ _ _ _ _ _ _
set_option maxRecDepth 20000 in
theorem eX11_act_164_v5 (d : Nat) (st : Nat → Nat → Int32) (x1 x2 x3 x4 x6 : Int32) : m_ev none d 143 164 [some (.ref 0), some (.int x1), some (.int x2), some (.int x3), some (.int x4), some (.ref 84), some (.int x6)] [] (SH, st) = m_ev none d 143 166 [some (.ref 0), some (.int x1), some (.int x2), some (.int x3), some (.int x4), some (.ref 84), some (.int x6)] [.int x6] (SH, st) := m_ev_K _ _ _ _ _ _ _
set_option maxRecDepth 20000 in
theorem eX11_act_166_v0 (d : Nat) (st : Nat → Nat → Int32) (x1 x2 x3 x4 x6 t0 : Int32) : m_ev none d 143 166 [some (.ref 0), some (.int x1), some (.int x2), some (.int x3), some (.int x4), some (.ref 79), some (.int x6)] [.int t0] (SH, st) = some (some (.int t0), (SH, st)) := m_ev_K _ _ _ _ _ _ _
set_option maxRecDepth 20000 in
theorem eX11_act_166_v1 (d : Nat) (st : Nat → Nat → Int32) (x1 x2 x3 x4 x6 t0 : Int32) : m_ev none d 143 166 [some (.ref 0), some (.int x1), some (.int x2), some (.int x3), some (.int x4), some (.ref 80), some (.int x6)] [.int t0] (SH, st) = some (some (.int t0), (SH, st)) := m_ev_K _ _ _ _ _ _ _
set_option maxRecDepth 20000 in
theorem eX11_act_166_v2 (d : Nat) (st : Nat → Nat → Int32) (x1 x2 x3 x4 x6 t0 : Int32) : m_ev none d 143 166 [some (.ref 0), some (.int x1), some (.int x2), some (.int x3), some (.int x4), some (.ref 81), some (.int x6)] [.int t0] (SH, st) = some (some (.int t0), (SH, st)) := m_ev_K _ _ _ _ _ _ _
set_option maxRecDepth 20000 in
theorem eX11_act_166_v3 (d : Nat) (st : Nat → Nat → Int32) (x1 x2 x3 x4 x6 t0 : Int32) : m_ev none d 143 166 [some (.ref 0), some (.int x1), some (.int x2), some (.int x3), some (.int x4), some (.ref 82), some (.int x6)] [.int t0] (SH, st) = some (some (.int t0), (SH, st)) := m_ev_K _ _ _ _ _ _ _
set_option maxRecDepth 20000 in
theorem eX11_act_166_v4 (d : Nat) (st : Nat → Nat → Int32) (x1 x2 x3 x4 x6 t0 : Int32) : m_ev none d 143 166 [some (.ref 0), some (.int x1), some (.int x2), some (.int x3), some (.int x4), some (.ref 83), some (.int x6)] [.int t0] (SH, st) = some (some (.int t0), (SH, st)) := m_ev_K _ _ _ _ _ _ _
set_option maxRecDepth 20000 in
theorem eX11_act_166_v5 (d : Nat) (st : Nat → Nat → Int32) (x1 x2 x3 x4 x6 t0 : Int32) : m_ev none d 143 166 [some (.ref 0), some (.int x1), some (.int x2), some (.int x3), some (.int x4), some (.ref 84), some (.int x6)] [.int t0] (SH, st) = some (some (.int t0), (SH, st)) := m_ev_K _ _ _ _ _ _ _
set_option maxRecDepth 20000 in
theorem eX11_trace_0 (d : Nat) (st : Nat → Nat → Int32) (x1 : Int32) : m_ev none d 144 0 [some (.ref 0), some (.int x1)] [] (SH, st) = if x1 < 0 then (m_ev none d 144 27 [some (.ref 0), some (.int x1)] [] (SH, st)) else (if x1 < (st 76 0) then (m_ob (m_ix x1 30) fun q1 => m_ev none d 144 29 [some (.ref 0), some (.int x1)] [.int (st 77 q1)] (SH, st)) else (m_ev none d 144 27 [some (.ref 0), some (.int x1)] [] (SH, st))) := m_ev_K _ _ _ _ _ _ _
set_option maxRecDepth 20000 in
theorem eX11_trace_27 (d : Nat) (st : Nat → Nat → Int32) (x1 : Int32) : m_ev none d 144 27 [some (.ref 0), some (.int x1)] [] (SH, st) = m_ev none d 144 29 [some (.ref 0), some (.int x1)] [.int (-3)] (SH, st) := m_ev_K _ _ _ _ _ _ _
set_option maxRecDepth 20000 in
theorem eX11_trace_29 (d : Nat) (st : Nat → Nat → Int32) (x1 t0 : Int32) : m_ev none d 144 29 [some (.ref 0), some (.int x1)] [.int t0] (SH, st) = some (some (.int t0), (SH, st)) := m_ev_K _ _ _ _ _ _ _
set_option maxRecDepth 20000 in
theorem eX11_many_0 (d : Nat) (st : Nat → Nat → Int32) (x1 : Int32) : m_ev none d 145 0 [some (.ref 0), some (.int x1)] [] (SH, st) = m_ev none d 145 (m_case x1 [[0, 44], [1, 52], [2, 63], [3, 71], [4, 76], [5, 84], [6, 92]] 100) [some (.ref 0), some (.int x1)] [] (SH, st) := m_ev_K _ _ _ _ _ _ _
set_option maxRecDepth 20000 in
theorem eX11_many_44 (d : Nat) (st : Nat → Nat → Int32) (x1 : Int32) : m_ev none d 145 44 [some (.ref 0), some (.int x1)] [] (SH, st) = some (some (.int (st 1 0)), (SH, st)) := m_ev_K _ _ _ _ _ _ _
set_option maxRecDepth 20000 in
theorem eX11_many_52 (d : Nat) (st : Nat → Nat → Int32) (x1 : Int32) : m_ev none d 145 52 [some (.ref 0), some (.int x1)] [] (SH, st) = some (some (.int (st 9 0)), (SH, st)) := m_ev_K _ _ _ _ _ _ _
set_option maxRecDepth 20000 in
theorem eX11_many_63 (d : Nat) (st : Nat → Nat → Int32) (x1 : Int32) : m_ev none d 145 63 [some (.ref 0), some (.int x1)] [] (SH, st) = some (some (.int (st 1 11)), (SH, st)) := m_ev_K _ _ _ _ _ _ _
set_option maxRecDepth 20000 in
theorem eX11_many_71 (d : Nat) (st : Nat → Nat → Int32) (x1 : Int32) : m_ev none d 145 71 [some (.ref 0), some (.int x1)] [] (SH, st) = some (some (.int (st 0 8)), (SH, st)) := m_ev_K _ _ _ _ _ _ _
set_option maxRecDepth 20000 in
theorem eX11_many_76 (d : Nat) (st : Nat → Nat → Int32) (x1 : Int32) : m_ev none d 145 76 [some (.ref 0), some (.int x1)] [] (SH, st) = m_bd (m_evc d 69 [.ref 1] (SH, st)) fun w h => m_ev none d 145 83 [some (.ref 0), some (.int x1)] (w.toList ++ []) h := m_ev_K _ _ _ _ _ _ _
set_option maxRecDepth 20000 in
theorem eX11_many_83 (d : Nat) (st : Nat → Nat → Int32) (x1 t0 : Int32) : m_ev none d 145 83 [some (.ref 0), some (.int x1)] [.int t0] (SH, st) = some (some (.int t0), (SH, st)) := m_ev_K _ _ _ _ _ _ _
set_option maxRecDepth 20000 in
theorem eX11_many_84 (d : Nat) (st : Nat → Nat → Int32) (x1 : Int32) : m_ev none d 145 84 [some (.ref 0), some (.int x1)] [] (SH, st) = some (some (.int (st 35 0)), (SH, st)) := m_ev_K _ _ _ _ _ _ _
set_option maxRecDepth 20000 in
theorem eX11_many_92 (d : Nat) (st : Nat → Nat → Int32) (x1 : Int32) : m_ev none d 145 92 [some (.ref 0), some (.int x1)] [] (SH, st) = some (some (.int (st 76 0)), (SH, st)) := m_ev_K _ _ _ _ _ _ _
set_option maxRecDepth 20000 in
theorem eX11_many_100 (d : Nat) (st : Nat → Nat → Int32) (x1 : Int32) : m_ev none d 145 100 [some (.ref 0), some (.int x1)] [] (SH, st) = some (some (.int (-1)), (SH, st)) := m_ev_K _ _ _ _ _ _ _
set_option maxRecDepth 20000 in
theorem eX11_isSheet_0 (d : Nat) (st : Nat → Nat → Int32) (x0 : Int32) : m_ev none d 146 0 [some (.int x0)] [] (SH, st) = if x0 < 0 then (m_ev none d 146 13 [some (.int x0)] [] (SH, st)) else (if x0 < 4 then (m_ev none d 146 14 [some (.int x0)] [.int 1] (SH, st)) else (m_ev none d 146 13 [some (.int x0)] [] (SH, st))) := m_ev_K _ _ _ _ _ _ _
set_option maxRecDepth 20000 in
theorem eX11_isSheet_13 (d : Nat) (st : Nat → Nat → Int32) (x0 : Int32) : m_ev none d 146 13 [some (.int x0)] [] (SH, st) = m_ev none d 146 14 [some (.int x0)] [.int 0] (SH, st) := m_ev_K _ _ _ _ _ _ _
set_option maxRecDepth 20000 in
theorem eX11_isSheet_14 (d : Nat) (st : Nat → Nat → Int32) (x0 t0 : Int32) : m_ev none d 146 14 [some (.int x0)] [.int t0] (SH, st) = if t0 = 0 ∨ t0 = 1 then some (some (.int t0), (SH, st)) else none := m_ev_K _ _ _ _ _ _ _
set_option maxRecDepth 20000 in
theorem eX11_isSort_0 (d : Nat) (st : Nat → Nat → Int32) (x0 : Int32) : m_ev none d 147 0 [some (.int x0)] [] (SH, st) = if x0 < 0 then (m_ev none d 147 13 [some (.int x0)] [] (SH, st)) else (if 4 < x0 then (m_ev none d 147 13 [some (.int x0)] [] (SH, st)) else (m_ev none d 147 14 [some (.int x0)] [.int 1] (SH, st))) := m_ev_K _ _ _ _ _ _ _
set_option maxRecDepth 20000 in
theorem eX11_isSort_13 (d : Nat) (st : Nat → Nat → Int32) (x0 : Int32) : m_ev none d 147 13 [some (.int x0)] [] (SH, st) = m_ev none d 147 14 [some (.int x0)] [.int 0] (SH, st) := m_ev_K _ _ _ _ _ _ _
set_option maxRecDepth 20000 in
theorem eX11_isSort_14 (d : Nat) (st : Nat → Nat → Int32) (x0 t0 : Int32) : m_ev none d 147 14 [some (.int x0)] [.int t0] (SH, st) = if t0 = 0 ∨ t0 = 1 then some (some (.int t0), (SH, st)) else none := m_ev_K _ _ _ _ _ _ _
set_option maxRecDepth 20000 in
theorem eX11_isItem_0 (d : Nat) (st : Nat → Nat → Int32) (x1 x2 : Int32) : m_ev none d 148 0 [some (.ref 0), some (.int x1), some (.int x2)] [] (SH, st) = if x2 < 0 then (m_ev none d 148 18 [some (.ref 0), some (.int x1), some (.int x2)] [] (SH, st)) else (m_ob (m_ix x1 4) fun q1 => if x2 < (st 67 q1) then (m_ev none d 148 19 [some (.ref 0), some (.int x1), some (.int x2)] [.int 1] (SH, st)) else (m_ev none d 148 18 [some (.ref 0), some (.int x1), some (.int x2)] [] (SH, st))) := m_ev_K _ _ _ _ _ _ _
set_option maxRecDepth 20000 in
theorem eX11_isItem_18 (d : Nat) (st : Nat → Nat → Int32) (x1 x2 : Int32) : m_ev none d 148 18 [some (.ref 0), some (.int x1), some (.int x2)] [] (SH, st) = m_ev none d 148 19 [some (.ref 0), some (.int x1), some (.int x2)] [.int 0] (SH, st) := m_ev_K _ _ _ _ _ _ _
set_option maxRecDepth 20000 in
theorem eX11_isItem_19 (d : Nat) (st : Nat → Nat → Int32) (x1 x2 t0 : Int32) : m_ev none d 148 19 [some (.ref 0), some (.int x1), some (.int x2)] [.int t0] (SH, st) = if t0 = 0 ∨ t0 = 1 then some (some (.int t0), (SH, st)) else none := m_ev_K _ _ _ _ _ _ _
set_option maxRecDepth 20000 in
theorem eX11_narrowed_0 (d : Nat) (st : Nat → Nat → Int32) (x0 x1 : Int32) : m_ev none d 149 0 [some (.int x0), some (.int x1)] [] (SH, st) = m_ev none d 149 (m_case x0 [[0, 36], [1, 39], [2, 52], [3, 52], [4, 42]] 52) [some (.int x0), some (.int x1)] [] (SH, st) := m_ev_K _ _ _ _ _ _ _
set_option maxRecDepth 20000 in
theorem eX11_narrowed_36 (d : Nat) (st : Nat → Nat → Int32) (x0 x1 : Int32) : m_ev none d 149 36 [some (.int x0), some (.int x1)] [] (SH, st) = some (some (.int ((x1 : Int32).toInt8.toInt32)), (SH, st)) := m_ev_K _ _ _ _ _ _ _
set_option maxRecDepth 20000 in
theorem eX11_narrowed_39 (d : Nat) (st : Nat → Nat → Int32) (x0 x1 : Int32) : m_ev none d 149 39 [some (.int x0), some (.int x1)] [] (SH, st) = some (some (.int ((x1 : Int32).toInt16.toInt32)), (SH, st)) := m_ev_K _ _ _ _ _ _ _
set_option maxRecDepth 20000 in
theorem eX11_narrowed_42 (d : Nat) (st : Nat → Nat → Int32) (x0 x1 : Int32) : m_ev none d 149 42 [some (.int x0), some (.int x1)] [] (SH, st) = if x1 = 0 then (m_ev none d 149 50 [some (.int x0), some (.int x1)] [] (SH, st)) else (m_ev none d 149 51 [some (.int x0), some (.int x1)] [.int 1] (SH, st)) := m_ev_K _ _ _ _ _ _ _
set_option maxRecDepth 20000 in
theorem eX11_narrowed_50 (d : Nat) (st : Nat → Nat → Int32) (x0 x1 : Int32) : m_ev none d 149 50 [some (.int x0), some (.int x1)] [] (SH, st) = m_ev none d 149 51 [some (.int x0), some (.int x1)] [.int 0] (SH, st) := m_ev_K _ _ _ _ _ _ _
set_option maxRecDepth 20000 in
theorem eX11_narrowed_51 (d : Nat) (st : Nat → Nat → Int32) (x0 x1 t0 : Int32) : m_ev none d 149 51 [some (.int x0), some (.int x1)] [.int t0] (SH, st) = some (some (.int t0), (SH, st)) := m_ev_K _ _ _ _ _ _ _
set_option maxRecDepth 20000 in
theorem eX11_narrowed_52 (d : Nat) (st : Nat → Nat → Int32) (x0 x1 : Int32) : m_ev none d 149 52 [some (.int x0), some (.int x1)] [] (SH, st) = some (some (.int x1), (SH, st)) := m_ev_K _ _ _ _ _ _ _
set_option maxRecDepth 20000 in
theorem eX11_isShelf_0 (d : Nat) (st : Nat → Nat → Int32) (x0 : Int32) : m_ev none d 150 0 [some (.int x0)] [] (SH, st) = if x0 < 0 then (m_ev none d 150 13 [some (.int x0)] [] (SH, st)) else (if x0 < 4 then (m_ev none d 150 14 [some (.int x0)] [.int 1] (SH, st)) else (m_ev none d 150 13 [some (.int x0)] [] (SH, st))) := m_ev_K _ _ _ _ _ _ _
set_option maxRecDepth 20000 in
theorem eX11_isShelf_13 (d : Nat) (st : Nat → Nat → Int32) (x0 : Int32) : m_ev none d 150 13 [some (.int x0)] [] (SH, st) = m_ev none d 150 14 [some (.int x0)] [.int 0] (SH, st) := m_ev_K _ _ _ _ _ _ _
set_option maxRecDepth 20000 in
theorem eX11_isShelf_14 (d : Nat) (st : Nat → Nat → Int32) (x0 t0 : Int32) : m_ev none d 150 14 [some (.int x0)] [.int t0] (SH, st) = if t0 = 0 ∨ t0 = 1 then some (some (.int t0), (SH, st)) else none := m_ev_K _ _ _ _ _ _ _
set_option maxRecDepth 20000 in
theorem eX11_isTowerOnShelf_0 (d : Nat) (st : Nat → Nat → Int32) (x1 : Int32) : m_ev none d 151 0 [some (.ref 0), some (.int x1)] [] (SH, st) = m_ob (m_ix x1 4) fun q1 => if (st 73 q1) = 0 then (m_ob (m_ix x1 4) fun q2 => m_bd (m_evc d 68 [.ref 1, .int (st 74 q2)] (SH, st)) fun w h => m_ev none d 151 22 [some (.ref 0), some (.int x1)] (w.toList ++ []) h) else (m_ev none d 151 29 [some (.ref 0), some (.int x1)] [] (SH, st)) := m_ev_K _ _ _ _ _ _ _
set_option maxRecDepth 20000 in
theorem eX11_isTowerOnShelf_22 (d : Nat) (st : Nat → Nat → Int32) (x1 t0 : Int32) : m_ev none d 151 22 [some (.ref 0), some (.int x1)] [.int t0] (SH, st) = if t0 = 0 then (m_ev none d 151 29 [some (.ref 0), some (.int x1)] [] (SH, st)) else (m_ev none d 151 30 [some (.ref 0), some (.int x1)] [.int 1] (SH, st)) := m_ev_K _ _ _ _ _ _ _
set_option maxRecDepth 20000 in
theorem eX11_isTowerOnShelf_29 (d : Nat) (st : Nat → Nat → Int32) (x1 : Int32) : m_ev none d 151 29 [some (.ref 0), some (.int x1)] [] (SH, st) = m_ev none d 151 30 [some (.ref 0), some (.int x1)] [.int 0] (SH, st) := m_ev_K _ _ _ _ _ _ _
set_option maxRecDepth 20000 in
theorem eX11_isTowerOnShelf_30 (d : Nat) (st : Nat → Nat → Int32) (x1 t0 : Int32) : m_ev none d 151 30 [some (.ref 0), some (.int x1)] [.int t0] (SH, st) = if t0 = 0 ∨ t0 = 1 then some (some (.int t0), (SH, st)) else none := m_ev_K _ _ _ _ _ _ _
set_option maxRecDepth 20000 in
theorem eX11_keep_0 (d : Nat) (st : Nat → Nat → Int32) : m_ev none d 152 0 [some (.ref 0)] [] (SH, st) = m_bd (m_evc d 73 [.ref 18, .ref 1] (SH, st)) fun w h => m_ev none d 152 11 [some (.ref 0)] (w.toList ++ []) h := m_ev_K _ _ _ _ _ _ _
set_option maxRecDepth 20000 in
theorem eX11_keep_11 (d : Nat) (st : Nat → Nat → Int32) : m_ev none d 152 11 [some (.ref 0)] [] (SH, st) = some (some (.int 1), (SH, (m_up st 0 2 1))) := m_ev_K _ _ _ _ _ _ _
set_option maxRecDepth 20000 in
theorem eX11_again_0 (d : Nat) (st : Nat → Nat → Int32) : m_ev none d 153 0 [some (.ref 0)] [] (SH, st) = if (st 0 2) = 0 then (some (some (.int (-3)), (SH, st))) else (m_ev none d 153 10 [some (.ref 0)] [] (SH, st)) := m_ev_K _ _ _ _ _ _ _
set_option maxRecDepth 20000 in
theorem eX11_again_10 (d : Nat) (st : Nat → Nat → Int32) : m_ev none d 153 10 [some (.ref 0)] [] (SH, st) = m_bd (m_evc d 73 [.ref 1, .ref 18] (SH, st)) fun w h => m_ev none d 153 21 [some (.ref 0)] (w.toList ++ []) h := m_ev_K _ _ _ _ _ _ _
set_option maxRecDepth 20000 in
theorem eX11_again_21 (d : Nat) (st : Nat → Nat → Int32) : m_ev none d 153 21 [some (.ref 0)] [] (SH, st) = some (some (.int (st 1 0)), (SH, st)) := m_ev_K _ _ _ _ _ _ _
