example (cal : mK) (x t : Int32) (h1 : List mR) (st : Nat → Nat → Int32) (hh : h1[3]? = some (9, 15, [])) : m_B none cal (pX9_isTower 0) 0 [some (.ref 3), some (.int x)] [] (h1, st) = none := by
  simp only [pX9_isTower, qX9_isTower_0, m_B, m_1, m_ld, m_get, m_br, m_hd, m_d, hh]
  trace_state
  sorry
set_option maxHeartbeats 400000 in
example (cal : mK) (x t : Int32) (st : Nat → Nat → Int32) : m_B none cal (pX9_isTower 0) 0 [some (.ref 1), some (.int x)] [] ([(0,0,[]),(9,15,[])], st) = (if x < 0 then some (.inr (16, [some (.ref 1), some (.int x)], [], ([(0,0,[]),(9,15,[])], st))) else if x < st 1 0 then some (.inr (17, [some (.ref 1), some (.int x)], [.int 1], ([(0,0,[]),(9,15,[])], st))) else some (.inr (16, [some (.ref 1), some (.int x)], [], ([(0,0,[]),(9,15,[])], st)))) := by
  rfl
