/-! .. and the law -/
theorem m_all_chunks {α : Type} (p : α → Bool) (l : List α) (n m : Nat) (hn : 0 < n) (hl : l.length ≤ m * n) (h : ∀ i, i < m → ((l.drop (i * n)).take n).all p = true) : l.all p = true := by
  rw [List.all_eq_true]
  intro x hx
  obtain ⟨j, hj⟩ := List.getElem?_of_mem hx
  have hjl := (List.getElem?_eq_some_iff.mp hj).1
  have hd := Nat.div_add_mod j n
  have hm := Nat.mod_lt j hn
  have hi : j / n < m := by
    rw [Nat.div_lt_iff_lt_mul hn]
    omega
  refine List.all_eq_true.mp (h (j / n) hi) x (List.mem_of_getElem? (i := j % n) ?_)
  rw [List.getElem?_take_of_lt hm, List.getElem?_drop, Nat.mul_comm (j / n) n, hd]
  exact hj
set_option maxRecDepth 100000 in
theorem m_ckl_0 : (((mBl 268).drop (0 * 20)).take 20).all (fun e => m_ckB (m_y 268).cls (m_y 268).name (m_mx 268) (m_rt 268) (m_by 268) e.2 e.1) = true := by decide +kernel
set_option maxRecDepth 100000 in
theorem m_ckl_1 : (((mBl 268).drop (1 * 20)).take 20).all (fun e => m_ckB (m_y 268).cls (m_y 268).name (m_mx 268) (m_rt 268) (m_by 268) e.2 e.1) = true := by decide +kernel
set_option maxRecDepth 100000 in
theorem m_ckl_2 : (((mBl 268).drop (2 * 20)).take 20).all (fun e => m_ckB (m_y 268).cls (m_y 268).name (m_mx 268) (m_rt 268) (m_by 268) e.2 e.1) = true := by decide +kernel
