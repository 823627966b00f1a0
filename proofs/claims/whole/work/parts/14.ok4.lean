theorem ok_C_allGiveAlike (pc : Nat) (q : cw_A) (h : cw_cd k_C_allGiveAlike pc = some q) : cw_okb k_C_allGiveAlike q = true ∧ q.1 = pc := by
  have h : t_C_allGiveAlike pc = some q := h
  exact cw_bif h (fun h => cw_bif h (fun h => cw_bif h (fun h => cw_ft_ok (by decide +kernel) h) (fun h => cw_ft_ok (by decide +kernel) h)) (fun h => cw_ft_ok (by decide +kernel) h)) (fun h => cw_bif h (fun h => cw_ft_ok (by decide +kernel) h) (fun h => cw_ft_ok (by decide +kernel) h))
theorem ok_C_takeFromTape (pc : Nat) (q : cw_A) (h : cw_cd k_C_takeFromTape pc = some q) : cw_okb k_C_takeFromTape q = true ∧ q.1 = pc := by
  have h : t_C_takeFromTape pc = some q := h
  exact cw_bif h (fun h => cw_bif h (fun h => cw_ft_ok (by decide +kernel) h) (fun h => cw_ft_ok (by decide +kernel) h)) (fun h => cw_ft_ok (by decide +kernel) h)
theorem ok_C_doMark (pc : Nat) (q : cw_A) (h : cw_cd k_C_doMark pc = some q) : cw_okb k_C_doMark q = true ∧ q.1 = pc := by
  have h : t_C_doMark pc = some q := h
  exact cw_bif h (fun h => cw_bif h (fun h => cw_ft_ok (by decide +kernel) h) (fun h => cw_ft_ok (by decide +kernel) h)) (fun h => cw_ft_ok (by decide +kernel) h)
theorem ok_C_doTurn (pc : Nat) (q : cw_A) (h : cw_cd k_C_doTurn pc = some q) : cw_okb k_C_doTurn q = true ∧ q.1 = pc := by
  have h : t_C_doTurn pc = some q := h
  exact cw_bif h (fun h => cw_bif h (fun h => cw_ft_ok (by decide +kernel) h) (fun h => cw_ft_ok (by decide +kernel) h)) (fun h => cw_ft_ok (by decide +kernel) h)
theorem ok_C_doDie (pc : Nat) (q : cw_A) (h : cw_cd k_C_doDie pc = some q) : cw_okb k_C_doDie q = true ∧ q.1 = pc := by
  have h : t_C_doDie pc = some q := h
  exact cw_bif h (fun h => cw_bif h (fun h => cw_ft_ok (by decide +kernel) h) (fun h => cw_ft_ok (by decide +kernel) h)) (fun h => cw_ft_ok (by decide +kernel) h)
theorem ok_C_doPass (pc : Nat) (q : cw_A) (h : cw_cd k_C_doPass pc = some q) : cw_okb k_C_doPass q = true ∧ q.1 = pc := by
  have h : t_C_doPass pc = some q := h
  exact cw_bif h (fun h => cw_ft_ok (by decide +kernel) h) (fun h => cw_ft_ok (by decide +kernel) h)
theorem ok_C_runOrders (pc : Nat) (q : cw_A) (h : cw_cd k_C_runOrders pc = some q) : cw_okb k_C_runOrders q = true ∧ q.1 = pc := by
  have h : t_C_runOrders pc = some q := h
  exact cw_bif h (fun h => cw_bif h (fun h => cw_ft_ok (by decide +kernel) h) (fun h => cw_ft_ok (by decide +kernel) h)) (fun h => cw_bif h (fun h => cw_ft_ok (by decide +kernel) h) (fun h => cw_ft_ok (by decide +kernel) h))
theorem ok_C_runClause (pc : Nat) (q : cw_A) (h : cw_cd k_C_runClause pc = some q) : cw_okb k_C_runClause q = true ∧ q.1 = pc := by
  have h : t_C_runClause pc = some q := h
  exact cw_bif h (fun h => cw_bif h (fun h => cw_bif h (fun h => cw_ft_ok (by decide +kernel) h) (fun h => cw_ft_ok (by decide +kernel) h)) (fun h => cw_ft_ok (by decide +kernel) h)) (fun h => cw_bif h (fun h => cw_bif h (fun h => cw_ft_ok (by decide +kernel) h) (fun h => cw_ft_ok (by decide +kernel) h)) (fun h => cw_ft_ok (by decide +kernel) h))
theorem ok_C_lookAround (pc : Nat) (q : cw_A) (h : cw_cd k_C_lookAround pc = some q) : cw_okb k_C_lookAround q = true ∧ q.1 = pc := by
  have h : t_C_lookAround pc = some q := h
  exact cw_bif h (fun h => cw_bif h (fun h => cw_ft_ok (by decide +kernel) h) (fun h => cw_ft_ok (by decide +kernel) h)) (fun h => cw_bif h (fun h => cw_ft_ok (by decide +kernel) h) (fun h => cw_ft_ok (by decide +kernel) h))
theorem ok_M_lies (pc : Nat) (q : cw_A) (h : cw_cd k_M_lies pc = some q) : cw_okb k_M_lies q = true ∧ q.1 = pc := by
  have h : t_M_lies pc = some q := h
  exact cw_ft_ok (by decide +kernel) h
theorem ok_M_lesser (pc : Nat) (q : cw_A) (h : cw_cd k_M_lesser pc = some q) : cw_okb k_M_lesser q = true ∧ q.1 = pc := by
  have h : t_M_lesser pc = some q := h
  exact cw_ft_ok (by decide +kernel) h
theorem ok_M_greater (pc : Nat) (q : cw_A) (h : cw_cd k_M_greater pc = some q) : cw_okb k_M_greater q = true ∧ q.1 = pc := by
  have h : t_M_greater pc = some q := h
  exact cw_ft_ok (by decide +kernel) h
theorem ok_M_refuses (pc : Nat) (q : cw_A) (h : cw_cd k_M_refuses pc = some q) : cw_okb k_M_refuses q = true ∧ q.1 = pc := by
  have h : t_M_refuses pc = some q := h
  exact cw_ft_ok (by decide +kernel) h
theorem ok_M_good (pc : Nat) (q : cw_A) (h : cw_cd k_M_good pc = some q) : cw_okb k_M_good q = true ∧ q.1 = pc := by
  have h : t_M_good pc = some q := h
  exact cw_ft_ok (by decide +kernel) h
theorem ok_M_settled (pc : Nat) (q : cw_A) (h : cw_cd k_M_settled pc = some q) : cw_okb k_M_settled q = true ∧ q.1 = pc := by
  have h : t_M_settled pc = some q := h
  exact cw_ft_ok (by decide +kernel) h
theorem ok_M_isIn (pc : Nat) (q : cw_A) (h : cw_cd k_M_isIn pc = some q) : cw_okb k_M_isIn q = true ∧ q.1 = pc := by
  have h : t_M_isIn pc = some q := h
  exact cw_ft_ok (by decide +kernel) h
theorem ok_M_isPerson (pc : Nat) (q : cw_A) (h : cw_cd k_M_isPerson pc = some q) : cw_okb k_M_isPerson q = true ∧ q.1 = pc := by
  have h : t_M_isPerson pc = some q := h
  exact cw_ft_ok (by decide +kernel) h
theorem ok_M_init (pc : Nat) (q : cw_A) (h : cw_cd k_M_init pc = some q) : cw_okb k_M_init q = true ∧ q.1 = pc := by
  have h : t_M_init pc = some q := h
  exact cw_bif h (fun h => cw_bif h (fun h => cw_bif h (fun h => cw_bif h (fun h => cw_bif h (fun h => cw_bif h (fun h => cw_ft_ok (by decide +kernel) h) (fun h => cw_ft_ok (by decide +kernel) h)) (fun h => cw_ft_ok (by decide +kernel) h)) (fun h => cw_bif h (fun h => cw_ft_ok (by decide +kernel) h) (fun h => cw_ft_ok (by decide +kernel) h))) (fun h => cw_bif h (fun h => cw_bif h (fun h => cw_ft_ok (by decide +kernel) h) (fun h => cw_ft_ok (by decide +kernel) h)) (fun h => cw_bif h (fun h => cw_ft_ok (by decide +kernel) h) (fun h => cw_ft_ok (by decide +kernel) h)))) (fun h => cw_bif h (fun h => cw_bif h (fun h => cw_bif h (fun h => cw_bif h (fun h => cw_ft_ok (by decide +kernel) h) (fun h => cw_ft_ok (by decide +kernel) h)) (fun h => cw_ft_ok (by decide +kernel) h)) (fun h => cw_bif h (fun h => cw_ft_ok (by decide +kernel) h) (fun h => cw_ft_ok (by decide +kernel) h))) (fun h => cw_bif h (fun h => cw_bif h (fun h => cw_ft_ok (by decide +kernel) h) (fun h => cw_ft_ok (by decide +kernel) h)) (fun h => cw_bif h (fun h => cw_ft_ok (by decide +kernel) h) (fun h => cw_ft_ok (by decide +kernel) h))))) (fun h => cw_bif h (fun h => cw_bif h (fun h => cw_bif h (fun h => cw_bif h (fun h => cw_bif h (fun h => cw_ft_ok (by decide +kernel) h) (fun h => cw_ft_ok (by decide +kernel) h)) (fun h => cw_ft_ok (by decide +kernel) h)) (fun h => cw_bif h (fun h => cw_ft_ok (by decide +kernel) h) (fun h => cw_ft_ok (by decide +kernel) h))) (fun h => cw_bif h (fun h => cw_bif h (fun h => cw_ft_ok (by decide +kernel) h) (fun h => cw_ft_ok (by decide +kernel) h)) (fun h => cw_bif h (fun h => cw_ft_ok (by decide +kernel) h) (fun h => cw_ft_ok (by decide +kernel) h)))) (fun h => cw_bif h (fun h => cw_bif h (fun h => cw_bif h (fun h => cw_ft_ok (by decide +kernel) h) (fun h => cw_ft_ok (by decide +kernel) h)) (fun h => cw_bif h (fun h => cw_ft_ok (by decide +kernel) h) (fun h => cw_ft_ok (by decide +kernel) h))) (fun h => cw_bif h (fun h => cw_bif h (fun h => cw_ft_ok (by decide +kernel) h) (fun h => cw_ft_ok (by decide +kernel) h)) (fun h => cw_bif h (fun h => cw_ft_ok (by decide +kernel) h) (fun h => cw_ft_ok (by decide +kernel) h)))))
