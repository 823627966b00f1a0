theorem ok_M_goesTo (pc : Nat) (q : cw_A) (h : cw_cd k_M_goesTo pc = some q) : cw_okb k_M_goesTo q = true ∧ q.1 = pc := by
  have h : t_M_goesTo pc = some q := h
  exact cw_bif h (fun h => cw_bif h (fun h => cw_bif h (fun h => cw_ft_ok (by decide +kernel) h) (fun h => cw_ft_ok (by decide +kernel) h)) (fun h => cw_bif h (fun h => cw_ft_ok (by decide +kernel) h) (fun h => cw_ft_ok (by decide +kernel) h))) (fun h => cw_bif h (fun h => cw_bif h (fun h => cw_ft_ok (by decide +kernel) h) (fun h => cw_ft_ok (by decide +kernel) h)) (fun h => cw_bif h (fun h => cw_ft_ok (by decide +kernel) h) (fun h => cw_ft_ok (by decide +kernel) h)))
theorem ok_M_laysGot (pc : Nat) (q : cw_A) (h : cw_cd k_M_laysGot pc = some q) : cw_okb k_M_laysGot q = true ∧ q.1 = pc := by
  have h : t_M_laysGot pc = some q := h
  exact cw_bif h (fun h => cw_bif h (fun h => cw_ft_ok (by decide +kernel) h) (fun h => cw_ft_ok (by decide +kernel) h)) (fun h => cw_ft_ok (by decide +kernel) h)
theorem ok_M_laysAll (pc : Nat) (q : cw_A) (h : cw_cd k_M_laysAll pc = some q) : cw_okb k_M_laysAll q = true ∧ q.1 = pc := by
  have h : t_M_laysAll pc = some q := h
  exact cw_bif h (fun h => cw_ft_ok (by decide +kernel) h) (fun h => cw_ft_ok (by decide +kernel) h)
theorem ok_M_gotIn (pc : Nat) (q : cw_A) (h : cw_cd k_M_gotIn pc = some q) : cw_okb k_M_gotIn q = true ∧ q.1 = pc := by
  have h : t_M_gotIn pc = some q := h
  exact cw_ft_ok (by decide +kernel) h
theorem ok_M_laysOne (pc : Nat) (q : cw_A) (h : cw_cd k_M_laysOne pc = some q) : cw_okb k_M_laysOne q = true ∧ q.1 = pc := by
  have h : t_M_laysOne pc = some q := h
  exact cw_bif h (fun h => cw_ft_ok (by decide +kernel) h) (fun h => cw_ft_ok (by decide +kernel) h)
theorem ok_M_gets (pc : Nat) (q : cw_A) (h : cw_cd k_M_gets pc = some q) : cw_okb k_M_gets q = true ∧ q.1 = pc := by
  have h : t_M_gets pc = some q := h
  exact cw_ft_ok (by decide +kernel) h
theorem ok_M_lost (pc : Nat) (q : cw_A) (h : cw_cd k_M_lost pc = some q) : cw_okb k_M_lost q = true ∧ q.1 = pc := by
  have h : t_M_lost pc = some q := h
  exact cw_bif h (fun h => cw_ft_ok (by decide +kernel) h) (fun h => cw_ft_ok (by decide +kernel) h)
theorem ok_M_compare (pc : Nat) (q : cw_A) (h : cw_cd k_M_compare pc = some q) : cw_okb k_M_compare q = true ∧ q.1 = pc := by
  have h : t_M_compare pc = some q := h
  exact cw_bif h (fun h => cw_ft_ok (by decide +kernel) h) (fun h => cw_ft_ok (by decide +kernel) h)
theorem ok_M_range (pc : Nat) (q : cw_A) (h : cw_cd k_M_range pc = some q) : cw_okb k_M_range q = true ∧ q.1 = pc := by
  have h : t_M_range pc = some q := h
  exact cw_bif h (fun h => cw_bif h (fun h => cw_ft_ok (by decide +kernel) h) (fun h => cw_ft_ok (by decide +kernel) h)) (fun h => cw_bif h (fun h => cw_ft_ok (by decide +kernel) h) (fun h => cw_ft_ok (by decide +kernel) h))
theorem ok_M_areAlike (pc : Nat) (q : cw_A) (h : cw_cd k_M_areAlike pc = some q) : cw_okb k_M_areAlike q = true ∧ q.1 = pc := by
  have h : t_M_areAlike pc = some q := h
  exact cw_bif h (fun h => cw_ft_ok (by decide +kernel) h) (fun h => cw_ft_ok (by decide +kernel) h)
theorem ok_M_unlike (pc : Nat) (q : cw_A) (h : cw_cd k_M_unlike pc = some q) : cw_okb k_M_unlike q = true ∧ q.1 = pc := by
  have h : t_M_unlike pc = some q := h
  exact cw_bif h (fun h => cw_bif h (fun h => cw_ft_ok (by decide +kernel) h) (fun h => cw_ft_ok (by decide +kernel) h)) (fun h => cw_ft_ok (by decide +kernel) h)
theorem ok_M_laysMarks (pc : Nat) (q : cw_A) (h : cw_cd k_M_laysMarks pc = some q) : cw_okb k_M_laysMarks q = true ∧ q.1 = pc := by
  have h : t_M_laysMarks pc = some q := h
  exact cw_bif h (fun h => cw_bif h (fun h => cw_ft_ok (by decide +kernel) h) (fun h => cw_ft_ok (by decide +kernel) h)) (fun h => cw_ft_ok (by decide +kernel) h)
theorem ok_M_settles (pc : Nat) (q : cw_A) (h : cw_cd k_M_settles pc = some q) : cw_okb k_M_settles q = true ∧ q.1 = pc := by
  have h : t_M_settles pc = some q := h
  exact cw_bif h (fun h => cw_ft_ok (by decide +kernel) h) (fun h => cw_ft_ok (by decide +kernel) h)
theorem ok_M_settle (pc : Nat) (q : cw_A) (h : cw_cd k_M_settle pc = some q) : cw_okb k_M_settle q = true ∧ q.1 = pc := by
  have h : t_M_settle pc = some q := h
  exact cw_bif h (fun h => cw_bif h (fun h => cw_bif h (fun h => cw_ft_ok (by decide +kernel) h) (fun h => cw_ft_ok (by decide +kernel) h)) (fun h => cw_bif h (fun h => cw_ft_ok (by decide +kernel) h) (fun h => cw_ft_ok (by decide +kernel) h))) (fun h => cw_bif h (fun h => cw_bif h (fun h => cw_ft_ok (by decide +kernel) h) (fun h => cw_ft_ok (by decide +kernel) h)) (fun h => cw_ft_ok (by decide +kernel) h))
theorem ok_M_leastOf (pc : Nat) (q : cw_A) (h : cw_cd k_M_leastOf pc = some q) : cw_okb k_M_leastOf q = true ∧ q.1 = pc := by
  have h : t_M_leastOf pc = some q := h
  exact cw_bif h (fun h => cw_ft_ok (by decide +kernel) h) (fun h => cw_ft_ok (by decide +kernel) h)
theorem ok_M_fair (pc : Nat) (q : cw_A) (h : cw_cd k_M_fair pc = some q) : cw_okb k_M_fair q = true ∧ q.1 = pc := by
  have h : t_M_fair pc = some q := h
  exact cw_bif h (fun h => cw_bif h (fun h => cw_ft_ok (by decide +kernel) h) (fun h => cw_ft_ok (by decide +kernel) h)) (fun h => cw_ft_ok (by decide +kernel) h)
theorem ok_M_told (pc : Nat) (q : cw_A) (h : cw_cd k_M_told pc = some q) : cw_okb k_M_told q = true ∧ q.1 = pc := by
  have h : t_M_told pc = some q := h
  exact cw_bif h (fun h => cw_bif h (fun h => cw_ft_ok (by decide +kernel) h) (fun h => cw_ft_ok (by decide +kernel) h)) (fun h => cw_ft_ok (by decide +kernel) h)
theorem ok_M_isSo (pc : Nat) (q : cw_A) (h : cw_cd k_M_isSo pc = some q) : cw_okb k_M_isSo q = true ∧ q.1 = pc := by
  have h : t_M_isSo pc = some q := h
  exact cw_bif h (fun h => cw_bif h (fun h => cw_ft_ok (by decide +kernel) h) (fun h => cw_ft_ok (by decide +kernel) h)) (fun h => cw_ft_ok (by decide +kernel) h)
theorem ok_M_fits (pc : Nat) (q : cw_A) (h : cw_cd k_M_fits pc = some q) : cw_okb k_M_fits q = true ∧ q.1 = pc := by
  have h : t_M_fits pc = some q := h
  exact cw_bif h (fun h => cw_ft_ok (by decide +kernel) h) (fun h => cw_ft_ok (by decide +kernel) h)
theorem ok_M_mostAlike (pc : Nat) (q : cw_A) (h : cw_cd k_M_mostAlike pc = some q) : cw_okb k_M_mostAlike q = true ∧ q.1 = pc := by
  have h : t_M_mostAlike pc = some q := h
  exact cw_bif h (fun h => cw_bif h (fun h => cw_ft_ok (by decide +kernel) h) (fun h => cw_ft_ok (by decide +kernel) h)) (fun h => cw_ft_ok (by decide +kernel) h)
theorem ok_M_ask (pc : Nat) (q : cw_A) (h : cw_cd k_M_ask pc = some q) : cw_okb k_M_ask q = true ∧ q.1 = pc := by
  have h : t_M_ask pc = some q := h
  exact cw_bif h (fun h => cw_bif h (fun h => cw_ft_ok (by decide +kernel) h) (fun h => cw_ft_ok (by decide +kernel) h)) (fun h => cw_ft_ok (by decide +kernel) h)
theorem ok_M_judge (pc : Nat) (q : cw_A) (h : cw_cd k_M_judge pc = some q) : cw_okb k_M_judge q = true ∧ q.1 = pc := by
  have h : t_M_judge pc = some q := h
  exact cw_bif h (fun h => cw_bif h (fun h => cw_ft_ok (by decide +kernel) h) (fun h => cw_ft_ok (by decide +kernel) h)) (fun h => cw_ft_ok (by decide +kernel) h)
theorem ok_M_judgesFor (pc : Nat) (q : cw_A) (h : cw_cd k_M_judgesFor pc = some q) : cw_okb k_M_judgesFor q = true ∧ q.1 = pc := by
  have h : t_M_judgesFor pc = some q := h
  exact cw_bif h (fun h => cw_bif h (fun h => cw_ft_ok (by decide +kernel) h) (fun h => cw_ft_ok (by decide +kernel) h)) (fun h => cw_ft_ok (by decide +kernel) h)
theorem ok_M_ruled (pc : Nat) (q : cw_A) (h : cw_cd k_M_ruled pc = some q) : cw_okb k_M_ruled q = true ∧ q.1 = pc := by
  have h : t_M_ruled pc = some q := h
  exact cw_bif h (fun h => cw_bif h (fun h => cw_ft_ok (by decide +kernel) h) (fun h => cw_ft_ok (by decide +kernel) h)) (fun h => cw_bif h (fun h => cw_ft_ok (by decide +kernel) h) (fun h => cw_ft_ok (by decide +kernel) h))
theorem ok_M_forget (pc : Nat) (q : cw_A) (h : cw_cd k_M_forget pc = some q) : cw_okb k_M_forget q = true ∧ q.1 = pc := by
  have h : t_M_forget pc = some q := h
  exact cw_bif h (fun h => cw_ft_ok (by decide +kernel) h) (fun h => cw_ft_ok (by decide +kernel) h)
theorem ok_M_few (pc : Nat) (q : cw_A) (h : cw_cd k_M_few pc = some q) : cw_okb k_M_few q = true ∧ q.1 = pc := by
  have h : t_M_few pc = some q := h
  exact cw_bif h (fun h => cw_bif h (fun h => cw_bif h (fun h => cw_ft_ok (by decide +kernel) h) (fun h => cw_ft_ok (by decide +kernel) h)) (fun h => cw_ft_ok (by decide +kernel) h)) (fun h => cw_bif h (fun h => cw_bif h (fun h => cw_ft_ok (by decide +kernel) h) (fun h => cw_ft_ok (by decide +kernel) h)) (fun h => cw_ft_ok (by decide +kernel) h))
theorem ok_M_keeps (pc : Nat) (q : cw_A) (h : cw_cd k_M_keeps pc = some q) : cw_okb k_M_keeps q = true ∧ q.1 = pc := by
  have h : t_M_keeps pc = some q := h
  exact cw_bif h (fun h => cw_bif h (fun h => cw_ft_ok (by decide +kernel) h) (fun h => cw_ft_ok (by decide +kernel) h)) (fun h => cw_bif h (fun h => cw_ft_ok (by decide +kernel) h) (fun h => cw_ft_ok (by decide +kernel) h))
