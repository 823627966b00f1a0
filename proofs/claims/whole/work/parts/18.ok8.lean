theorem ok_M_undo (pc : Nat) (q : cw_A) (h : cw_cd k_M_undo pc = some q) : cw_okb k_M_undo q = true ∧ q.1 = pc := by
  have h : t_M_undo pc = some q := h
  exact cw_bif h (fun h => cw_bif h (fun h => cw_ft_ok (by decide +kernel) h) (fun h => cw_ft_ok (by decide +kernel) h)) (fun h => cw_ft_ok (by decide +kernel) h)
theorem ok_M_goodOr (pc : Nat) (q : cw_A) (h : cw_cd k_M_goodOr pc = some q) : cw_okb k_M_goodOr q = true ∧ q.1 = pc := by
  have h : t_M_goodOr pc = some q := h
  exact cw_ft_ok (by decide +kernel) h
theorem ok_M_marksKept (pc : Nat) (q : cw_A) (h : cw_cd k_M_marksKept pc = some q) : cw_okb k_M_marksKept q = true ∧ q.1 = pc := by
  have h : t_M_marksKept pc = some q := h
  exact cw_bif h (fun h => cw_ft_ok (by decide +kernel) h) (fun h => cw_ft_ok (by decide +kernel) h)
theorem ok_M_turnsKept (pc : Nat) (q : cw_A) (h : cw_cd k_M_turnsKept pc = some q) : cw_okb k_M_turnsKept q = true ∧ q.1 = pc := by
  have h : t_M_turnsKept pc = some q := h
  exact cw_bif h (fun h => cw_ft_ok (by decide +kernel) h) (fun h => cw_ft_ok (by decide +kernel) h)
theorem ok_M_diesKept (pc : Nat) (q : cw_A) (h : cw_cd k_M_diesKept pc = some q) : cw_okb k_M_diesKept q = true ∧ q.1 = pc := by
  have h : t_M_diesKept pc = some q := h
  exact cw_bif h (fun h => cw_ft_ok (by decide +kernel) h) (fun h => cw_ft_ok (by decide +kernel) h)
theorem ok_M_passesKept (pc : Nat) (q : cw_A) (h : cw_cd k_M_passesKept pc = some q) : cw_okb k_M_passesKept q = true ∧ q.1 = pc := by
  have h : t_M_passesKept pc = some q := h
  exact cw_bif h (fun h => cw_ft_ok (by decide +kernel) h) (fun h => cw_ft_ok (by decide +kernel) h)
theorem ok_M_mark (pc : Nat) (q : cw_A) (h : cw_cd k_M_mark pc = some q) : cw_okb k_M_mark q = true ∧ q.1 = pc := by
  have h : t_M_mark pc = some q := h
  exact cw_ft_ok (by decide +kernel) h
theorem ok_M_turn (pc : Nat) (q : cw_A) (h : cw_cd k_M_turn pc = some q) : cw_okb k_M_turn q = true ∧ q.1 = pc := by
  have h : t_M_turn pc = some q := h
  exact cw_ft_ok (by decide +kernel) h
theorem ok_M_die (pc : Nat) (q : cw_A) (h : cw_cd k_M_die pc = some q) : cw_okb k_M_die q = true ∧ q.1 = pc := by
  have h : t_M_die pc = some q := h
  exact cw_ft_ok (by decide +kernel) h
theorem ok_M_pass (pc : Nat) (q : cw_A) (h : cw_cd k_M_pass pc = some q) : cw_okb k_M_pass q = true ∧ q.1 = pc := by
  have h : t_M_pass pc = some q := h
  exact cw_ft_ok (by decide +kernel) h
theorem ok_M_stopped (pc : Nat) (q : cw_A) (h : cw_cd k_M_stopped pc = some q) : cw_okb k_M_stopped q = true ∧ q.1 = pc := by
  have h : t_M_stopped pc = some q := h
  exact cw_ft_ok (by decide +kernel) h
theorem ok_M_orders (pc : Nat) (q : cw_A) (h : cw_cd k_M_orders pc = some q) : cw_okb k_M_orders q = true ∧ q.1 = pc := by
  have h : t_M_orders pc = some q := h
  exact cw_bif h (fun h => cw_bif h (fun h => cw_bif h (fun h => cw_ft_ok (by decide +kernel) h) (fun h => cw_ft_ok (by decide +kernel) h)) (fun h => cw_ft_ok (by decide +kernel) h)) (fun h => cw_bif h (fun h => cw_bif h (fun h => cw_ft_ok (by decide +kernel) h) (fun h => cw_ft_ok (by decide +kernel) h)) (fun h => cw_ft_ok (by decide +kernel) h))
theorem ok_M_goesAlong (pc : Nat) (q : cw_A) (h : cw_cd k_M_goesAlong pc = some q) : cw_okb k_M_goesAlong q = true ∧ q.1 = pc := by
  have h : t_M_goesAlong pc = some q := h
  exact cw_bif h (fun h => cw_bif h (fun h => cw_bif h (fun h => cw_ft_ok (by decide +kernel) h) (fun h => cw_ft_ok (by decide +kernel) h)) (fun h => cw_bif h (fun h => cw_ft_ok (by decide +kernel) h) (fun h => cw_ft_ok (by decide +kernel) h))) (fun h => cw_bif h (fun h => cw_bif h (fun h => cw_ft_ok (by decide +kernel) h) (fun h => cw_ft_ok (by decide +kernel) h)) (fun h => cw_bif h (fun h => cw_ft_ok (by decide +kernel) h) (fun h => cw_ft_ok (by decide +kernel) h)))
theorem ok_M_small (pc : Nat) (q : cw_A) (h : cw_cd k_M_small pc = some q) : cw_okb k_M_small q = true ∧ q.1 = pc := by
  have h : t_M_small pc = some q := h
  exact cw_ft_ok (by decide +kernel) h
theorem ok_M_obeys (pc : Nat) (q : cw_A) (h : cw_cd k_M_obeys pc = some q) : cw_okb k_M_obeys q = true ∧ q.1 = pc := by
  have h : t_M_obeys pc = some q := h
  exact cw_bif h (fun h => cw_bif h (fun h => cw_ft_ok (by decide +kernel) h) (fun h => cw_ft_ok (by decide +kernel) h)) (fun h => cw_bif h (fun h => cw_ft_ok (by decide +kernel) h) (fun h => cw_ft_ok (by decide +kernel) h))
theorem ok_M_runs (pc : Nat) (q : cw_A) (h : cw_cd k_M_runs pc = some q) : cw_okb k_M_runs q = true ∧ q.1 = pc := by
  have h : t_M_runs pc = some q := h
  exact cw_bif h (fun h => cw_bif h (fun h => cw_ft_ok (by decide +kernel) h) (fun h => cw_ft_ok (by decide +kernel) h)) (fun h => cw_ft_ok (by decide +kernel) h)
theorem ok_M_draws (pc : Nat) (q : cw_A) (h : cw_cd k_M_draws pc = some q) : cw_okb k_M_draws q = true ∧ q.1 = pc := by
  have h : t_M_draws pc = some q := h
  exact cw_ft_ok (by decide +kernel) h
theorem ok_M_years (pc : Nat) (q : cw_A) (h : cw_cd k_M_years pc = some q) : cw_okb k_M_years q = true ∧ q.1 = pc := by
  have h : t_M_years pc = some q := h
  exact cw_bif h (fun h => cw_bif h (fun h => cw_bif h (fun h => cw_ft_ok (by decide +kernel) h) (fun h => cw_ft_ok (by decide +kernel) h)) (fun h => cw_ft_ok (by decide +kernel) h)) (fun h => cw_bif h (fun h => cw_bif h (fun h => cw_ft_ok (by decide +kernel) h) (fun h => cw_ft_ok (by decide +kernel) h)) (fun h => cw_ft_ok (by decide +kernel) h))
theorem ok_M_drawn (pc : Nat) (q : cw_A) (h : cw_cd k_M_drawn pc = some q) : cw_okb k_M_drawn q = true ∧ q.1 = pc := by
  have h : t_M_drawn pc = some q := h
  exact cw_ft_ok (by decide +kernel) h
theorem ok_M_count (pc : Nat) (q : cw_A) (h : cw_cd k_M_count pc = some q) : cw_okb k_M_count q = true ∧ q.1 = pc := by
  have h : t_M_count pc = some q := h
  exact cw_bif h (fun h => cw_bif h (fun h => cw_bif h (fun h => cw_ft_ok (by decide +kernel) h) (fun h => cw_ft_ok (by decide +kernel) h)) (fun h => cw_ft_ok (by decide +kernel) h)) (fun h => cw_bif h (fun h => cw_ft_ok (by decide +kernel) h) (fun h => cw_ft_ok (by decide +kernel) h))
theorem ok_M_status (pc : Nat) (q : cw_A) (h : cw_cd k_M_status pc = some q) : cw_okb k_M_status q = true ∧ q.1 = pc := by
  have h : t_M_status pc = some q := h
  exact cw_ft_ok (by decide +kernel) h
