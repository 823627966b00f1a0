theorem ok_Su_evaluate (pc : Nat) (q : cw_A) (h : cw_cd k_Su_evaluate pc = some q) : cw_okb k_Su_evaluate q = true ∧ q.1 = pc := by
  have h : t_Su_evaluate pc = some q := h
  exact cw_bif h (fun h => cw_bif h (fun h => cw_bif h (fun h => cw_bif h (fun h => cw_ft_ok (by decide +kernel) h) (fun h => cw_ft_ok (by decide +kernel) h)) (fun h => cw_ft_ok (by decide +kernel) h)) (fun h => cw_bif h (fun h => cw_ft_ok (by decide +kernel) h) (fun h => cw_ft_ok (by decide +kernel) h))) (fun h => cw_bif h (fun h => cw_bif h (fun h => cw_ft_ok (by decide +kernel) h) (fun h => cw_ft_ok (by decide +kernel) h)) (fun h => cw_bif h (fun h => cw_ft_ok (by decide +kernel) h) (fun h => cw_ft_ok (by decide +kernel) h)))
theorem ok_Su_combine (pc : Nat) (q : cw_A) (h : cw_cd k_Su_combine pc = some q) : cw_okb k_Su_combine q = true ∧ q.1 = pc := by
  have h : t_Su_combine pc = some q := h
  exact cw_bif h (fun h => cw_bif h (fun h => cw_ft_ok (by decide +kernel) h) (fun h => cw_ft_ok (by decide +kernel) h)) (fun h => cw_bif h (fun h => cw_ft_ok (by decide +kernel) h) (fun h => cw_ft_ok (by decide +kernel) h))
theorem ok_Te_init (pc : Nat) (q : cw_A) (h : cw_cd k_Te_init pc = some q) : cw_okb k_Te_init q = true ∧ q.1 = pc := by
  have h : t_Te_init pc = some q := h
  exact cw_bif h (fun h => cw_ft_ok (by decide +kernel) h) (fun h => cw_ft_ok (by decide +kernel) h)
theorem ok_Te_init1 (pc : Nat) (q : cw_A) (h : cw_cd k_Te_init1 pc = some q) : cw_okb k_Te_init1 q = true ∧ q.1 = pc := by
  have h : t_Te_init1 pc = some q := h
  exact cw_bif h (fun h => cw_bif h (fun h => cw_bif h (fun h => cw_ft_ok (by decide +kernel) h) (fun h => cw_ft_ok (by decide +kernel) h)) (fun h => cw_bif h (fun h => cw_ft_ok (by decide +kernel) h) (fun h => cw_ft_ok (by decide +kernel) h))) (fun h => cw_bif h (fun h => cw_bif h (fun h => cw_ft_ok (by decide +kernel) h) (fun h => cw_ft_ok (by decide +kernel) h)) (fun h => cw_ft_ok (by decide +kernel) h))
theorem ok_Te_emit (pc : Nat) (q : cw_A) (h : cw_cd k_Te_emit pc = some q) : cw_okb k_Te_emit q = true ∧ q.1 = pc := by
  have h : t_Te_emit pc = some q := h
  exact cw_bif h (fun h => cw_ft_ok (by decide +kernel) h) (fun h => cw_ft_ok (by decide +kernel) h)
theorem ok_Te_skipToHere (pc : Nat) (q : cw_A) (h : cw_cd k_Te_skipToHere pc = some q) : cw_okb k_Te_skipToHere q = true ∧ q.1 = pc := by
  have h : t_Te_skipToHere pc = some q := h
  exact cw_bif h (fun h => cw_ft_ok (by decide +kernel) h) (fun h => cw_ft_ok (by decide +kernel) h)
theorem ok_Wi_init (pc : Nat) (q : cw_A) (h : cw_cd k_Wi_init pc = some q) : cw_okb k_Wi_init q = true ∧ q.1 = pc := by
  have h : t_Wi_init pc = some q := h
  exact cw_bif h (fun h => cw_bif h (fun h => cw_ft_ok (by decide +kernel) h) (fun h => cw_ft_ok (by decide +kernel) h)) (fun h => cw_bif h (fun h => cw_ft_ok (by decide +kernel) h) (fun h => cw_ft_ok (by decide +kernel) h))
theorem ok_Wi_copyFrom (pc : Nat) (q : cw_A) (h : cw_cd k_Wi_copyFrom pc = some q) : cw_okb k_Wi_copyFrom q = true ∧ q.1 = pc := by
  have h : t_Wi_copyFrom pc = some q := h
  exact cw_bif h (fun h => cw_bif h (fun h => cw_bif h (fun h => cw_ft_ok (by decide +kernel) h) (fun h => cw_ft_ok (by decide +kernel) h)) (fun h => cw_ft_ok (by decide +kernel) h)) (fun h => cw_bif h (fun h => cw_bif h (fun h => cw_ft_ok (by decide +kernel) h) (fun h => cw_ft_ok (by decide +kernel) h)) (fun h => cw_ft_ok (by decide +kernel) h))
theorem ok_Wi_canJoin (pc : Nat) (q : cw_A) (h : cw_cd k_Wi_canJoin pc = some q) : cw_okb k_Wi_canJoin q = true ∧ q.1 = pc := by
  have h : t_Wi_canJoin pc = some q := h
  exact cw_bif h (fun h => cw_ft_ok (by decide +kernel) h) (fun h => cw_ft_ok (by decide +kernel) h)
theorem ok_Wi_append (pc : Nat) (q : cw_A) (h : cw_cd k_Wi_append pc = some q) : cw_okb k_Wi_append q = true ∧ q.1 = pc := by
  have h : t_Wi_append pc = some q := h
  exact cw_bif h (fun h => cw_ft_ok (by decide +kernel) h) (fun h => cw_ft_ok (by decide +kernel) h)
theorem ok_Wi_hasJoin (pc : Nat) (q : cw_A) (h : cw_cd k_Wi_hasJoin pc = some q) : cw_okb k_Wi_hasJoin q = true ∧ q.1 = pc := by
  have h : t_Wi_hasJoin pc = some q := h
  exact cw_ft_ok (by decide +kernel) h
theorem ok_Wi_timesOf (pc : Nat) (q : cw_A) (h : cw_cd k_Wi_timesOf pc = some q) : cw_okb k_Wi_timesOf q = true ∧ q.1 = pc := by
  have h : t_Wi_timesOf pc = some q := h
  exact cw_bif h (fun h => cw_ft_ok (by decide +kernel) h) (fun h => cw_ft_ok (by decide +kernel) h)
theorem ok_Wi_namedMask (pc : Nat) (q : cw_A) (h : cw_cd k_Wi_namedMask pc = some q) : cw_okb k_Wi_namedMask q = true ∧ q.1 = pc := by
  have h : t_Wi_namedMask pc = some q := h
  exact cw_ft_ok (by decide +kernel) h
theorem ok_Wi_lawOf (pc : Nat) (q : cw_A) (h : cw_cd k_Wi_lawOf pc = some q) : cw_okb k_Wi_lawOf q = true ∧ q.1 = pc := by
  have h : t_Wi_lawOf pc = some q := h
  exact cw_ft_ok (by decide +kernel) h
theorem ok_C_init (pc : Nat) (q : cw_A) (h : cw_cd k_C_init pc = some q) : cw_okb k_C_init q = true ∧ q.1 = pc := by
  have h : t_C_init pc = some q := h
  exact cw_bif h (fun h => cw_bif h (fun h => cw_bif h (fun h => cw_ft_ok (by decide +kernel) h) (fun h => cw_ft_ok (by decide +kernel) h)) (fun h => cw_ft_ok (by decide +kernel) h)) (fun h => cw_bif h (fun h => cw_bif h (fun h => cw_ft_ok (by decide +kernel) h) (fun h => cw_ft_ok (by decide +kernel) h)) (fun h => cw_ft_ok (by decide +kernel) h))
theorem ok_C_name (pc : Nat) (q : cw_A) (h : cw_cd k_C_name pc = some q) : cw_okb k_C_name q = true ∧ q.1 = pc := by
  have h : t_C_name pc = some q := h
  exact cw_bif h (fun h => cw_bif h (fun h => cw_ft_ok (by decide +kernel) h) (fun h => cw_ft_ok (by decide +kernel) h)) (fun h => cw_ft_ok (by decide +kernel) h)
theorem ok_C_who (pc : Nat) (q : cw_A) (h : cw_cd k_C_who pc = some q) : cw_okb k_C_who q = true ∧ q.1 = pc := by
  have h : t_C_who pc = some q := h
  exact cw_ft_ok (by decide +kernel) h
theorem ok_C_join (pc : Nat) (q : cw_A) (h : cw_cd k_C_join pc = some q) : cw_okb k_C_join q = true ∧ q.1 = pc := by
  have h : t_C_join pc = some q := h
  exact cw_bif h (fun h => cw_ft_ok (by decide +kernel) h) (fun h => cw_ft_ok (by decide +kernel) h)
theorem ok_C_of (pc : Nat) (q : cw_A) (h : cw_cd k_C_of pc = some q) : cw_okb k_C_of q = true ∧ q.1 = pc := by
  have h : t_C_of pc = some q := h
  exact cw_bif h (fun h => cw_bif h (fun h => cw_ft_ok (by decide +kernel) h) (fun h => cw_ft_ok (by decide +kernel) h)) (fun h => cw_ft_ok (by decide +kernel) h)
theorem ok_C_terms (pc : Nat) (q : cw_A) (h : cw_cd k_C_terms pc = some q) : cw_okb k_C_terms q = true ∧ q.1 = pc := by
  have h : t_C_terms pc = some q := h
  exact cw_bif h (fun h => cw_bif h (fun h => cw_ft_ok (by decide +kernel) h) (fun h => cw_ft_ok (by decide +kernel) h)) (fun h => cw_ft_ok (by decide +kernel) h)
theorem ok_C_feed (pc : Nat) (q : cw_A) (h : cw_cd k_C_feed pc = some q) : cw_okb k_C_feed q = true ∧ q.1 = pc := by
  have h : t_C_feed pc = some q := h
  exact cw_bif h (fun h => cw_bif h (fun h => cw_ft_ok (by decide +kernel) h) (fun h => cw_ft_ok (by decide +kernel) h)) (fun h => cw_ft_ok (by decide +kernel) h)
theorem ok_C_end (pc : Nat) (q : cw_A) (h : cw_cd k_C_end pc = some q) : cw_okb k_C_end q = true ∧ q.1 = pc := by
  have h : t_C_end pc = some q := h
  exact cw_ft_ok (by decide +kernel) h
theorem ok_C_row (pc : Nat) (q : cw_A) (h : cw_cd k_C_row pc = some q) : cw_okb k_C_row q = true ∧ q.1 = pc := by
  have h : t_C_row pc = some q := h
  exact cw_bif h (fun h => cw_bif h (fun h => cw_ft_ok (by decide +kernel) h) (fun h => cw_ft_ok (by decide +kernel) h)) (fun h => cw_ft_ok (by decide +kernel) h)
theorem ok_C_blots (pc : Nat) (q : cw_A) (h : cw_cd k_C_blots pc = some q) : cw_okb k_C_blots q = true ∧ q.1 = pc := by
  have h : t_C_blots pc = some q := h
  exact cw_ft_ok (by decide +kernel) h
theorem ok_C_law (pc : Nat) (q : cw_A) (h : cw_cd k_C_law pc = some q) : cw_okb k_C_law q = true ∧ q.1 = pc := by
  have h : t_C_law pc = some q := h
  exact cw_bif h (fun h => cw_bif h (fun h => cw_ft_ok (by decide +kernel) h) (fun h => cw_ft_ok (by decide +kernel) h)) (fun h => cw_bif h (fun h => cw_ft_ok (by decide +kernel) h) (fun h => cw_ft_ok (by decide +kernel) h))
theorem ok_C_orders (pc : Nat) (q : cw_A) (h : cw_cd k_C_orders pc = some q) : cw_okb k_C_orders q = true ∧ q.1 = pc := by
  have h : t_C_orders pc = some q := h
  exact cw_bif h (fun h => cw_bif h (fun h => cw_ft_ok (by decide +kernel) h) (fun h => cw_ft_ok (by decide +kernel) h)) (fun h => cw_bif h (fun h => cw_ft_ok (by decide +kernel) h) (fun h => cw_ft_ok (by decide +kernel) h))
theorem ok_C_fault (pc : Nat) (q : cw_A) (h : cw_cd k_C_fault pc = some q) : cw_okb k_C_fault q = true ∧ q.1 = pc := by
  have h : t_C_fault pc = some q := h
  exact cw_ft_ok (by decide +kernel) h
theorem ok_C_stopped (pc : Nat) (q : cw_A) (h : cw_cd k_C_stopped pc = some q) : cw_okb k_C_stopped q = true ∧ q.1 = pc := by
  have h : t_C_stopped pc = some q := h
  exact cw_ft_ok (by decide +kernel) h
theorem ok_C_force (pc : Nat) (q : cw_A) (h : cw_cd k_C_force pc = some q) : cw_okb k_C_force q = true ∧ q.1 = pc := by
  have h : t_C_force pc = some q := h
  exact cw_bif h (fun h => cw_ft_ok (by decide +kernel) h) (fun h => cw_ft_ok (by decide +kernel) h)
theorem ok_C_mark (pc : Nat) (q : cw_A) (h : cw_cd k_C_mark pc = some q) : cw_okb k_C_mark q = true ∧ q.1 = pc := by
  have h : t_C_mark pc = some q := h
  exact cw_ft_ok (by decide +kernel) h
theorem ok_C_turn (pc : Nat) (q : cw_A) (h : cw_cd k_C_turn pc = some q) : cw_okb k_C_turn q = true ∧ q.1 = pc := by
  have h : t_C_turn pc = some q := h
  exact cw_ft_ok (by decide +kernel) h
theorem ok_C_die (pc : Nat) (q : cw_A) (h : cw_cd k_C_die pc = some q) : cw_okb k_C_die q = true ∧ q.1 = pc := by
  have h : t_C_die pc = some q := h
  exact cw_ft_ok (by decide +kernel) h
theorem ok_C_pass (pc : Nat) (q : cw_A) (h : cw_cd k_C_pass pc = some q) : cw_okb k_C_pass q = true ∧ q.1 = pc := by
  have h : t_C_pass pc = some q := h
  exact cw_ft_ok (by decide +kernel) h
theorem ok_C_undo (pc : Nat) (q : cw_A) (h : cw_cd k_C_undo pc = some q) : cw_okb k_C_undo q = true ∧ q.1 = pc := by
  have h : t_C_undo pc = some q := h
  exact cw_bif h (fun h => cw_bif h (fun h => cw_bif h (fun h => cw_ft_ok (by decide +kernel) h) (fun h => cw_ft_ok (by decide +kernel) h)) (fun h => cw_ft_ok (by decide +kernel) h)) (fun h => cw_bif h (fun h => cw_bif h (fun h => cw_ft_ok (by decide +kernel) h) (fun h => cw_ft_ok (by decide +kernel) h)) (fun h => cw_ft_ok (by decide +kernel) h))
theorem ok_C_readings (pc : Nat) (q : cw_A) (h : cw_cd k_C_readings pc = some q) : cw_okb k_C_readings q = true ∧ q.1 = pc := by
  have h : t_C_readings pc = some q := h
  exact cw_ft_ok (by decide +kernel) h
