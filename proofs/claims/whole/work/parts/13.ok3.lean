theorem ok_C_depth (pc : Nat) (q : cw_A) (h : cw_cd k_C_depth pc = some q) : cw_okb k_C_depth q = true ∧ q.1 = pc := by
  have h : t_C_depth pc = some q := h
  exact cw_bif h (fun h => cw_ft_ok (by decide +kernel) h) (fun h => cw_ft_ok (by decide +kernel) h)
theorem ok_C_gets (pc : Nat) (q : cw_A) (h : cw_cd k_C_gets pc = some q) : cw_okb k_C_gets q = true ∧ q.1 = pc := by
  have h : t_C_gets pc = some q := h
  exact cw_bif h (fun h => cw_ft_ok (by decide +kernel) h) (fun h => cw_ft_ok (by decide +kernel) h)
theorem ok_C_lost (pc : Nat) (q : cw_A) (h : cw_cd k_C_lost pc = some q) : cw_okb k_C_lost q = true ∧ q.1 = pc := by
  have h : t_C_lost pc = some q := h
  exact cw_bif h (fun h => cw_ft_ok (by decide +kernel) h) (fun h => cw_ft_ok (by decide +kernel) h)
theorem ok_C_range (pc : Nat) (q : cw_A) (h : cw_cd k_C_range pc = some q) : cw_okb k_C_range q = true ∧ q.1 = pc := by
  have h : t_C_range pc = some q := h
  exact cw_bif h (fun h => cw_bif h (fun h => cw_ft_ok (by decide +kernel) h) (fun h => cw_ft_ok (by decide +kernel) h)) (fun h => cw_bif h (fun h => cw_ft_ok (by decide +kernel) h) (fun h => cw_ft_ok (by decide +kernel) h))
theorem ok_C_unlike (pc : Nat) (q : cw_A) (h : cw_cd k_C_unlike pc = some q) : cw_okb k_C_unlike q = true ∧ q.1 = pc := by
  have h : t_C_unlike pc = some q := h
  exact cw_bif h (fun h => cw_bif h (fun h => cw_ft_ok (by decide +kernel) h) (fun h => cw_ft_ok (by decide +kernel) h)) (fun h => cw_ft_ok (by decide +kernel) h)
theorem ok_C_settle (pc : Nat) (q : cw_A) (h : cw_cd k_C_settle pc = some q) : cw_okb k_C_settle q = true ∧ q.1 = pc := by
  have h : t_C_settle pc = some q := h
  exact cw_bif h (fun h => cw_bif h (fun h => cw_bif h (fun h => cw_ft_ok (by decide +kernel) h) (fun h => cw_ft_ok (by decide +kernel) h)) (fun h => cw_ft_ok (by decide +kernel) h)) (fun h => cw_bif h (fun h => cw_ft_ok (by decide +kernel) h) (fun h => cw_ft_ok (by decide +kernel) h))
theorem ok_C_fair (pc : Nat) (q : cw_A) (h : cw_cd k_C_fair pc = some q) : cw_okb k_C_fair q = true ∧ q.1 = pc := by
  have h : t_C_fair pc = some q := h
  exact cw_bif h (fun h => cw_bif h (fun h => cw_ft_ok (by decide +kernel) h) (fun h => cw_ft_ok (by decide +kernel) h)) (fun h => cw_bif h (fun h => cw_ft_ok (by decide +kernel) h) (fun h => cw_ft_ok (by decide +kernel) h))
theorem ok_C_told (pc : Nat) (q : cw_A) (h : cw_cd k_C_told pc = some q) : cw_okb k_C_told q = true ∧ q.1 = pc := by
  have h : t_C_told pc = some q := h
  exact cw_bif h (fun h => cw_bif h (fun h => cw_ft_ok (by decide +kernel) h) (fun h => cw_ft_ok (by decide +kernel) h)) (fun h => cw_bif h (fun h => cw_ft_ok (by decide +kernel) h) (fun h => cw_ft_ok (by decide +kernel) h))
theorem ok_C_fits (pc : Nat) (q : cw_A) (h : cw_cd k_C_fits pc = some q) : cw_okb k_C_fits q = true ∧ q.1 = pc := by
  have h : t_C_fits pc = some q := h
  exact cw_bif h (fun h => cw_ft_ok (by decide +kernel) h) (fun h => cw_ft_ok (by decide +kernel) h)
theorem ok_C_ask (pc : Nat) (q : cw_A) (h : cw_cd k_C_ask pc = some q) : cw_okb k_C_ask q = true ∧ q.1 = pc := by
  have h : t_C_ask pc = some q := h
  exact cw_bif h (fun h => cw_bif h (fun h => cw_ft_ok (by decide +kernel) h) (fun h => cw_ft_ok (by decide +kernel) h)) (fun h => cw_ft_ok (by decide +kernel) h)
theorem ok_C_judge (pc : Nat) (q : cw_A) (h : cw_cd k_C_judge pc = some q) : cw_okb k_C_judge q = true ∧ q.1 = pc := by
  have h : t_C_judge pc = some q := h
  exact cw_bif h (fun h => cw_bif h (fun h => cw_ft_ok (by decide +kernel) h) (fun h => cw_ft_ok (by decide +kernel) h)) (fun h => cw_ft_ok (by decide +kernel) h)
theorem ok_C_ruled (pc : Nat) (q : cw_A) (h : cw_cd k_C_ruled pc = some q) : cw_okb k_C_ruled q = true ∧ q.1 = pc := by
  have h : t_C_ruled pc = some q := h
  exact cw_bif h (fun h => cw_bif h (fun h => cw_bif h (fun h => cw_ft_ok (by decide +kernel) h) (fun h => cw_ft_ok (by decide +kernel) h)) (fun h => cw_ft_ok (by decide +kernel) h)) (fun h => cw_bif h (fun h => cw_ft_ok (by decide +kernel) h) (fun h => cw_ft_ok (by decide +kernel) h))
theorem ok_C_forget (pc : Nat) (q : cw_A) (h : cw_cd k_C_forget pc = some q) : cw_okb k_C_forget q = true ∧ q.1 = pc := by
  have h : t_C_forget pc = some q := h
  exact cw_bif h (fun h => cw_ft_ok (by decide +kernel) h) (fun h => cw_ft_ok (by decide +kernel) h)
theorem ok_C_few (pc : Nat) (q : cw_A) (h : cw_cd k_C_few pc = some q) : cw_okb k_C_few q = true ∧ q.1 = pc := by
  have h : t_C_few pc = some q := h
  exact cw_bif h (fun h => cw_bif h (fun h => cw_bif h (fun h => cw_ft_ok (by decide +kernel) h) (fun h => cw_ft_ok (by decide +kernel) h)) (fun h => cw_ft_ok (by decide +kernel) h)) (fun h => cw_bif h (fun h => cw_bif h (fun h => cw_ft_ok (by decide +kernel) h) (fun h => cw_ft_ok (by decide +kernel) h)) (fun h => cw_ft_ok (by decide +kernel) h))
theorem ok_C_compare (pc : Nat) (q : cw_A) (h : cw_cd k_C_compare pc = some q) : cw_okb k_C_compare q = true ∧ q.1 = pc := by
  have h : t_C_compare pc = some q := h
  exact cw_bif h (fun h => cw_bif h (fun h => cw_ft_ok (by decide +kernel) h) (fun h => cw_ft_ok (by decide +kernel) h)) (fun h => cw_bif h (fun h => cw_ft_ok (by decide +kernel) h) (fun h => cw_ft_ok (by decide +kernel) h))
theorem ok_C_years (pc : Nat) (q : cw_A) (h : cw_cd k_C_years pc = some q) : cw_okb k_C_years q = true ∧ q.1 = pc := by
  have h : t_C_years pc = some q := h
  exact cw_bif h (fun h => cw_bif h (fun h => cw_bif h (fun h => cw_ft_ok (by decide +kernel) h) (fun h => cw_ft_ok (by decide +kernel) h)) (fun h => cw_ft_ok (by decide +kernel) h)) (fun h => cw_bif h (fun h => cw_bif h (fun h => cw_ft_ok (by decide +kernel) h) (fun h => cw_ft_ok (by decide +kernel) h)) (fun h => cw_ft_ok (by decide +kernel) h))
theorem ok_C_drawn (pc : Nat) (q : cw_A) (h : cw_cd k_C_drawn pc = some q) : cw_okb k_C_drawn q = true ∧ q.1 = pc := by
  have h : t_C_drawn pc = some q := h
  exact cw_ft_ok (by decide +kernel) h
theorem ok_C_image (pc : Nat) (q : cw_A) (h : cw_cd k_C_image pc = some q) : cw_okb k_C_image q = true ∧ q.1 = pc := by
  have h : t_C_image pc = some q := h
  exact cw_bif h (fun h => cw_ft_ok (by decide +kernel) h) (fun h => cw_ft_ok (by decide +kernel) h)
theorem ok_C_back (pc : Nat) (q : cw_A) (h : cw_cd k_C_back pc = some q) : cw_okb k_C_back q = true ∧ q.1 = pc := by
  have h : t_C_back pc = some q := h
  exact cw_bif h (fun h => cw_ft_ok (by decide +kernel) h) (fun h => cw_ft_ok (by decide +kernel) h)
theorem ok_C_count (pc : Nat) (q : cw_A) (h : cw_cd k_C_count pc = some q) : cw_okb k_C_count q = true ∧ q.1 = pc := by
  have h : t_C_count pc = some q := h
  exact cw_bif h (fun h => cw_bif h (fun h => cw_bif h (fun h => cw_ft_ok (by decide +kernel) h) (fun h => cw_ft_ok (by decide +kernel) h)) (fun h => cw_ft_ok (by decide +kernel) h)) (fun h => cw_bif h (fun h => cw_ft_ok (by decide +kernel) h) (fun h => cw_ft_ok (by decide +kernel) h))
theorem ok_C_status (pc : Nat) (q : cw_A) (h : cw_cd k_C_status pc = some q) : cw_okb k_C_status q = true ∧ q.1 = pc := by
  have h : t_C_status pc = some q := h
  exact cw_ft_ok (by decide +kernel) h
theorem ok_C_isBelow (pc : Nat) (q : cw_A) (h : cw_cd k_C_isBelow pc = some q) : cw_okb k_C_isBelow q = true ∧ q.1 = pc := by
  have h : t_C_isBelow pc = some q := h
  exact cw_ft_ok (by decide +kernel) h
theorem ok_C_bit (pc : Nat) (q : cw_A) (h : cw_cd k_C_bit pc = some q) : cw_okb k_C_bit q = true ∧ q.1 = pc := by
  have h : t_C_bit pc = some q := h
  exact cw_ft_ok (by decide +kernel) h
theorem ok_C_draw (pc : Nat) (q : cw_A) (h : cw_cd k_C_draw pc = some q) : cw_okb k_C_draw q = true ∧ q.1 = pc := by
  have h : t_C_draw pc = some q := h
  exact cw_ft_ok (by decide +kernel) h
theorem ok_C_accept (pc : Nat) (q : cw_A) (h : cw_cd k_C_accept pc = some q) : cw_okb k_C_accept q = true ∧ q.1 = pc := by
  have h : t_C_accept pc = some q := h
  exact cw_ft_ok (by decide +kernel) h
theorem ok_C_refuse (pc : Nat) (q : cw_A) (h : cw_cd k_C_refuse pc = some q) : cw_okb k_C_refuse q = true ∧ q.1 = pc := by
  have h : t_C_refuse pc = some q := h
  exact cw_bif h (fun h => cw_bif h (fun h => cw_ft_ok (by decide +kernel) h) (fun h => cw_ft_ok (by decide +kernel) h)) (fun h => cw_bif h (fun h => cw_ft_ok (by decide +kernel) h) (fun h => cw_ft_ok (by decide +kernel) h))
theorem ok_C_outdate (pc : Nat) (q : cw_A) (h : cw_cd k_C_outdate pc = some q) : cw_okb k_C_outdate q = true ∧ q.1 = pc := by
  have h : t_C_outdate pc = some q := h
  exact cw_ft_ok (by decide +kernel) h
theorem ok_C_rewritten (pc : Nat) (q : cw_A) (h : cw_cd k_C_rewritten pc = some q) : cw_okb k_C_rewritten q = true ∧ q.1 = pc := by
  have h : t_C_rewritten pc = some q := h
  exact cw_ft_ok (by decide +kernel) h
theorem ok_C_sift (pc : Nat) (q : cw_A) (h : cw_cd k_C_sift pc = some q) : cw_okb k_C_sift q = true ∧ q.1 = pc := by
  have h : t_C_sift pc = some q := h
  exact cw_bif h (fun h => cw_ft_ok (by decide +kernel) h) (fun h => cw_ft_ok (by decide +kernel) h)
theorem ok_C_freshen (pc : Nat) (q : cw_A) (h : cw_cd k_C_freshen pc = some q) : cw_okb k_C_freshen q = true ∧ q.1 = pc := by
  have h : t_C_freshen pc = some q := h
  exact cw_bif h (fun h => cw_ft_ok (by decide +kernel) h) (fun h => cw_ft_ok (by decide +kernel) h)
theorem ok_C_learnReadings (pc : Nat) (q : cw_A) (h : cw_cd k_C_learnReadings pc = some q) : cw_okb k_C_learnReadings q = true ∧ q.1 = pc := by
  have h : t_C_learnReadings pc = some q := h
  exact cw_bif h (fun h => cw_ft_ok (by decide +kernel) h) (fun h => cw_ft_ok (by decide +kernel) h)
theorem ok_C_amount (pc : Nat) (q : cw_A) (h : cw_cd k_C_amount pc = some q) : cw_okb k_C_amount q = true ∧ q.1 = pc := by
  have h : t_C_amount pc = some q := h
  exact cw_ft_ok (by decide +kernel) h
theorem ok_C_leastOf (pc : Nat) (q : cw_A) (h : cw_cd k_C_leastOf pc = some q) : cw_okb k_C_leastOf q = true ∧ q.1 = pc := by
  have h : t_C_leastOf pc = some q := h
  exact cw_bif h (fun h => cw_ft_ok (by decide +kernel) h) (fun h => cw_ft_ok (by decide +kernel) h)
theorem ok_C_gatherFitting (pc : Nat) (q : cw_A) (h : cw_cd k_C_gatherFitting pc = some q) : cw_okb k_C_gatherFitting q = true ∧ q.1 = pc := by
  have h : t_C_gatherFitting pc = some q := h
  exact cw_bif h (fun h => cw_bif h (fun h => cw_ft_ok (by decide +kernel) h) (fun h => cw_ft_ok (by decide +kernel) h)) (fun h => cw_ft_ok (by decide +kernel) h)
theorem ok_C_mostAlike (pc : Nat) (q : cw_A) (h : cw_cd k_C_mostAlike pc = some q) : cw_okb k_C_mostAlike q = true ∧ q.1 = pc := by
  have h : t_C_mostAlike pc = some q := h
  exact cw_bif h (fun h => cw_bif h (fun h => cw_ft_ok (by decide +kernel) h) (fun h => cw_ft_ok (by decide +kernel) h)) (fun h => cw_ft_ok (by decide +kernel) h)
theorem ok_C_judgesFor (pc : Nat) (q : cw_A) (h : cw_cd k_C_judgesFor pc = some q) : cw_okb k_C_judgesFor q = true ∧ q.1 = pc := by
  have h : t_C_judgesFor pc = some q := h
  exact cw_bif h (fun h => cw_ft_ok (by decide +kernel) h) (fun h => cw_ft_ok (by decide +kernel) h)
