theorem ok_Re_parse (pc : Nat) (q : cw_A) (h : cw_cd k_Re_parse pc = some q) : cw_okb k_Re_parse q = true ∧ q.1 = pc := by
  have h : t_Re_parse pc = some q := h
  exact cw_bif h (fun h => cw_bif h (fun h => cw_bif h (fun h => cw_ft_ok (by decide +kernel) h) (fun h => cw_ft_ok (by decide +kernel) h)) (fun h => cw_ft_ok (by decide +kernel) h)) (fun h => cw_bif h (fun h => cw_bif h (fun h => cw_ft_ok (by decide +kernel) h) (fun h => cw_ft_ok (by decide +kernel) h)) (fun h => cw_ft_ok (by decide +kernel) h))
theorem ok_Re_lawClause (pc : Nat) (q : cw_A) (h : cw_cd k_Re_lawClause pc = some q) : cw_okb k_Re_lawClause q = true ∧ q.1 = pc := by
  have h : t_Re_lawClause pc = some q := h
  exact cw_bif h (fun h => cw_bif h (fun h => cw_ft_ok (by decide +kernel) h) (fun h => cw_ft_ok (by decide +kernel) h)) (fun h => cw_ft_ok (by decide +kernel) h)
theorem ok_Re_orderClause (pc : Nat) (q : cw_A) (h : cw_cd k_Re_orderClause pc = some q) : cw_okb k_Re_orderClause q = true ∧ q.1 = pc := by
  have h : t_Re_orderClause pc = some q := h
  exact cw_bif h (fun h => cw_bif h (fun h => cw_bif h (fun h => cw_ft_ok (by decide +kernel) h) (fun h => cw_ft_ok (by decide +kernel) h)) (fun h => cw_ft_ok (by decide +kernel) h)) (fun h => cw_bif h (fun h => cw_bif h (fun h => cw_ft_ok (by decide +kernel) h) (fun h => cw_ft_ok (by decide +kernel) h)) (fun h => cw_ft_ok (by decide +kernel) h))
theorem ok_Re_begin (pc : Nat) (q : cw_A) (h : cw_cd k_Re_begin pc = some q) : cw_okb k_Re_begin q = true ∧ q.1 = pc := by
  have h : t_Re_begin pc = some q := h
  exact cw_bif h (fun h => cw_ft_ok (by decide +kernel) h) (fun h => cw_ft_ok (by decide +kernel) h)
theorem ok_Re_finish (pc : Nat) (q : cw_A) (h : cw_cd k_Re_finish pc = some q) : cw_okb k_Re_finish q = true ∧ q.1 = pc := by
  have h : t_Re_finish pc = some q := h
  exact cw_ft_ok (by decide +kernel) h
theorem ok_Re_condition (pc : Nat) (q : cw_A) (h : cw_cd k_Re_condition pc = some q) : cw_okb k_Re_condition q = true ∧ q.1 = pc := by
  have h : t_Re_condition pc = some q := h
  exact cw_bif h (fun h => cw_ft_ok (by decide +kernel) h) (fun h => cw_ft_ok (by decide +kernel) h)
theorem ok_Re_test (pc : Nat) (q : cw_A) (h : cw_cd k_Re_test pc = some q) : cw_okb k_Re_test q = true ∧ q.1 = pc := by
  have h : t_Re_test pc = some q := h
  exact cw_bif h (fun h => cw_bif h (fun h => cw_ft_ok (by decide +kernel) h) (fun h => cw_ft_ok (by decide +kernel) h)) (fun h => cw_bif h (fun h => cw_ft_ok (by decide +kernel) h) (fun h => cw_ft_ok (by decide +kernel) h))
theorem ok_Re_plain (pc : Nat) (q : cw_A) (h : cw_cd k_Re_plain pc = some q) : cw_okb k_Re_plain q = true ∧ q.1 = pc := by
  have h : t_Re_plain pc = some q := h
  exact cw_bif h (fun h => cw_bif h (fun h => cw_bif h (fun h => cw_ft_ok (by decide +kernel) h) (fun h => cw_ft_ok (by decide +kernel) h)) (fun h => cw_bif h (fun h => cw_ft_ok (by decide +kernel) h) (fun h => cw_ft_ok (by decide +kernel) h))) (fun h => cw_bif h (fun h => cw_bif h (fun h => cw_ft_ok (by decide +kernel) h) (fun h => cw_ft_ok (by decide +kernel) h)) (fun h => cw_ft_ok (by decide +kernel) h))
theorem ok_Re_sum (pc : Nat) (q : cw_A) (h : cw_cd k_Re_sum pc = some q) : cw_okb k_Re_sum q = true ∧ q.1 = pc := by
  have h : t_Re_sum pc = some q := h
  exact cw_bif h (fun h => cw_bif h (fun h => cw_ft_ok (by decide +kernel) h) (fun h => cw_ft_ok (by decide +kernel) h)) (fun h => cw_bif h (fun h => cw_ft_ok (by decide +kernel) h) (fun h => cw_ft_ok (by decide +kernel) h))
theorem ok_Re_termSign (pc : Nat) (q : cw_A) (h : cw_cd k_Re_termSign pc = some q) : cw_okb k_Re_termSign q = true ∧ q.1 = pc := by
  have h : t_Re_termSign pc = some q := h
  exact cw_bif h (fun h => cw_ft_ok (by decide +kernel) h) (fun h => cw_ft_ok (by decide +kernel) h)
theorem ok_Re_sumSign (pc : Nat) (q : cw_A) (h : cw_cd k_Re_sumSign pc = some q) : cw_okb k_Re_sumSign q = true ∧ q.1 = pc := by
  have h : t_Re_sumSign pc = some q := h
  exact cw_ft_ok (by decide +kernel) h
theorem ok_Re_part (pc : Nat) (q : cw_A) (h : cw_cd k_Re_part pc = some q) : cw_okb k_Re_part q = true ∧ q.1 = pc := by
  have h : t_Re_part pc = some q := h
  exact cw_bif h (fun h => cw_bif h (fun h => cw_bif h (fun h => cw_ft_ok (by decide +kernel) h) (fun h => cw_ft_ok (by decide +kernel) h)) (fun h => cw_bif h (fun h => cw_ft_ok (by decide +kernel) h) (fun h => cw_ft_ok (by decide +kernel) h))) (fun h => cw_bif h (fun h => cw_bif h (fun h => cw_ft_ok (by decide +kernel) h) (fun h => cw_ft_ok (by decide +kernel) h)) (fun h => cw_ft_ok (by decide +kernel) h))
theorem ok_Re_fail (pc : Nat) (q : cw_A) (h : cw_cd k_Re_fail pc = some q) : cw_okb k_Re_fail q = true ∧ q.1 = pc := by
  have h : t_Re_fail pc = some q := h
  exact cw_ft_ok (by decide +kernel) h
theorem ok_Re_advance (pc : Nat) (q : cw_A) (h : cw_cd k_Re_advance pc = some q) : cw_okb k_Re_advance q = true ∧ q.1 = pc := by
  have h : t_Re_advance pc = some q := h
  exact cw_bif h (fun h => cw_bif h (fun h => cw_bif h (fun h => cw_ft_ok (by decide +kernel) h) (fun h => cw_ft_ok (by decide +kernel) h)) (fun h => cw_bif h (fun h => cw_ft_ok (by decide +kernel) h) (fun h => cw_ft_ok (by decide +kernel) h))) (fun h => cw_bif h (fun h => cw_bif h (fun h => cw_ft_ok (by decide +kernel) h) (fun h => cw_ft_ok (by decide +kernel) h)) (fun h => cw_ft_ok (by decide +kernel) h))
theorem ok_Re_isSign (pc : Nat) (q : cw_A) (h : cw_cd k_Re_isSign pc = some q) : cw_okb k_Re_isSign q = true ∧ q.1 = pc := by
  have h : t_Re_isSign pc = some q := h
  exact cw_ft_ok (by decide +kernel) h
theorem ok_Re_number (pc : Nat) (q : cw_A) (h : cw_cd k_Re_number pc = some q) : cw_okb k_Re_number q = true ∧ q.1 = pc := by
  have h : t_Re_number pc = some q := h
  exact cw_bif h (fun h => cw_bif h (fun h => cw_ft_ok (by decide +kernel) h) (fun h => cw_ft_ok (by decide +kernel) h)) (fun h => cw_ft_ok (by decide +kernel) h)
theorem ok_Re_wordIn (pc : Nat) (q : cw_A) (h : cw_cd k_Re_wordIn pc = some q) : cw_okb k_Re_wordIn q = true ∧ q.1 = pc := by
  have h : t_Re_wordIn pc = some q := h
  exact cw_bif h (fun h => cw_bif h (fun h => cw_ft_ok (by decide +kernel) h) (fun h => cw_ft_ok (by decide +kernel) h)) (fun h => cw_bif h (fun h => cw_ft_ok (by decide +kernel) h) (fun h => cw_ft_ok (by decide +kernel) h))
theorem ok_Se_init (pc : Nat) (q : cw_A) (h : cw_cd k_Se_init pc = some q) : cw_okb k_Se_init q = true ∧ q.1 = pc := by
  have h : t_Se_init pc = some q := h
  exact cw_bif h (fun h => cw_ft_ok (by decide +kernel) h) (fun h => cw_ft_ok (by decide +kernel) h)
theorem ok_Se_search (pc : Nat) (q : cw_A) (h : cw_cd k_Se_search pc = some q) : cw_okb k_Se_search q = true ∧ q.1 = pc := by
  have h : t_Se_search pc = some q := h
  exact cw_bif h (fun h => cw_bif h (fun h => cw_bif h (fun h => cw_ft_ok (by decide +kernel) h) (fun h => cw_ft_ok (by decide +kernel) h)) (fun h => cw_ft_ok (by decide +kernel) h)) (fun h => cw_bif h (fun h => cw_ft_ok (by decide +kernel) h) (fun h => cw_ft_ok (by decide +kernel) h))
theorem ok_Se_spread (pc : Nat) (q : cw_A) (h : cw_cd k_Se_spread pc = some q) : cw_okb k_Se_spread q = true ∧ q.1 = pc := by
  have h : t_Se_spread pc = some q := h
  exact cw_bif h (fun h => cw_bif h (fun h => cw_bif h (fun h => cw_bif h (fun h => cw_ft_ok (by decide +kernel) h) (fun h => cw_ft_ok (by decide +kernel) h)) (fun h => cw_ft_ok (by decide +kernel) h)) (fun h => cw_bif h (fun h => cw_bif h (fun h => cw_ft_ok (by decide +kernel) h) (fun h => cw_ft_ok (by decide +kernel) h)) (fun h => cw_ft_ok (by decide +kernel) h))) (fun h => cw_bif h (fun h => cw_bif h (fun h => cw_bif h (fun h => cw_ft_ok (by decide +kernel) h) (fun h => cw_ft_ok (by decide +kernel) h)) (fun h => cw_ft_ok (by decide +kernel) h)) (fun h => cw_bif h (fun h => cw_ft_ok (by decide +kernel) h) (fun h => cw_ft_ok (by decide +kernel) h)))
theorem ok_Su_init (pc : Nat) (q : cw_A) (h : cw_cd k_Su_init pc = some q) : cw_okb k_Su_init q = true ∧ q.1 = pc := by
  have h : t_Su_init pc = some q := h
  exact cw_ft_ok (by decide +kernel) h
