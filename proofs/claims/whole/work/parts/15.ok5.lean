theorem ok_M_laysAside (pc : Nat) (q : cw_A) (h : cw_cd k_M_laysAside pc = some q) : cw_okb k_M_laysAside q = true ∧ q.1 = pc := by
  have h : t_M_laysAside pc = some q := h
  exact cw_ft_ok (by decide +kernel) h
theorem ok_M_takesBack (pc : Nat) (q : cw_A) (h : cw_cd k_M_takesBack pc = some q) : cw_okb k_M_takesBack q = true ∧ q.1 = pc := by
  have h : t_M_takesBack pc = some q := h
  exact cw_ft_ok (by decide +kernel) h
theorem ok_M_image (pc : Nat) (q : cw_A) (h : cw_cd k_M_image pc = some q) : cw_okb k_M_image q = true ∧ q.1 = pc := by
  have h : t_M_image pc = some q := h
  exact cw_bif h (fun h => cw_ft_ok (by decide +kernel) h) (fun h => cw_ft_ok (by decide +kernel) h)
theorem ok_M_back (pc : Nat) (q : cw_A) (h : cw_cd k_M_back pc = some q) : cw_okb k_M_back q = true ∧ q.1 = pc := by
  have h : t_M_back pc = some q := h
  exact cw_bif h (fun h => cw_bif h (fun h => cw_ft_ok (by decide +kernel) h) (fun h => cw_ft_ok (by decide +kernel) h)) (fun h => cw_ft_ok (by decide +kernel) h)
theorem ok_M_many (pc : Nat) (q : cw_A) (h : cw_cd k_M_many pc = some q) : cw_okb k_M_many q = true ∧ q.1 = pc := by
  have h : t_M_many pc = some q := h
  exact cw_ft_ok (by decide +kernel) h
theorem ok_M_joinMany (pc : Nat) (q : cw_A) (h : cw_cd k_M_joinMany pc = some q) : cw_okb k_M_joinMany q = true ∧ q.1 = pc := by
  have h : t_M_joinMany pc = some q := h
  exact cw_ft_ok (by decide +kernel) h
theorem ok_M_isJoin (pc : Nat) (q : cw_A) (h : cw_cd k_M_isJoin pc = some q) : cw_okb k_M_isJoin q = true ∧ q.1 = pc := by
  have h : t_M_isJoin pc = some q := h
  exact cw_ft_ok (by decide +kernel) h
theorem ok_M_canBe (pc : Nat) (q : cw_A) (h : cw_cd k_M_canBe pc = some q) : cw_okb k_M_canBe q = true ∧ q.1 = pc := by
  have h : t_M_canBe pc = some q := h
  exact cw_bif h (fun h => cw_ft_ok (by decide +kernel) h) (fun h => cw_ft_ok (by decide +kernel) h)
theorem ok_M_adds (pc : Nat) (q : cw_A) (h : cw_cd k_M_adds pc = some q) : cw_okb k_M_adds q = true ∧ q.1 = pc := by
  have h : t_M_adds pc = some q := h
  exact cw_bif h (fun h => cw_ft_ok (by decide +kernel) h) (fun h => cw_ft_ok (by decide +kernel) h)
theorem ok_M_name (pc : Nat) (q : cw_A) (h : cw_cd k_M_name pc = some q) : cw_okb k_M_name q = true ∧ q.1 = pc := by
  have h : t_M_name pc = some q := h
  exact cw_bif h (fun h => cw_ft_ok (by decide +kernel) h) (fun h => cw_ft_ok (by decide +kernel) h)
theorem ok_M_who (pc : Nat) (q : cw_A) (h : cw_cd k_M_who pc = some q) : cw_okb k_M_who q = true ∧ q.1 = pc := by
  have h : t_M_who pc = some q := h
  exact cw_ft_ok (by decide +kernel) h
theorem ok_M_join (pc : Nat) (q : cw_A) (h : cw_cd k_M_join pc = some q) : cw_okb k_M_join q = true ∧ q.1 = pc := by
  have h : t_M_join pc = some q := h
  exact cw_bif h (fun h => cw_ft_ok (by decide +kernel) h) (fun h => cw_ft_ok (by decide +kernel) h)
theorem ok_M_timesOf (pc : Nat) (q : cw_A) (h : cw_cd k_M_timesOf pc = some q) : cw_okb k_M_timesOf q = true ∧ q.1 = pc := by
  have h : t_M_timesOf pc = some q := h
  exact cw_bif h (fun h => cw_ft_ok (by decide +kernel) h) (fun h => cw_ft_ok (by decide +kernel) h)
theorem ok_M_of (pc : Nat) (q : cw_A) (h : cw_cd k_M_of pc = some q) : cw_okb k_M_of q = true ∧ q.1 = pc := by
  have h : t_M_of pc = some q := h
  exact cw_bif h (fun h => cw_bif h (fun h => cw_ft_ok (by decide +kernel) h) (fun h => cw_ft_ok (by decide +kernel) h)) (fun h => cw_ft_ok (by decide +kernel) h)
theorem ok_M_livingMany (pc : Nat) (q : cw_A) (h : cw_cd k_M_livingMany pc = some q) : cw_okb k_M_livingMany q = true ∧ q.1 = pc := by
  have h : t_M_livingMany pc = some q := h
  exact cw_ft_ok (by decide +kernel) h
theorem ok_M_isTerm (pc : Nat) (q : cw_A) (h : cw_cd k_M_isTerm pc = some q) : cw_okb k_M_isTerm q = true ∧ q.1 = pc := by
  have h : t_M_isTerm pc = some q := h
  exact cw_bif h (fun h => cw_bif h (fun h => cw_ft_ok (by decide +kernel) h) (fun h => cw_ft_ok (by decide +kernel) h)) (fun h => cw_ft_ok (by decide +kernel) h)
theorem ok_M_termAt (pc : Nat) (q : cw_A) (h : cw_cd k_M_termAt pc = some q) : cw_okb k_M_termAt q = true ∧ q.1 = pc := by
  have h : t_M_termAt pc = some q := h
  exact cw_ft_ok (by decide +kernel) h
theorem ok_M_terms (pc : Nat) (q : cw_A) (h : cw_cd k_M_terms pc = some q) : cw_okb k_M_terms q = true ∧ q.1 = pc := by
  have h : t_M_terms pc = some q := h
  exact cw_bif h (fun h => cw_ft_ok (by decide +kernel) h) (fun h => cw_ft_ok (by decide +kernel) h)
theorem ok_M_row (pc : Nat) (q : cw_A) (h : cw_cd k_M_row pc = some q) : cw_okb k_M_row q = true ∧ q.1 = pc := by
  have h : t_M_row pc = some q := h
  exact cw_bif h (fun h => cw_bif h (fun h => cw_bif h (fun h => cw_ft_ok (by decide +kernel) h) (fun h => cw_ft_ok (by decide +kernel) h)) (fun h => cw_ft_ok (by decide +kernel) h)) (fun h => cw_bif h (fun h => cw_bif h (fun h => cw_ft_ok (by decide +kernel) h) (fun h => cw_ft_ok (by decide +kernel) h)) (fun h => cw_ft_ok (by decide +kernel) h))
theorem ok_M_blots (pc : Nat) (q : cw_A) (h : cw_cd k_M_blots pc = some q) : cw_okb k_M_blots q = true ∧ q.1 = pc := by
  have h : t_M_blots pc = some q := h
  exact cw_ft_ok (by decide +kernel) h
theorem ok_M_feed (pc : Nat) (q : cw_A) (h : cw_cd k_M_feed pc = some q) : cw_okb k_M_feed q = true ∧ q.1 = pc := by
  have h : t_M_feed pc = some q := h
  exact cw_bif h (fun h => cw_bif h (fun h => cw_ft_ok (by decide +kernel) h) (fun h => cw_ft_ok (by decide +kernel) h)) (fun h => cw_bif h (fun h => cw_ft_ok (by decide +kernel) h) (fun h => cw_ft_ok (by decide +kernel) h))
theorem ok_M_end (pc : Nat) (q : cw_A) (h : cw_cd k_M_end pc = some q) : cw_okb k_M_end q = true ∧ q.1 = pc := by
  have h : t_M_end pc = some q := h
  exact cw_ft_ok (by decide +kernel) h
theorem ok_M_isSmall (pc : Nat) (q : cw_A) (h : cw_cd k_M_isSmall pc = some q) : cw_okb k_M_isSmall q = true ∧ q.1 = pc := by
  have h : t_M_isSmall pc = some q := h
  exact cw_ft_ok (by decide +kernel) h
theorem ok_M_isDigit (pc : Nat) (q : cw_A) (h : cw_cd k_M_isDigit pc = some q) : cw_okb k_M_isDigit q = true ∧ q.1 = pc := by
  have h : t_M_isDigit pc = some q := h
  exact cw_ft_ok (by decide +kernel) h
theorem ok_M_wordOf (pc : Nat) (q : cw_A) (h : cw_cd k_M_wordOf pc = some q) : cw_okb k_M_wordOf q = true ∧ q.1 = pc := by
  have h : t_M_wordOf pc = some q := h
  exact cw_bif h (fun h => cw_bif h (fun h => cw_ft_ok (by decide +kernel) h) (fun h => cw_ft_ok (by decide +kernel) h)) (fun h => cw_bif h (fun h => cw_ft_ok (by decide +kernel) h) (fun h => cw_ft_ok (by decide +kernel) h))
theorem ok_M_splits (pc : Nat) (q : cw_A) (h : cw_cd k_M_splits pc = some q) : cw_okb k_M_splits q = true ∧ q.1 = pc := by
  have h : t_M_splits pc = some q := h
  exact cw_bif h (fun h => cw_bif h (fun h => cw_bif h (fun h => cw_bif h (fun h => cw_ft_ok (by decide +kernel) h) (fun h => cw_ft_ok (by decide +kernel) h)) (fun h => cw_ft_ok (by decide +kernel) h)) (fun h => cw_bif h (fun h => cw_ft_ok (by decide +kernel) h) (fun h => cw_ft_ok (by decide +kernel) h))) (fun h => cw_bif h (fun h => cw_bif h (fun h => cw_bif h (fun h => cw_ft_ok (by decide +kernel) h) (fun h => cw_ft_ok (by decide +kernel) h)) (fun h => cw_ft_ok (by decide +kernel) h)) (fun h => cw_bif h (fun h => cw_ft_ok (by decide +kernel) h) (fun h => cw_ft_ok (by decide +kernel) h)))
theorem ok_M_fine (pc : Nat) (q : cw_A) (h : cw_cd k_M_fine pc = some q) : cw_okb k_M_fine q = true ∧ q.1 = pc := by
  have h : t_M_fine pc = some q := h
  exact cw_ft_ok (by decide +kernel) h
theorem ok_M_faults (pc : Nat) (q : cw_A) (h : cw_cd k_M_faults pc = some q) : cw_okb k_M_faults q = true ∧ q.1 = pc := by
  have h : t_M_faults pc = some q := h
  exact cw_ft_ok (by decide +kernel) h
theorem ok_M_takes0 (pc : Nat) (q : cw_A) (h : cw_cd k_M_takes0 pc = some q) : cw_okb k_M_takes0 q = true ∧ q.1 = pc := by
  have h : t_M_takes0 pc = some q := h
  exact cw_bif h (fun h => cw_ft_ok (by decide +kernel) h) (fun h => cw_ft_ok (by decide +kernel) h)
theorem ok_M_must (pc : Nat) (q : cw_A) (h : cw_cd k_M_must pc = some q) : cw_okb k_M_must q = true ∧ q.1 = pc := by
  have h : t_M_must pc = some q := h
  exact cw_ft_ok (by decide +kernel) h
theorem ok_M_leaf (pc : Nat) (q : cw_A) (h : cw_cd k_M_leaf pc = some q) : cw_okb k_M_leaf q = true ∧ q.1 = pc := by
  have h : t_M_leaf pc = some q := h
  exact cw_bif h (fun h => cw_ft_ok (by decide +kernel) h) (fun h => cw_ft_ok (by decide +kernel) h)
theorem ok_M_sign (pc : Nat) (q : cw_A) (h : cw_cd k_M_sign pc = some q) : cw_okb k_M_sign q = true ∧ q.1 = pc := by
  have h : t_M_sign pc = some q := h
  exact cw_ft_ok (by decide +kernel) h
theorem ok_M_mustNumber (pc : Nat) (q : cw_A) (h : cw_cd k_M_mustNumber pc = some q) : cw_okb k_M_mustNumber q = true ∧ q.1 = pc := by
  have h : t_M_mustNumber pc = some q := h
  exact cw_bif h (fun h => cw_ft_ok (by decide +kernel) h) (fun h => cw_ft_ok (by decide +kernel) h)
theorem ok_M_readClause (pc : Nat) (q : cw_A) (h : cw_cd k_M_readClause pc = some q) : cw_okb k_M_readClause q = true ∧ q.1 = pc := by
  have h : t_M_readClause pc = some q := h
  exact cw_bif h (fun h => cw_ft_ok (by decide +kernel) h) (fun h => cw_ft_ok (by decide +kernel) h)
theorem ok_M_readTwo (pc : Nat) (q : cw_A) (h : cw_cd k_M_readTwo pc = some q) : cw_okb k_M_readTwo q = true ∧ q.1 = pc := by
  have h : t_M_readTwo pc = some q := h
  exact cw_ft_ok (by decide +kernel) h
theorem ok_M_readOrder (pc : Nat) (q : cw_A) (h : cw_cd k_M_readOrder pc = some q) : cw_okb k_M_readOrder q = true ∧ q.1 = pc := by
  have h : t_M_readOrder pc = some q := h
  exact cw_bif h (fun h => cw_bif h (fun h => cw_ft_ok (by decide +kernel) h) (fun h => cw_ft_ok (by decide +kernel) h)) (fun h => cw_ft_ok (by decide +kernel) h)
theorem ok_M_readOne (pc : Nat) (q : cw_A) (h : cw_cd k_M_readOne pc = some q) : cw_okb k_M_readOne q = true ∧ q.1 = pc := by
  have h : t_M_readOne pc = some q := h
  exact cw_ft_ok (by decide +kernel) h
theorem ok_M_readTest (pc : Nat) (q : cw_A) (h : cw_cd k_M_readTest pc = some q) : cw_okb k_M_readTest q = true ∧ q.1 = pc := by
  have h : t_M_readTest pc = some q := h
  exact cw_ft_ok (by decide +kernel) h
theorem ok_M_readBoth (pc : Nat) (q : cw_A) (h : cw_cd k_M_readBoth pc = some q) : cw_okb k_M_readBoth q = true ∧ q.1 = pc := by
  have h : t_M_readBoth pc = some q := h
  exact cw_ft_ok (by decide +kernel) h
theorem ok_M_readPlain (pc : Nat) (q : cw_A) (h : cw_cd k_M_readPlain pc = some q) : cw_okb k_M_readPlain q = true ∧ q.1 = pc := by
  have h : t_M_readPlain pc = some q := h
  exact cw_bif h (fun h => cw_bif h (fun h => cw_bif h (fun h => cw_ft_ok (by decide +kernel) h) (fun h => cw_ft_ok (by decide +kernel) h)) (fun h => cw_ft_ok (by decide +kernel) h)) (fun h => cw_bif h (fun h => cw_ft_ok (by decide +kernel) h) (fun h => cw_ft_ok (by decide +kernel) h))
theorem ok_M_readSum (pc : Nat) (q : cw_A) (h : cw_cd k_M_readSum pc = some q) : cw_okb k_M_readSum q = true ∧ q.1 = pc := by
  have h : t_M_readSum pc = some q := h
  exact cw_bif h (fun h => cw_ft_ok (by decide +kernel) h) (fun h => cw_ft_ok (by decide +kernel) h)
theorem ok_M_readTerm (pc : Nat) (q : cw_A) (h : cw_cd k_M_readTerm pc = some q) : cw_okb k_M_readTerm q = true ∧ q.1 = pc := by
  have h : t_M_readTerm pc = some q := h
  exact cw_bif h (fun h => cw_ft_ok (by decide +kernel) h) (fun h => cw_ft_ok (by decide +kernel) h)
theorem ok_M_readPart (pc : Nat) (q : cw_A) (h : cw_cd k_M_readPart pc = some q) : cw_okb k_M_readPart q = true ∧ q.1 = pc := by
  have h : t_M_readPart pc = some q := h
  exact cw_bif h (fun h => cw_bif h (fun h => cw_bif h (fun h => cw_ft_ok (by decide +kernel) h) (fun h => cw_ft_ok (by decide +kernel) h)) (fun h => cw_ft_ok (by decide +kernel) h)) (fun h => cw_bif h (fun h => cw_ft_ok (by decide +kernel) h) (fun h => cw_ft_ok (by decide +kernel) h))
