theorem ok_M_reads (pc : Nat) (q : cw_A) (h : cw_cd k_M_reads pc = some q) : cw_okb k_M_reads q = true ∧ q.1 = pc := by
  have h : t_M_reads pc = some q := h
  exact cw_bif h (fun h => cw_bif h (fun h => cw_ft_ok (by decide +kernel) h) (fun h => cw_ft_ok (by decide +kernel) h)) (fun h => cw_bif h (fun h => cw_ft_ok (by decide +kernel) h) (fun h => cw_ft_ok (by decide +kernel) h))
theorem ok_M_readsAs (pc : Nat) (q : cw_A) (h : cw_cd k_M_readsAs pc = some q) : cw_okb k_M_readsAs q = true ∧ q.1 = pc := by
  have h : t_M_readsAs pc = some q := h
  exact cw_bif h (fun h => cw_ft_ok (by decide +kernel) h) (fun h => cw_ft_ok (by decide +kernel) h)
theorem ok_M_lays (pc : Nat) (q : cw_A) (h : cw_cd k_M_lays pc = some q) : cw_okb k_M_lays q = true ∧ q.1 = pc := by
  have h : t_M_lays pc = some q := h
  exact cw_bif h (fun h => cw_bif h (fun h => cw_ft_ok (by decide +kernel) h) (fun h => cw_ft_ok (by decide +kernel) h)) (fun h => cw_ft_ok (by decide +kernel) h)
theorem ok_M_law (pc : Nat) (q : cw_A) (h : cw_cd k_M_law pc = some q) : cw_okb k_M_law q = true ∧ q.1 = pc := by
  have h : t_M_law pc = some q := h
  exact cw_bif h (fun h => cw_bif h (fun h => cw_ft_ok (by decide +kernel) h) (fun h => cw_ft_ok (by decide +kernel) h)) (fun h => cw_ft_ok (by decide +kernel) h)
theorem ok_M_fault (pc : Nat) (q : cw_A) (h : cw_cd k_M_fault pc = some q) : cw_okb k_M_fault q = true ∧ q.1 = pc := by
  have h : t_M_fault pc = some q := h
  exact cw_ft_ok (by decide +kernel) h
theorem ok_M_isLaw (pc : Nat) (q : cw_A) (h : cw_cd k_M_isLaw pc = some q) : cw_okb k_M_isLaw q = true ∧ q.1 = pc := by
  have h : t_M_isLaw pc = some q := h
  exact cw_ft_ok (by decide +kernel) h
theorem ok_M_force (pc : Nat) (q : cw_A) (h : cw_cd k_M_force pc = some q) : cw_okb k_M_force q = true ∧ q.1 = pc := by
  have h : t_M_force pc = some q := h
  exact cw_bif h (fun h => cw_ft_ok (by decide +kernel) h) (fun h => cw_ft_ok (by decide +kernel) h)
theorem ok_M_codeAt (pc : Nat) (q : cw_A) (h : cw_cd k_M_codeAt pc = some q) : cw_okb k_M_codeAt q = true ∧ q.1 = pc := by
  have h : t_M_codeAt pc = some q := h
  exact cw_ft_ok (by decide +kernel) h
theorem ok_M_passes0 (pc : Nat) (q : cw_A) (h : cw_cd k_M_passes0 pc = some q) : cw_okb k_M_passes0 q = true ∧ q.1 = pc := by
  have h : t_M_passes0 pc = some q := h
  exact cw_bif h (fun h => cw_ft_ok (by decide +kernel) h) (fun h => cw_ft_ok (by decide +kernel) h)
theorem ok_M_bounded (pc : Nat) (q : cw_A) (h : cw_cd k_M_bounded pc = some q) : cw_okb k_M_bounded q = true ∧ q.1 = pc := by
  have h : t_M_bounded pc = some q := h
  exact cw_bif h (fun h => cw_ft_ok (by decide +kernel) h) (fun h => cw_ft_ok (by decide +kernel) h)
theorem ok_M_sumOf (pc : Nat) (q : cw_A) (h : cw_cd k_M_sumOf pc = some q) : cw_okb k_M_sumOf q = true ∧ q.1 = pc := by
  have h : t_M_sumOf pc = some q := h
  exact cw_bif h (fun h => cw_bif h (fun h => cw_ft_ok (by decide +kernel) h) (fun h => cw_ft_ok (by decide +kernel) h)) (fun h => cw_bif h (fun h => cw_ft_ok (by decide +kernel) h) (fun h => cw_ft_ok (by decide +kernel) h))
theorem ok_M_termOf (pc : Nat) (q : cw_A) (h : cw_cd k_M_termOf pc = some q) : cw_okb k_M_termOf q = true ∧ q.1 = pc := by
  have h : t_M_termOf pc = some q := h
  exact cw_bif h (fun h => cw_bif h (fun h => cw_bif h (fun h => cw_ft_ok (by decide +kernel) h) (fun h => cw_ft_ok (by decide +kernel) h)) (fun h => cw_ft_ok (by decide +kernel) h)) (fun h => cw_bif h (fun h => cw_bif h (fun h => cw_ft_ok (by decide +kernel) h) (fun h => cw_ft_ok (by decide +kernel) h)) (fun h => cw_ft_ok (by decide +kernel) h))
theorem ok_M_partOf (pc : Nat) (q : cw_A) (h : cw_cd k_M_partOf pc = some q) : cw_okb k_M_partOf q = true ∧ q.1 = pc := by
  have h : t_M_partOf pc = some q := h
  exact cw_bif h (fun h => cw_bif h (fun h => cw_bif h (fun h => cw_ft_ok (by decide +kernel) h) (fun h => cw_ft_ok (by decide +kernel) h)) (fun h => cw_ft_ok (by decide +kernel) h)) (fun h => cw_bif h (fun h => cw_ft_ok (by decide +kernel) h) (fun h => cw_ft_ok (by decide +kernel) h))
theorem ok_M_orderValue (pc : Nat) (q : cw_A) (h : cw_cd k_M_orderValue pc = some q) : cw_okb k_M_orderValue q = true ∧ q.1 = pc := by
  have h : t_M_orderValue pc = some q := h
  exact cw_bif h (fun h => cw_bif h (fun h => cw_ft_ok (by decide +kernel) h) (fun h => cw_ft_ok (by decide +kernel) h)) (fun h => cw_ft_ok (by decide +kernel) h)
theorem ok_M_testOf (pc : Nat) (q : cw_A) (h : cw_cd k_M_testOf pc = some q) : cw_okb k_M_testOf q = true ∧ q.1 = pc := by
  have h : t_M_testOf pc = some q := h
  exact cw_bif h (fun h => cw_ft_ok (by decide +kernel) h) (fun h => cw_ft_ok (by decide +kernel) h)
theorem ok_M_bothOf (pc : Nat) (q : cw_A) (h : cw_cd k_M_bothOf pc = some q) : cw_okb k_M_bothOf q = true ∧ q.1 = pc := by
  have h : t_M_bothOf pc = some q := h
  exact cw_bif h (fun h => cw_ft_ok (by decide +kernel) h) (fun h => cw_ft_ok (by decide +kernel) h)
theorem ok_M_plainOf (pc : Nat) (q : cw_A) (h : cw_cd k_M_plainOf pc = some q) : cw_okb k_M_plainOf q = true ∧ q.1 = pc := by
  have h : t_M_plainOf pc = some q := h
  exact cw_bif h (fun h => cw_ft_ok (by decide +kernel) h) (fun h => cw_ft_ok (by decide +kernel) h)
theorem ok_M_positiveOf (pc : Nat) (q : cw_A) (h : cw_cd k_M_positiveOf pc = some q) : cw_okb k_M_positiveOf q = true ∧ q.1 = pc := by
  have h : t_M_positiveOf pc = some q := h
  exact cw_bif h (fun h => cw_bif h (fun h => cw_ft_ok (by decide +kernel) h) (fun h => cw_ft_ok (by decide +kernel) h)) (fun h => cw_bif h (fun h => cw_ft_ok (by decide +kernel) h) (fun h => cw_ft_ok (by decide +kernel) h))
theorem ok_M_asksOf (pc : Nat) (q : cw_A) (h : cw_cd k_M_asksOf pc = some q) : cw_okb k_M_asksOf q = true ∧ q.1 = pc := by
  have h : t_M_asksOf pc = some q := h
  exact cw_bif h (fun h => cw_bif h (fun h => cw_ft_ok (by decide +kernel) h) (fun h => cw_ft_ok (by decide +kernel) h)) (fun h => cw_ft_ok (by decide +kernel) h)
theorem ok_M_tells (pc : Nat) (q : cw_A) (h : cw_cd k_M_tells pc = some q) : cw_okb k_M_tells q = true ∧ q.1 = pc := by
  have h : t_M_tells pc = some q := h
  exact cw_bif h (fun h => cw_bif h (fun h => cw_bif h (fun h => cw_ft_ok (by decide +kernel) h) (fun h => cw_ft_ok (by decide +kernel) h)) (fun h => cw_bif h (fun h => cw_ft_ok (by decide +kernel) h) (fun h => cw_ft_ok (by decide +kernel) h))) (fun h => cw_bif h (fun h => cw_bif h (fun h => cw_ft_ok (by decide +kernel) h) (fun h => cw_ft_ok (by decide +kernel) h)) (fun h => cw_ft_ok (by decide +kernel) h))
theorem ok_M_shareAt (pc : Nat) (q : cw_A) (h : cw_cd k_M_shareAt pc = some q) : cw_okb k_M_shareAt q = true ∧ q.1 = pc := by
  have h : t_M_shareAt pc = some q := h
  exact cw_ft_ok (by decide +kernel) h
theorem ok_M_taxOf (pc : Nat) (q : cw_A) (h : cw_cd k_M_taxOf pc = some q) : cw_okb k_M_taxOf q = true ∧ q.1 = pc := by
  have h : t_M_taxOf pc = some q := h
  exact cw_ft_ok (by decide +kernel) h
theorem ok_M_isBarred (pc : Nat) (q : cw_A) (h : cw_cd k_M_isBarred pc = some q) : cw_okb k_M_isBarred q = true ∧ q.1 = pc := by
  have h : t_M_isBarred pc = some q := h
  exact cw_ft_ok (by decide +kernel) h
theorem ok_M_fitNow (pc : Nat) (q : cw_A) (h : cw_cd k_M_fitNow pc = some q) : cw_okb k_M_fitNow q = true ∧ q.1 = pc := by
  have h : t_M_fitNow pc = some q := h
  exact cw_bif h (fun h => cw_ft_ok (by decide +kernel) h) (fun h => cw_ft_ok (by decide +kernel) h)
theorem ok_M_laysTree (pc : Nat) (q : cw_A) (h : cw_cd k_M_laysTree pc = some q) : cw_okb k_M_laysTree q = true ∧ q.1 = pc := by
  have h : t_M_laysTree pc = some q := h
  exact cw_bif h (fun h => cw_bif h (fun h => cw_ft_ok (by decide +kernel) h) (fun h => cw_ft_ok (by decide +kernel) h)) (fun h => cw_bif h (fun h => cw_ft_ok (by decide +kernel) h) (fun h => cw_ft_ok (by decide +kernel) h))
theorem ok_M_laysTrees (pc : Nat) (q : cw_A) (h : cw_cd k_M_laysTrees pc = some q) : cw_okb k_M_laysTrees q = true ∧ q.1 = pc := by
  have h : t_M_laysTrees pc = some q := h
  exact cw_bif h (fun h => cw_ft_ok (by decide +kernel) h) (fun h => cw_ft_ok (by decide +kernel) h)
theorem ok_M_isReading (pc : Nat) (q : cw_A) (h : cw_cd k_M_isReading pc = some q) : cw_okb k_M_isReading q = true ∧ q.1 = pc := by
  have h : t_M_isReading pc = some q := h
  exact cw_bif h (fun h => cw_bif h (fun h => cw_ft_ok (by decide +kernel) h) (fun h => cw_ft_ok (by decide +kernel) h)) (fun h => cw_ft_ok (by decide +kernel) h)
theorem ok_M_laysReadings (pc : Nat) (q : cw_A) (h : cw_cd k_M_laysReadings pc = some q) : cw_okb k_M_laysReadings q = true ∧ q.1 = pc := by
  have h : t_M_laysReadings pc = some q := h
  exact cw_bif h (fun h => cw_bif h (fun h => cw_ft_ok (by decide +kernel) h) (fun h => cw_ft_ok (by decide +kernel) h)) (fun h => cw_ft_ok (by decide +kernel) h)
theorem ok_M_readings (pc : Nat) (q : cw_A) (h : cw_cd k_M_readings pc = some q) : cw_okb k_M_readings q = true ∧ q.1 = pc := by
  have h : t_M_readings pc = some q := h
  exact cw_ft_ok (by decide +kernel) h
theorem ok_M_isNumber (pc : Nat) (q : cw_A) (h : cw_cd k_M_isNumber pc = some q) : cw_okb k_M_isNumber q = true ∧ q.1 = pc := by
  have h : t_M_isNumber pc = some q := h
  exact cw_ft_ok (by decide +kernel) h
theorem ok_M_depth (pc : Nat) (q : cw_A) (h : cw_cd k_M_depth pc = some q) : cw_okb k_M_depth q = true ∧ q.1 = pc := by
  have h : t_M_depth pc = some q := h
  exact cw_bif h (fun h => cw_bif h (fun h => cw_ft_ok (by decide +kernel) h) (fun h => cw_ft_ok (by decide +kernel) h)) (fun h => cw_bif h (fun h => cw_ft_ok (by decide +kernel) h) (fun h => cw_ft_ok (by decide +kernel) h))
theorem ok_M_namedIn (pc : Nat) (q : cw_A) (h : cw_cd k_M_namedIn pc = some q) : cw_okb k_M_namedIn q = true ∧ q.1 = pc := by
  have h : t_M_namedIn pc = some q := h
  exact cw_bif h (fun h => cw_ft_ok (by decide +kernel) h) (fun h => cw_ft_ok (by decide +kernel) h)
theorem ok_M_topOf (pc : Nat) (q : cw_A) (h : cw_cd k_M_topOf pc = some q) : cw_okb k_M_topOf q = true ∧ q.1 = pc := by
  have h : t_M_topOf pc = some q := h
  exact cw_bif h (fun h => cw_ft_ok (by decide +kernel) h) (fun h => cw_ft_ok (by decide +kernel) h)
theorem ok_M_takesIn (pc : Nat) (q : cw_A) (h : cw_cd k_M_takesIn pc = some q) : cw_okb k_M_takesIn q = true ∧ q.1 = pc := by
  have h : t_M_takesIn pc = some q := h
  exact cw_bif h (fun h => cw_bif h (fun h => cw_ft_ok (by decide +kernel) h) (fun h => cw_ft_ok (by decide +kernel) h)) (fun h => cw_bif h (fun h => cw_ft_ok (by decide +kernel) h) (fun h => cw_ft_ok (by decide +kernel) h))
