theorem ok_Ji_bitCount (pc : Nat) (q : cw_A) (h : cw_cd k_Ji_bitCount pc = some q) : cw_okb k_Ji_bitCount q = true ∧ q.1 = pc := by
  have h : t_Ji_bitCount pc = some q := h
  exact cw_bif h (fun h => cw_ft_ok (by decide +kernel) h) (fun h => cw_ft_ok (by decide +kernel) h)
theorem ok_Jm_max (pc : Nat) (q : cw_A) (h : cw_cd k_Jm_max pc = some q) : cw_okb k_Jm_max q = true ∧ q.1 = pc := by
  have h : t_Jm_max pc = some q := h
  exact cw_ft_ok (by decide +kernel) h
theorem ok_Jm_min (pc : Nat) (q : cw_A) (h : cw_cd k_Jm_min pc = some q) : cw_okb k_Jm_min q = true ∧ q.1 = pc := by
  have h : t_Jm_min pc = some q := h
  exact cw_ft_ok (by decide +kernel) h
theorem ok_Js_charAt (pc : Nat) (q : cw_A) (h : cw_cd k_Js_charAt pc = some q) : cw_okb k_Js_charAt q = true ∧ q.1 = pc := by
  have h : t_Js_charAt pc = some q := h
  exact cw_ft_ok (by decide +kernel) h
theorem ok_Js_coder (pc : Nat) (q : cw_A) (h : cw_cd k_Js_coder pc = some q) : cw_okb k_Js_coder q = true ∧ q.1 = pc := by
  have h : t_Js_coder pc = some q := h
  exact cw_ft_ok (by decide +kernel) h
theorem ok_Js_isLatin1 (pc : Nat) (q : cw_A) (h : cw_cd k_Js_isLatin1 pc = some q) : cw_okb k_Js_isLatin1 q = true ∧ q.1 = pc := by
  have h : t_Js_isLatin1 pc = some q := h
  exact cw_ft_ok (by decide +kernel) h
theorem ok_Js_length (pc : Nat) (q : cw_A) (h : cw_cd k_Js_length pc = some q) : cw_okb k_Js_length q = true ∧ q.1 = pc := by
  have h : t_Js_length pc = some q := h
  exact cw_ft_ok (by decide +kernel) h
theorem ok_Jl_charAt (pc : Nat) (q : cw_A) (h : cw_cd k_Jl_charAt pc = some q) : cw_okb k_Jl_charAt q = true ∧ q.1 = pc := by
  have h : t_Jl_charAt pc = some q := h
  exact cw_ft_ok (by decide +kernel) h
theorem ok_Js_checkIndex (pc : Nat) (q : cw_A) (h : cw_cd k_Js_checkIndex pc = some q) : cw_okb k_Js_checkIndex q = true ∧ q.1 = pc := by
  have h : t_Js_checkIndex pc = some q := h
  exact cw_ft_ok (by decide +kernel) h
theorem ok_Jp_checkIndex (pc : Nat) (q : cw_A) (h : cw_cd k_Jp_checkIndex pc = some q) : cw_okb k_Jp_checkIndex q = true ∧ q.1 = pc := by
  have h : t_Jp_checkIndex pc = some q := h
  exact cw_ft_ok (by decide +kernel) h
theorem ok_Fo_init (pc : Nat) (q : cw_A) (h : cw_cd k_Fo_init pc = some q) : cw_okb k_Fo_init q = true ∧ q.1 = pc := by
  have h : t_Fo_init pc = some q := h
  exact cw_bif h (fun h => cw_ft_ok (by decide +kernel) h) (fun h => cw_ft_ok (by decide +kernel) h)
theorem ok_Fo_grow (pc : Nat) (q : cw_A) (h : cw_cd k_Fo_grow pc = some q) : cw_okb k_Fo_grow q = true ∧ q.1 = pc := by
  have h : t_Fo_grow pc = some q := h
  exact cw_bif h (fun h => cw_bif h (fun h => cw_ft_ok (by decide +kernel) h) (fun h => cw_ft_ok (by decide +kernel) h)) (fun h => cw_ft_ok (by decide +kernel) h)
theorem ok_Fo_place (pc : Nat) (q : cw_A) (h : cw_cd k_Fo_place pc = some q) : cw_okb k_Fo_place q = true ∧ q.1 = pc := by
  have h : t_Fo_place pc = some q := h
  exact cw_bif h (fun h => cw_bif h (fun h => cw_bif h (fun h => cw_ft_ok (by decide +kernel) h) (fun h => cw_ft_ok (by decide +kernel) h)) (fun h => cw_ft_ok (by decide +kernel) h)) (fun h => cw_bif h (fun h => cw_bif h (fun h => cw_ft_ok (by decide +kernel) h) (fun h => cw_ft_ok (by decide +kernel) h)) (fun h => cw_ft_ok (by decide +kernel) h))
theorem ok_Fo_sift (pc : Nat) (q : cw_A) (h : cw_cd k_Fo_sift pc = some q) : cw_okb k_Fo_sift q = true ∧ q.1 = pc := by
  have h : t_Fo_sift pc = some q := h
  exact cw_bif h (fun h => cw_bif h (fun h => cw_bif h (fun h => cw_ft_ok (by decide +kernel) h) (fun h => cw_ft_ok (by decide +kernel) h)) (fun h => cw_ft_ok (by decide +kernel) h)) (fun h => cw_bif h (fun h => cw_ft_ok (by decide +kernel) h) (fun h => cw_ft_ok (by decide +kernel) h))
theorem ok_Le_init (pc : Nat) (q : cw_A) (h : cw_cd k_Le_init pc = some q) : cw_okb k_Le_init q = true ∧ q.1 = pc := by
  have h : t_Le_init pc = some q := h
  exact cw_bif h (fun h => cw_ft_ok (by decide +kernel) h) (fun h => cw_ft_ok (by decide +kernel) h)
theorem ok_Le_open (pc : Nat) (q : cw_A) (h : cw_cd k_Le_open pc = some q) : cw_okb k_Le_open q = true ∧ q.1 = pc := by
  have h : t_Le_open pc = some q := h
  exact cw_bif h (fun h => cw_ft_ok (by decide +kernel) h) (fun h => cw_ft_ok (by decide +kernel) h)
theorem ok_Le_know (pc : Nat) (q : cw_A) (h : cw_cd k_Le_know pc = some q) : cw_okb k_Le_know q = true ∧ q.1 = pc := by
  have h : t_Le_know pc = some q := h
  exact cw_bif h (fun h => cw_ft_ok (by decide +kernel) h) (fun h => cw_ft_ok (by decide +kernel) h)
theorem ok_Le_areAlike (pc : Nat) (q : cw_A) (h : cw_cd k_Le_areAlike pc = some q) : cw_okb k_Le_areAlike q = true ∧ q.1 = pc := by
  have h : t_Le_areAlike pc = some q := h
  exact cw_bif h (fun h => cw_ft_ok (by decide +kernel) h) (fun h => cw_ft_ok (by decide +kernel) h)
theorem ok_Lo_init (pc : Nat) (q : cw_A) (h : cw_cd k_Lo_init pc = some q) : cw_okb k_Lo_init q = true ∧ q.1 = pc := by
  have h : t_Lo_init pc = some q := h
  exact cw_bif h (fun h => cw_ft_ok (by decide +kernel) h) (fun h => cw_ft_ok (by decide +kernel) h)
theorem ok_Lo_note (pc : Nat) (q : cw_A) (h : cw_cd k_Lo_note pc = some q) : cw_okb k_Lo_note q = true ∧ q.1 = pc := by
  have h : t_Lo_note pc = some q := h
  exact cw_bif h (fun h => cw_bif h (fun h => cw_ft_ok (by decide +kernel) h) (fun h => cw_ft_ok (by decide +kernel) h)) (fun h => cw_bif h (fun h => cw_ft_ok (by decide +kernel) h) (fun h => cw_ft_ok (by decide +kernel) h))
theorem ok_Lo_copyFrom (pc : Nat) (q : cw_A) (h : cw_cd k_Lo_copyFrom pc = some q) : cw_okb k_Lo_copyFrom q = true ∧ q.1 = pc := by
  have h : t_Lo_copyFrom pc = some q := h
  exact cw_bif h (fun h => cw_ft_ok (by decide +kernel) h) (fun h => cw_ft_ok (by decide +kernel) h)
theorem ok_Pa_init (pc : Nat) (q : cw_A) (h : cw_cd k_Pa_init pc = some q) : cw_okb k_Pa_init q = true ∧ q.1 = pc := by
  have h : t_Pa_init pc = some q := h
  exact cw_bif h (fun h => cw_ft_ok (by decide +kernel) h) (fun h => cw_ft_ok (by decide +kernel) h)
theorem ok_Pa_take (pc : Nat) (q : cw_A) (h : cw_cd k_Pa_take pc = some q) : cw_okb k_Pa_take q = true ∧ q.1 = pc := by
  have h : t_Pa_take pc = some q := h
  exact cw_bif h (fun h => cw_bif h (fun h => cw_ft_ok (by decide +kernel) h) (fun h => cw_ft_ok (by decide +kernel) h)) (fun h => cw_bif h (fun h => cw_ft_ok (by decide +kernel) h) (fun h => cw_ft_ok (by decide +kernel) h))
theorem ok_Pa_divide (pc : Nat) (q : cw_A) (h : cw_cd k_Pa_divide pc = some q) : cw_okb k_Pa_divide q = true ∧ q.1 = pc := by
  have h : t_Pa_divide pc = some q := h
  exact cw_bif h (fun h => cw_bif h (fun h => cw_bif h (fun h => cw_ft_ok (by decide +kernel) h) (fun h => cw_ft_ok (by decide +kernel) h)) (fun h => cw_ft_ok (by decide +kernel) h)) (fun h => cw_bif h (fun h => cw_ft_ok (by decide +kernel) h) (fun h => cw_ft_ok (by decide +kernel) h))
theorem ok_Pa_give (pc : Nat) (q : cw_A) (h : cw_cd k_Pa_give pc = some q) : cw_okb k_Pa_give q = true ∧ q.1 = pc := by
  have h : t_Pa_give pc = some q := h
  exact cw_bif h (fun h => cw_bif h (fun h => cw_bif h (fun h => cw_bif h (fun h => cw_ft_ok (by decide +kernel) h) (fun h => cw_ft_ok (by decide +kernel) h)) (fun h => cw_ft_ok (by decide +kernel) h)) (fun h => cw_bif h (fun h => cw_ft_ok (by decide +kernel) h) (fun h => cw_ft_ok (by decide +kernel) h))) (fun h => cw_bif h (fun h => cw_bif h (fun h => cw_ft_ok (by decide +kernel) h) (fun h => cw_ft_ok (by decide +kernel) h)) (fun h => cw_bif h (fun h => cw_ft_ok (by decide +kernel) h) (fun h => cw_ft_ok (by decide +kernel) h)))
theorem ok_Pa_takes (pc : Nat) (q : cw_A) (h : cw_cd k_Pa_takes pc = some q) : cw_okb k_Pa_takes q = true ∧ q.1 = pc := by
  have h : t_Pa_takes pc = some q := h
  exact cw_bif h (fun h => cw_bif h (fun h => cw_ft_ok (by decide +kernel) h) (fun h => cw_ft_ok (by decide +kernel) h)) (fun h => cw_bif h (fun h => cw_ft_ok (by decide +kernel) h) (fun h => cw_ft_ok (by decide +kernel) h))
theorem ok_Pa_isHeir (pc : Nat) (q : cw_A) (h : cw_cd k_Pa_isHeir pc = some q) : cw_okb k_Pa_isHeir q = true ∧ q.1 = pc := by
  have h : t_Pa_isHeir pc = some q := h
  exact cw_ft_ok (by decide +kernel) h
theorem ok_Pa_topOf (pc : Nat) (q : cw_A) (h : cw_cd k_Pa_topOf pc = some q) : cw_okb k_Pa_topOf q = true ∧ q.1 = pc := by
  have h : t_Pa_topOf pc = some q := h
  exact cw_bif h (fun h => cw_ft_ok (by decide +kernel) h) (fun h => cw_ft_ok (by decide +kernel) h)
theorem ok_Pa_askOfJoin (pc : Nat) (q : cw_A) (h : cw_cd k_Pa_askOfJoin pc = some q) : cw_okb k_Pa_askOfJoin q = true ∧ q.1 = pc := by
  have h : t_Pa_askOfJoin pc = some q := h
  exact cw_bif h (fun h => cw_ft_ok (by decide +kernel) h) (fun h => cw_ft_ok (by decide +kernel) h)
theorem ok_Pa_askOfPerson (pc : Nat) (q : cw_A) (h : cw_cd k_Pa_askOfPerson pc = some q) : cw_okb k_Pa_askOfPerson q = true ∧ q.1 = pc := by
  have h : t_Pa_askOfPerson pc = some q := h
  exact cw_bif h (fun h => cw_bif h (fun h => cw_ft_ok (by decide +kernel) h) (fun h => cw_ft_ok (by decide +kernel) h)) (fun h => cw_ft_ok (by decide +kernel) h)
theorem ok_Pa_lawTells (pc : Nat) (q : cw_A) (h : cw_cd k_Pa_lawTells pc = some q) : cw_okb k_Pa_lawTells q = true ∧ q.1 = pc := by
  have h : t_Pa_lawTells pc = some q := h
  exact cw_bif h (fun h => cw_bif h (fun h => cw_bif h (fun h => cw_ft_ok (by decide +kernel) h) (fun h => cw_ft_ok (by decide +kernel) h)) (fun h => cw_ft_ok (by decide +kernel) h)) (fun h => cw_bif h (fun h => cw_ft_ok (by decide +kernel) h) (fun h => cw_ft_ok (by decide +kernel) h))
theorem ok_Re_init (pc : Nat) (q : cw_A) (h : cw_cd k_Re_init pc = some q) : cw_okb k_Re_init q = true ∧ q.1 = pc := by
  have h : t_Re_init pc = some q := h
  exact cw_bif h (fun h => cw_ft_ok (by decide +kernel) h) (fun h => cw_ft_ok (by decide +kernel) h)
theorem ok_Re_append (pc : Nat) (q : cw_A) (h : cw_cd k_Re_append pc = some q) : cw_okb k_Re_append q = true ∧ q.1 = pc := by
  have h : t_Re_append pc = some q := h
  exact cw_bif h (fun h => cw_ft_ok (by decide +kernel) h) (fun h => cw_ft_ok (by decide +kernel) h)
