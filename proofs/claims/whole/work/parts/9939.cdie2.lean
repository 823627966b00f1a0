/-! Deaths and years: answered, by the class (wip/whole/tools/m139.py). -/
theorem b_cr {x : Int} (hx : 0 ≤ x ∧ x < 64) : 0 ≤ b_c x ∧ b_c x ≤ 6 := by
  obtain ⟨a, rfl⟩ := m_f64 hx
  exact (show ∀ a : Fin 64, 0 ≤ b_c (a.val : Int) ∧ b_c (a.val : Int) ≤ 6 by decide +kernel) a
theorem C_pass {d : Nat} {m : cw_M} {Q : Option cw_V → cw_M → Prop} (hm : la_ok m) (hr : c_fb m) (ht : 0 ≤ m x_will_terms_ 0 ∧ m x_will_terms_ 0 ≤ 999) (hc : m cw_TERM 0 = 999) (hs : 0 ≤ m x_log_ 0 ∧ m x_log_ 0 ≤ 16) (h3 : m x_will_terms_ 0 = 999 → Q (some (vi (-3))) (cr_m m (-3) 2)) (hok : m x_will_terms_ 0 < 999 → Q (some (vi (m x_will_terms_ 0 + 1))) (cw_put (cw_put (cw_put (cw_put (lg m 3 0 (m x_will_terms_ 0)) x_will_terms_ 0 (m x_will_terms_ 0 + 1)) x_ 19 1) x_settler_ 0 (-1)) x_ 16 0)) : cw_C (d + 2) k_C_pass [vr x_] m Q := by
  refine la_go_C hm 13 [] ?_
  show cw_C _ _ [vr x_] (m) _
  refine C_doPass hm ht hc hs (fun a1 => ⟨hm, ?_⟩) (fun a1 => ⟨(la_put (la_put (la_put (lg_ok hm) (by decide) (Or.inr (by decide))) (by decide) (Or.inl rfl)) (by decide) (Or.inl rfl)), ?_⟩)
  · refine br_f (show ¬ ((0 : Int) ≤ (-3)) by decide) ?_
    show cw_C _ _ [vr x_, vi (-3)] (m) _
    refine C_refuse3 hm (hr 2 (by decide) (by decide)) ⟨(cr_ok hm), ?_⟩
    show Q (some (vi (-3))) (cr_m m (-3) 2)
    exact h3 a1
  · refine And.intro (fun (c21 : 0 ≤ m x_will_terms_ 0 + 1) => ?_) (fun (c21 : ¬ (0 ≤ m x_will_terms_ 0 + 1)) => ?_)
    · show cw_C _ _ [vr x_, vi (m x_will_terms_ 0 + 1)] (cw_put (cw_put (cw_put (lg m 3 0 (m x_will_terms_ 0)) x_will_terms_ 0 (m x_will_terms_ 0 + 1)) x_ 19 1) x_settler_ 0 (-1)) _
      refine C_accept (la_put (la_put (la_put (lg_ok hm) (by decide) (Or.inr (by decide))) (by decide) (Or.inl rfl)) (by decide) (Or.inl rfl)) ⟨(la_put (la_put (la_put (la_put (lg_ok hm) (by decide) (Or.inr (by decide))) (by decide) (Or.inl rfl)) (by decide) (Or.inl rfl)) (by decide) (Or.inl rfl)), ?_⟩
      show Q (some (vi (m x_will_terms_ 0 + 1))) (cw_put (cw_put (cw_put (cw_put (lg m 3 0 (m x_will_terms_ 0)) x_will_terms_ 0 (m x_will_terms_ 0 + 1)) x_ 19 1) x_settler_ 0 (-1)) x_ 16 0)
      exact hok a1
    · show cw_C _ _ [vr x_, vi (m x_will_terms_ 0 + 1)] (cw_put (cw_put (cw_put (lg m 3 0 (m x_will_terms_ 0)) x_will_terms_ 0 (m x_will_terms_ 0 + 1)) x_ 19 1) x_settler_ 0 (-1)) _
      refine (by exfalso; omega) 
theorem C_die {d : Nat} {m : cw_M} {Q : Option cw_V → cw_M → Prop} {p : Int} (hm : la_ok m) (hr : c_fb m) (hl : 0 ≤ m x_will_ 4 ∧ m x_will_ 4 < 64) (hs : 0 ≤ m x_log_ 0 ∧ m x_log_ 0 ≤ 16) (h1 : ¬ (0 ≤ p ∧ p < 6) → Q (some (vi (-1))) (cr_m m (-1) 0)) (h3 : ((0 ≤ p ∧ p < 6) ∧ cw_iand (cw_ishr (m x_will_ 4) p) 1 = 0) → Q (some (vi (-3))) (cr_m m (-3) 2)) (hok : ((0 ≤ p ∧ p < 6) ∧ cw_iand (cw_ishr (m x_will_ 4) p) 1 ≠ 0) → Q (some (vi (b_c (cw_iand (m x_will_ 4) (cw_ixor (cw_ishl 1 p) (-1)))))) (cw_put (cw_put (cw_put (cw_put (lg m 2 p 1) x_will_ 4 (cw_iand (m x_will_ 4) (cw_ixor (cw_ishl 1 p) (-1)))) x_ 19 1) x_settler_ 0 (-1)) x_ 16 0)) : cw_C (d + 2) k_C_die [vr x_, vi p] m Q := by
  refine la_go_C hm 14 [] ?_
  show cw_C _ _ [vr x_, vi p] (m) _
  refine C_doDie hm hl hs (fun a1 => ⟨hm, ?_⟩) (fun a1 => ⟨hm, ?_⟩) (fun a1 => ⟨(la_put (la_put (la_put (lg_ok hm) (by decide) (Or.inl rfl)) (by decide) (Or.inl rfl)) (by decide) (Or.inl rfl)), ?_⟩)
  · refine br_f (show ¬ ((0 : Int) ≤ (-1)) by decide) ?_
    show cw_C _ _ [vr x_, vi (-1)] (m) _
    refine C_refuse1 hm (hr 0 (by decide) (by decide)) ⟨(cr_ok hm), ?_⟩
    show Q (some (vi (-1))) (cr_m m (-1) 0)
    exact h1 a1
  · refine br_f (show ¬ ((0 : Int) ≤ (-3)) by decide) ?_
    show cw_C _ _ [vr x_, vi (-3)] (m) _
    refine C_refuse3 hm (hr 2 (by decide) (by decide)) ⟨(cr_ok hm), ?_⟩
    show Q (some (vi (-3))) (cr_m m (-3) 2)
    exact h3 a1
  · have a2 := b_cr (m_xr hl a1.1)
    refine And.intro (fun (c21 : 0 ≤ b_c (cw_iand (m x_will_ 4) (cw_ixor (cw_ishl 1 p) (-1)))) => ?_) (fun (c21 : ¬ (0 ≤ b_c (cw_iand (m x_will_ 4) (cw_ixor (cw_ishl 1 p) (-1))))) => ?_)
    · show cw_C _ _ [vr x_, vi (b_c (cw_iand (m x_will_ 4) (cw_ixor (cw_ishl 1 p) (-1))))] (cw_put (cw_put (cw_put (lg m 2 p 1) x_will_ 4 (cw_iand (m x_will_ 4) (cw_ixor (cw_ishl 1 p) (-1)))) x_ 19 1) x_settler_ 0 (-1)) _
      refine C_accept (la_put (la_put (la_put (lg_ok hm) (by decide) (Or.inl rfl)) (by decide) (Or.inl rfl)) (by decide) (Or.inl rfl)) ⟨(la_put (la_put (la_put (la_put (lg_ok hm) (by decide) (Or.inl rfl)) (by decide) (Or.inl rfl)) (by decide) (Or.inl rfl)) (by decide) (Or.inl rfl)), ?_⟩
      show Q (some (vi (b_c (cw_iand (m x_will_ 4) (cw_ixor (cw_ishl 1 p) (-1)))))) (cw_put (cw_put (cw_put (cw_put (lg m 2 p 1) x_will_ 4 (cw_iand (m x_will_ 4) (cw_ixor (cw_ishl 1 p) (-1)))) x_ 19 1) x_settler_ 0 (-1)) x_ 16 0)
      exact hok a1
    · show cw_C _ _ [vr x_, vi (b_c (cw_iand (m x_will_ 4) (cw_ixor (cw_ishl 1 p) (-1))))] (cw_put (cw_put (cw_put (lg m 2 p 1) x_will_ 4 (cw_iand (m x_will_ 4) (cw_ixor (cw_ishl 1 p) (-1)))) x_ 19 1) x_settler_ 0 (-1)) _
      refine (by exfalso; omega) 
