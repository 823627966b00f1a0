/-! Marks, turns, deaths, years: answered, by the class (wip/whole/tools/m138.py). -/
theorem C_turn {d : Nat} {m : cw_M} {Q : Option cw_V → cw_M → Prop} {j kd : Int} (hm : la_ok m) (hr : c_fb m) (hn : 0 ≤ m x_will_ 0 ∧ m x_will_ 0 ≤ 7) (hkd : ∀ j, 0 ≤ j → j < 6 → 0 ≤ m x_will_kinds_ j ∧ m x_will_kinds_ j ≤ 2) (hs : 0 ≤ m x_log_ 0 ∧ m x_log_ 0 ≤ 16) (h1 : ¬ (0 ≤ kd ∧ kd ≤ 2) → Q (some (vi (-1))) (cr_m m (-1) 0)) (h2 : ((0 ≤ kd ∧ kd ≤ 2) ∧ ¬ (0 ≤ j ∧ j < m x_will_ 0 - 1)) → Q (some (vi (-2))) (cr_m m (-2) 1)) (h3 : ((0 ≤ kd ∧ kd ≤ 2) ∧ (0 ≤ j ∧ j < m x_will_ 0 - 1) ∧ m x_will_kinds_ j = kd) → Q (some (vi (-3))) (cr_m m (-3) 2)) (hok : ((0 ≤ kd ∧ kd ≤ 2) ∧ (0 ≤ j ∧ j < m x_will_ 0 - 1) ∧ m x_will_kinds_ j ≠ kd) → Q (some (vi (m x_will_kinds_ j))) (cw_put (cw_put (cw_put (cw_put (lg m 1 j (m x_will_kinds_ j)) x_will_kinds_ j kd) x_ 19 1) x_settler_ 0 (-1)) x_ 16 0)) : cw_C (d + 2) k_C_turn [vr x_, vi j, vi kd] m Q := by
  refine la_go_C hm 15 [] ?_
  show cw_C _ _ [vr x_, vi j, vi kd] (m) _
  refine C_doTurn hm hn hs (fun a1 => ⟨hm, ?_⟩) (fun a1 => ⟨hm, ?_⟩) (fun a1 => ⟨hm, ?_⟩) (fun a1 => ⟨(la_put (la_put (la_put (lg_ok hm) (by decide) (Or.inr (by decide))) (by decide) (Or.inl rfl)) (by decide) (Or.inl rfl)), ?_⟩)
  · refine br_f (show ¬ ((0 : Int) ≤ (-1)) by decide) ?_
    show cw_C _ _ [vr x_, vi (-1)] (m) _
    refine C_refuse1 hm (hr 0 (by decide) (by decide)) ⟨(cr_ok hm), ?_⟩
    show Q (some (vi (-1))) (cr_m m (-1) 0)
    exact h1 a1
  · refine br_f (show ¬ ((0 : Int) ≤ (-2)) by decide) ?_
    show cw_C _ _ [vr x_, vi (-2)] (m) _
    refine C_refuse2 hm (hr 1 (by decide) (by decide)) ⟨(cr_ok hm), ?_⟩
    show Q (some (vi (-2))) (cr_m m (-2) 1)
    exact h2 a1
  · refine br_f (show ¬ ((0 : Int) ≤ (-3)) by decide) ?_
    show cw_C _ _ [vr x_, vi (-3)] (m) _
    refine C_refuse3 hm (hr 2 (by decide) (by decide)) ⟨(cr_ok hm), ?_⟩
    show Q (some (vi (-3))) (cr_m m (-3) 2)
    exact h3 a1
  · have a2 := hkd j a1.2.1.1 (by omega)
    refine And.intro (fun (c21 : 0 ≤ m x_will_kinds_ j) => ?_) (fun (c21 : ¬ (0 ≤ m x_will_kinds_ j)) => ?_)
    · show cw_C _ _ [vr x_, vi (m x_will_kinds_ j)] (cw_put (cw_put (cw_put (lg m 1 j (m x_will_kinds_ j)) x_will_kinds_ j kd) x_ 19 1) x_settler_ 0 (-1)) _
      refine C_accept (la_put (la_put (la_put (lg_ok hm) (by decide) (Or.inr (by decide))) (by decide) (Or.inl rfl)) (by decide) (Or.inl rfl)) ⟨(la_put (la_put (la_put (la_put (lg_ok hm) (by decide) (Or.inr (by decide))) (by decide) (Or.inl rfl)) (by decide) (Or.inl rfl)) (by decide) (Or.inl rfl)), ?_⟩
      show Q (some (vi (m x_will_kinds_ j))) (cw_put (cw_put (cw_put (cw_put (lg m 1 j (m x_will_kinds_ j)) x_will_kinds_ j kd) x_ 19 1) x_settler_ 0 (-1)) x_ 16 0)
      exact hok a1
    · show cw_C _ _ [vr x_, vi (m x_will_kinds_ j)] (cw_put (cw_put (cw_put (lg m 1 j (m x_will_kinds_ j)) x_will_kinds_ j kd) x_ 19 1) x_settler_ 0 (-1)) _
      refine (by exfalso; omega) 
