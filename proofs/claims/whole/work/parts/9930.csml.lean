/-! Answers and refusals, small getters, by the class (wip/whole/tools/m130.py). -/
/-- the class refuses -/
def cr_m (m : cw_M) (k i : Int) : cw_M := cw_put (cw_put m x_ 16 k) x_refusals_ i (m x_refusals_ i + 1)
theorem cr_ok {m : cw_M} {k i : Int} (hm : la_ok m) : la_ok (cr_m m k i) := la_put (la_put hm (by decide) (Or.inl rfl)) (by decide) (Or.inr (by decide))
theorem C_refuse1 {d : Nat} {m : cw_M} {Q : Option cw_V → cw_M → Prop} (hm : la_ok m) (hr : 0 ≤ m x_refusals_ 0 ∧ m x_refusals_ 0 < 100000) (h : Q (some (vi (-1))) (cr_m m (-1) 0)) : cw_C d k_C_refuse [vr x_, vi (-1)] m Q := by
  refine la_go_C hm 19 [] ?_
  have hm21 : la_ok (cw_put m x_ 16 (-1)) := la_put hm (by decide) (Or.inl rfl)
  refine And.intro (show 0 ≤ 0 ∧ 0 < 5 by omega) ?_
  refine And.intro (show -2147483648 ≤ (m x_refusals_ 0) + 1 ∧ (m x_refusals_ 0) + 1 < 2147483648 by omega) ?_
  refine And.intro (show 0 ≤ 0 ∧ 0 < 5 by omega) ?_
  have hm22 : la_ok (cw_put (cw_put m x_ 16 (-1)) x_refusals_ 0 ((m x_refusals_ 0) + 1)) := la_put hm21 (by decide) (Or.inr (by decide))
  show Q (some (vi (-1))) (cw_put (cw_put m x_ 16 (-1)) x_refusals_ 0 ((m x_refusals_ 0) + 1))
  exact h
theorem C_refuse2 {d : Nat} {m : cw_M} {Q : Option cw_V → cw_M → Prop} (hm : la_ok m) (hr : 0 ≤ m x_refusals_ 1 ∧ m x_refusals_ 1 < 100000) (h : Q (some (vi (-2))) (cr_m m (-2) 1)) : cw_C d k_C_refuse [vr x_, vi (-2)] m Q := by
  refine la_go_C hm 19 [] ?_
  have hm21 : la_ok (cw_put m x_ 16 (-2)) := la_put hm (by decide) (Or.inl rfl)
  refine And.intro (show 0 ≤ 1 ∧ 1 < 5 by omega) ?_
  refine And.intro (show -2147483648 ≤ (m x_refusals_ 1) + 1 ∧ (m x_refusals_ 1) + 1 < 2147483648 by omega) ?_
  refine And.intro (show 0 ≤ 1 ∧ 1 < 5 by omega) ?_
  have hm22 : la_ok (cw_put (cw_put m x_ 16 (-2)) x_refusals_ 1 ((m x_refusals_ 1) + 1)) := la_put hm21 (by decide) (Or.inr (by decide))
  show Q (some (vi (-2))) (cw_put (cw_put m x_ 16 (-2)) x_refusals_ 1 ((m x_refusals_ 1) + 1))
  exact h
theorem C_refuse3 {d : Nat} {m : cw_M} {Q : Option cw_V → cw_M → Prop} (hm : la_ok m) (hr : 0 ≤ m x_refusals_ 2 ∧ m x_refusals_ 2 < 100000) (h : Q (some (vi (-3))) (cr_m m (-3) 2)) : cw_C d k_C_refuse [vr x_, vi (-3)] m Q := by
  refine la_go_C hm 19 [] ?_
  have hm21 : la_ok (cw_put m x_ 16 (-3)) := la_put hm (by decide) (Or.inl rfl)
  refine And.intro (show 0 ≤ 2 ∧ 2 < 5 by omega) ?_
  refine And.intro (show -2147483648 ≤ (m x_refusals_ 2) + 1 ∧ (m x_refusals_ 2) + 1 < 2147483648 by omega) ?_
  refine And.intro (show 0 ≤ 2 ∧ 2 < 5 by omega) ?_
  have hm22 : la_ok (cw_put (cw_put m x_ 16 (-3)) x_refusals_ 2 ((m x_refusals_ 2) + 1)) := la_put hm21 (by decide) (Or.inr (by decide))
  show Q (some (vi (-3))) (cw_put (cw_put m x_ 16 (-3)) x_refusals_ 2 ((m x_refusals_ 2) + 1))
  exact h
theorem C_refuse5 {d : Nat} {m : cw_M} {Q : Option cw_V → cw_M → Prop} (hm : la_ok m) (hr : 0 ≤ m x_refusals_ 3 ∧ m x_refusals_ 3 < 100000) (h : Q (some (vi (-5))) (cr_m m (-5) 3)) : cw_C d k_C_refuse [vr x_, vi (-5)] m Q := by
  refine la_go_C hm 19 [] ?_
  have hm21 : la_ok (cw_put m x_ 16 (-5)) := la_put hm (by decide) (Or.inl rfl)
  refine And.intro (show 0 ≤ 3 ∧ 3 < 5 by omega) ?_
  refine And.intro (show -2147483648 ≤ (m x_refusals_ 3) + 1 ∧ (m x_refusals_ 3) + 1 < 2147483648 by omega) ?_
  refine And.intro (show 0 ≤ 3 ∧ 3 < 5 by omega) ?_
  have hm22 : la_ok (cw_put (cw_put m x_ 16 (-5)) x_refusals_ 3 ((m x_refusals_ 3) + 1)) := la_put hm21 (by decide) (Or.inr (by decide))
  show Q (some (vi (-5))) (cw_put (cw_put m x_ 16 (-5)) x_refusals_ 3 ((m x_refusals_ 3) + 1))
  exact h
theorem C_refuse6 {d : Nat} {m : cw_M} {Q : Option cw_V → cw_M → Prop} (hm : la_ok m) (hr : 0 ≤ m x_refusals_ 4 ∧ m x_refusals_ 4 < 100000) (h : Q (some (vi (-6))) (cr_m m (-6) 4)) : cw_C d k_C_refuse [vr x_, vi (-6)] m Q := by
  refine la_go_C hm 18 [] ?_
  have hm21 : la_ok (cw_put m x_ 16 (-6)) := la_put hm (by decide) (Or.inl rfl)
  refine And.intro (show 0 ≤ 4 ∧ 4 < 5 by omega) ?_
  refine And.intro (show -2147483648 ≤ (m x_refusals_ 4) + 1 ∧ (m x_refusals_ 4) + 1 < 2147483648 by omega) ?_
  refine And.intro (show 0 ≤ 4 ∧ 4 < 5 by omega) ?_
  have hm22 : la_ok (cw_put (cw_put m x_ 16 (-6)) x_refusals_ 4 ((m x_refusals_ 4) + 1)) := la_put hm21 (by decide) (Or.inr (by decide))
  show Q (some (vi (-6))) (cw_put (cw_put m x_ 16 (-6)) x_refusals_ 4 ((m x_refusals_ 4) + 1))
  exact h
theorem C_blots {d : Nat} {m : cw_M} {Q : Option cw_V → cw_M → Prop} (hm : la_ok m) (h : Q (some (vi (m x_ 14))) m) : cw_C d k_C_blots [vr x_] m Q := by
  refine la_go_C hm 6 [] ?_
  show Q (some (vi (m x_ 14))) (m)
  exact h
theorem C_stopped {d : Nat} {m : cw_M} {Q : Option cw_V → cw_M → Prop} (hm : la_ok m) (h : Q (some (vi (m x_ 15))) m) : cw_C d k_C_stopped [vr x_] m Q := by
  refine la_go_C hm 6 [] ?_
  show Q (some (vi (m x_ 15))) (m)
  exact h
theorem C_status {d : Nat} {m : cw_M} {Q : Option cw_V → cw_M → Prop} (hm : la_ok m) (h : Q (some (vi (m x_ 16))) m) : cw_C d k_C_status [vr x_] m Q := by
  refine la_go_C hm 6 [] ?_
  show Q (some (vi (m x_ 16))) (m)
  exact h
theorem C_fault {d : Nat} {m : cw_M} {Q : Option cw_V → cw_M → Prop} (hm : la_ok m) (h : Q (some (vi (m x_reader_ 2))) m) : cw_C d k_C_fault [vr x_] m Q := by
  refine la_go_C hm 7 [] ?_
  show Q (some (vi (m x_reader_ 2))) (m)
  exact h
theorem C_forget {d : Nat} {m : cw_M} {Q : Option cw_V → cw_M → Prop} (hm : la_ok m) (h6 : 0 ≤ m x_will_ 6 ∧ m x_will_ 6 ≤ 5) (h8 : 0 ≤ m x_will_ 8 ∧ m x_will_ 8 ≤ 6) (h : Q (some (vi (m x_will_ 8 + m x_will_ 6))) (cw_put (cw_put m x_will_ 8 0) x_will_ 6 0)) : cw_C d k_C_forget [vr x_] m Q := by
  refine la_go_C hm 21 [] ?_
  refine And.intro (show -2147483648 ≤ (m x_will_ 8) + (m x_will_ 6) ∧ (m x_will_ 8) + (m x_will_ 6) < 2147483648 by omega) ?_
  have hm21 : la_ok (cw_put m x_will_ 8 0) := la_put hm (by decide) (Or.inl rfl)
  have hm22 : la_ok (cw_put (cw_put m x_will_ 8 0) x_will_ 6 0) := la_put hm21 (by decide) (Or.inl rfl)
  show Q (some (vi ((m x_will_ 8) + (m x_will_ 6)))) (cw_put (cw_put m x_will_ 8 0) x_will_ 6 0)
  exact h
theorem C_end {d : Nat} {m : cw_M} {Q : Option cw_V → cw_M → Prop} {n : Int} (hm : la_ok m) (h1 : 0 ≤ n ∧ n ≤ m x_reader_ 1 → Q (some (vi n)) (cw_put m x_reader_ 1 n)) (h0 : ¬ (0 ≤ n ∧ n ≤ m x_reader_ 1) → Q (some (vi (-1))) m) : cw_C d k_C_end [vr x_, vi n] m Q := by
  refine la_go_C hm 16 [] ?_
  refine And.intro (fun (c21 : n < 0) => ?_) (fun (c21 : ¬ (n < 0)) => ?_)
  · show Q (some (vi (-1))) (m)
    exact h0 (by omega)
  · refine And.intro (fun (c22 : n ≤ m x_reader_ 1) => ?_) (fun (c22 : ¬ (n ≤ m x_reader_ 1)) => ?_)
    · have hm23 : la_ok (cw_put m x_reader_ 1 n) := la_put hm (by decide) (Or.inl rfl)
      show Q (some (vi n)) (cw_put m x_reader_ 1 n)
      exact h1 (by omega)
    · show Q (some (vi (-1))) (m)
      exact h0 (by omega)
