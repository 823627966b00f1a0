/-! A name, by the class, as memories (wip/whole/tools/m137.py). -/
/-- a name is appended -/
def ap_m (m : cw_M) (kd mk p : Int) : cw_M := if 0 < m x_will_ 0 then cw_put (cw_put (cw_put (cw_put m x_will_kinds_ (m x_will_ 0 - 1) kd) x_will_marks_ (m x_will_ 0 - 1) mk) x_will_owner_ (m x_will_ 0) p) x_will_ 0 (m x_will_ 0 + 1) else cw_put (cw_put m x_will_owner_ (m x_will_ 0) p) x_will_ 0 (m x_will_ 0 + 1)
theorem ap_ok {m : cw_M} {kd mk p : Int} (hm : la_ok m) : la_ok (ap_m m kd mk p) := by
  unfold ap_m
  split
  · exact la_put (la_put (la_put (la_put hm (by decide) (Or.inr (by decide))) (by decide) (Or.inr (by decide))) (by decide) (Or.inr (by decide))) (by decide) (Or.inl rfl)
  · exact la_put (la_put hm (by decide) (Or.inr (by decide))) (by decide) (Or.inl rfl)
theorem ap_0 {m : cw_M} {kd mk p : Int} : ap_m m kd mk p x_will_ 0 = m x_will_ 0 + 1 := by
  unfold ap_m
  split <;> exact cw_put_eq
theorem Wi_appendQ {d : Nat} {m : cw_M} {Q : Option cw_V → cw_M → Prop} {kd mk p : Int} (hm : la_ok m) (hn : 0 ≤ m x_will_ 0 ∧ m x_will_ 0 < 7) (h : Q none (ap_m m kd mk p)) : cw_C d k_Wi_append [vr x_will_, vi kd, vi mk, vi p] m Q := by
  unfold ap_m at h
  refine Wi_append hm hn (fun q => ?_) (fun q => ?_)
  · rw [if_neg (by omega)] at h; exact h
  · rw [if_pos q] at h; exact h
theorem C_name {d : Nat} {m : cw_M} {Q : Option cw_V → cw_M → Prop} {kd mk p : Int} (hm : la_ok m) (hr : c_fb m) (hn : 0 ≤ m x_will_ 0 ∧ m x_will_ 0 ≤ 7) (h1 : ¬ c_cj (m x_will_ 0) kd mk p → Q (some (vi (-1))) (cr_m m (-1) 0)) (h5 : (c_cj (m x_will_ 0) kd mk p ∧ m x_will_ 0 = 7) → Q (some (vi (-5))) (cr_m m (-5) 3)) (hok : (c_cj (m x_will_ 0) kd mk p ∧ m x_will_ 0 < 7) → Q (some (vi (m x_will_ 0))) (cw_put (cw_put (cw_put (cw_put (cw_put (ap_m m kd mk p) x_log_ 0 0) x_ 18 1) x_ 19 1) x_settler_ 0 (-1)) x_ 16 0)) : cw_C (d + 2) k_C_name [vr x_, vi kd, vi mk, vi p] m Q := by
  refine la_go_C hm 35 [] ?_
  show cw_C _ _ [vr x_will_, vi kd, vi mk, vi p] (m) _
  refine Wi_canJoin hm (fun (aj : c_cj (m x_will_ 0) kd mk p) => ⟨hm, ?_⟩) (fun (aj : ¬ c_cj (m x_will_ 0) kd mk p) => ⟨hm, ?_⟩)
  · refine br_t (show (1 : Int) ≠ 0 by decide) ?_
    refine And.intro (fun (c21 : m x_will_ 0 < 7) => ?_) (fun (c21 : ¬ (m x_will_ 0 < 7)) => ?_)
    · show cw_C _ _ [vr x_will_, vi kd, vi mk, vi p] (m) _
      refine Wi_appendQ hm (by omega) ⟨(ap_ok hm), ?_⟩
      have hm22 : la_ok (cw_put (ap_m m kd mk p) x_log_ 0 0) := la_put (ap_ok hm) (by decide) (Or.inl rfl)
      show cw_C _ _ [vr x_] (cw_put (ap_m m kd mk p) x_log_ 0 0) _
      refine C_rewritten hm22 ⟨(la_put (la_put (la_put hm22 (by decide) (Or.inl rfl)) (by decide) (Or.inl rfl)) (by decide) (Or.inl rfl)), ?_⟩
      have a0 := ap_0 (m := m) (kd := kd) (mk := mk) (p := p)
      have a1 : (cw_put (cw_put (cw_put (cw_put (ap_m m kd mk p) x_log_ 0 0) x_ 18 1) x_ 19 1) x_settler_ 0 (-1)) x_will_ 0 = ap_m m kd mk p x_will_ 0 := rfl
      refine And.intro (show -2147483648 ≤ ((cw_put (cw_put (cw_put (cw_put (ap_m m kd mk p) x_log_ 0 0) x_ 18 1) x_ 19 1) x_settler_ 0 (-1)) x_will_ 0) - 1 ∧ ((cw_put (cw_put (cw_put (cw_put (ap_m m kd mk p) x_log_ 0 0) x_ 18 1) x_ 19 1) x_settler_ 0 (-1)) x_will_ 0) - 1 < 2147483648 by omega) ?_
      show cw_C _ _ [vr x_, vi (((cw_put (cw_put (cw_put (cw_put (ap_m m kd mk p) x_log_ 0 0) x_ 18 1) x_ 19 1) x_settler_ 0 (-1)) x_will_ 0) - 1)] (cw_put (cw_put (cw_put (cw_put (ap_m m kd mk p) x_log_ 0 0) x_ 18 1) x_ 19 1) x_settler_ 0 (-1)) _
      refine C_accept (la_put (la_put (la_put hm22 (by decide) (Or.inl rfl)) (by decide) (Or.inl rfl)) (by decide) (Or.inl rfl)) ⟨(la_put (la_put (la_put (la_put hm22 (by decide) (Or.inl rfl)) (by decide) (Or.inl rfl)) (by decide) (Or.inl rfl)) (by decide) (Or.inl rfl)), ?_⟩
      show Q (some (vi (((cw_put (cw_put (cw_put (cw_put (ap_m m kd mk p) x_log_ 0 0) x_ 18 1) x_ 19 1) x_settler_ 0 (-1)) x_will_ 0) - 1))) (cw_put (cw_put (cw_put (cw_put (cw_put (ap_m m kd mk p) x_log_ 0 0) x_ 18 1) x_ 19 1) x_settler_ 0 (-1)) x_ 16 0)
      rw [show ((cw_put (cw_put (cw_put (cw_put (ap_m m kd mk p) x_log_ 0 0) x_ 18 1) x_ 19 1) x_settler_ 0 (-1)) x_will_ 0) - 1 = m x_will_ 0 by omega]
      exact hok ⟨aj, by omega⟩
    · show cw_C _ _ [vr x_, vi (-5)] (m) _
      refine C_refuse5 hm (hr 3 (by decide) (by decide)) ⟨(cr_ok hm), ?_⟩
      show Q (some (vi (-5))) (cr_m m (-5) 3)
      exact h5 ⟨aj, by omega⟩
  · refine br_f (show ¬ ((0 : Int) ≠ 0) by decide) ?_
    show cw_C _ _ [vr x_, vi (-1)] (m) _
    refine C_refuse1 hm (hr 0 (by decide) (by decide)) ⟨(cr_ok hm), ?_⟩
    show Q (some (vi (-1))) (cr_m m (-1) 0)
    exact h1 aj
