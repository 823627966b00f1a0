/-! The whole of orders, by the reference (wip/whole/tools/m110.py). -/
theorem M_orders27 {d : Nat} {m : cw_M} {Q : Option cw_V → cw_M → Prop} (hm : la_ok m) {w2 w3 w4 : cw_V} (h : cw_R (d + 78) k_M_orders 52 [vr m_, vi 320, w2, w3, w4] [] (cw_row m m_leftAhead_ (t_w (m m_leftAhead_) 0 0 320 (fun x => m m_left0_ x))) Q) : cw_R (d + 78) k_M_orders 27 [vr m_, vi 0, w2, w3, w4] [] m Q := by
  have lp : ∀ (r : Nat) (k : Int), 320 < k + r → (0 ≤ k ∧ k ≤ 320) → cw_R (d + 78) k_M_orders 27 [vr m_, vi k, w2, w3, w4] [] (cw_row m m_leftAhead_ (t_w (m m_leftAhead_) 0 0 k (fun x => m m_left0_ x))) Q := by
    intro r
    induction r with
    | zero =>
      intro k hr hk
      omega
    | succ r ih =>
      intro k hr hk
      refine la_go_R (la_row hm (by decide) (by decide)) 16 [27, 52] ?_
      refine And.intro (fun (c21 : 320 ≤ k) => ?_) (fun (c21 : ¬ (320 ≤ k)) => ?_)
      · show cw_R _ _ 52 [vr m_, vi k, w2, w3, w4] [] (cw_row m m_leftAhead_ (t_w (m m_leftAhead_) 0 0 k (fun x => m m_left0_ x))) _
        rw [show k = 320 by omega]
        exact h
      · refine And.intro (show 0 ≤ k ∧ k < 320 by omega) ?_
        refine And.intro (show 0 ≤ k ∧ k < 320 by omega) ?_
        have hm22 : la_ok (cw_put (cw_row m m_leftAhead_ (t_w (m m_leftAhead_) 0 0 k (fun x => m m_left0_ x))) m_leftAhead_ k (m m_left0_ k)) := la_put (la_row hm (by decide) (by decide)) (by decide) (Or.inr (by decide))
        refine And.intro (show -2147483648 ≤ k + 1 ∧ k + 1 < 2147483648 by omega) ?_
        show cw_R _ _ 27 [vr m_, vi (k + 1), w2, w3, w4] [] (cw_put (cw_row m m_leftAhead_ (t_w (m m_leftAhead_) 0 0 k (fun x => m m_left0_ x))) m_leftAhead_ k (m m_left0_ k)) _
        refine la_go_R0 (m' := cw_row m m_leftAhead_ (t_w (m m_leftAhead_) 0 0 (k + 1) (fun x => m m_left0_ x))) (by rw [cw_row_put]; congr 1; exact t_w0s hk.1) ?_
        exact ih (k + 1) (by omega) (by omega)
  refine la_go_R0 (m' := cw_row m m_leftAhead_ (t_w (m m_leftAhead_) 0 0 0 (fun x => m m_left0_ x))) (by rw [t_w0, cw_row_self]) ?_
  exact lp 321 0 (by omega) (by omega)
theorem M_orders122 {d : Nat} {m : cw_M} {Q : Option cw_V → cw_M → Prop} (hm : la_ok m) {ua ub uc : Int} (h : cw_R (d + 78) k_M_orders 150 [vr m_, vi ua, vi ub, vi uc, vi 320] [] (cw_row m m_left0_ (t_w (m m_left0_) 0 0 320 (fun x => m m_leftAhead_ x))) Q) : cw_R (d + 78) k_M_orders 122 [vr m_, vi ua, vi ub, vi uc, vi 0] [] m Q := by
  have lp : ∀ (r : Nat) (k : Int), 320 < k + r → (0 ≤ k ∧ k ≤ 320) → cw_R (d + 78) k_M_orders 122 [vr m_, vi ua, vi ub, vi uc, vi k] [] (cw_row m m_left0_ (t_w (m m_left0_) 0 0 k (fun x => m m_leftAhead_ x))) Q := by
    intro r
    induction r with
    | zero =>
      intro k hr hk
      omega
    | succ r ih =>
      intro k hr hk
      refine la_go_R (la_row hm (by decide) (by decide)) 16 [122, 150] ?_
      refine And.intro (fun (c21 : 320 ≤ k) => ?_) (fun (c21 : ¬ (320 ≤ k)) => ?_)
      · show cw_R _ _ 150 [vr m_, vi ua, vi ub, vi uc, vi k] [] (cw_row m m_left0_ (t_w (m m_left0_) 0 0 k (fun x => m m_leftAhead_ x))) _
        rw [show k = 320 by omega]
        exact h
      · refine And.intro (show 0 ≤ k ∧ k < 320 by omega) ?_
        refine And.intro (show 0 ≤ k ∧ k < 320 by omega) ?_
        have hm22 : la_ok (cw_put (cw_row m m_left0_ (t_w (m m_left0_) 0 0 k (fun x => m m_leftAhead_ x))) m_left0_ k (m m_leftAhead_ k)) := la_put (la_row hm (by decide) (by decide)) (by decide) (Or.inr (by decide))
        refine And.intro (show -2147483648 ≤ k + 1 ∧ k + 1 < 2147483648 by omega) ?_
        show cw_R _ _ 122 [vr m_, vi ua, vi ub, vi uc, vi (k + 1)] [] (cw_put (cw_row m m_left0_ (t_w (m m_left0_) 0 0 k (fun x => m m_leftAhead_ x))) m_left0_ k (m m_leftAhead_ k)) _
        refine la_go_R0 (m' := cw_row m m_left0_ (t_w (m m_left0_) 0 0 (k + 1) (fun x => m m_leftAhead_ x))) (by rw [cw_row_put]; congr 1; exact t_w0s hk.1) ?_
        exact ih (k + 1) (by omega) (by omega)
  refine la_go_R0 (m' := cw_row m m_left0_ (t_w (m m_left0_) 0 0 0 (fun x => m m_leftAhead_ x))) (by rw [t_w0, cw_row_self]) ?_
  exact lp 321 0 (by omega) (by omega)
theorem M_orders114 {d : Nat} {m : cw_M} {Q : Option cw_V → cw_M → Prop} (hm : la_ok m) (hr : r_fb m) {ua ub k : Int} {w4 : cw_V} (h : Q (some (vi (-3))) (rf_m (cw_put (cw_put (ml_m (kr_m m (t_w (m m_kept_) 0 0 19 (fun x => m m_aside_ (19 * 1 + x)))) (t_w (m m_left0_) 0 0 320 (fun x => m m_leftAhead_ x))) m_ 44 ua) m_ 45 k) (-3))) : cw_R (d + 78) k_M_orders 114 [vr m_, vi ua, vi ub, vi k, w4] [] m Q := by
  refine la_go_R hm 8 [122] ?_
  show cw_C _ _ [vr m_, vi 1] (m) _
  refine M_takesBack hm (by decide) ⟨(kr_ok hm), ?_⟩
  show cw_R _ _ 122 [vr m_, vi ua, vi ub, vi k, vi 0] [] (kr_m m (t_w (m m_kept_) 0 0 19 (fun x => m m_aside_ (19 * 1 + x)))) _
  refine M_orders122 (kr_ok hm) ?_
  have hm2 : la_ok (ml_m (kr_m m (t_w (m m_kept_) 0 0 19 (fun x => m m_aside_ (19 * 1 + x)))) (t_w (m m_left0_) 0 0 320 (fun x => m m_leftAhead_ x))) := ml_ok (kr_ok hm)
  refine la_go_R0 (m' := ml_m (kr_m m (t_w (m m_kept_) 0 0 19 (fun x => m m_aside_ (19 * 1 + x)))) (t_w (m m_left0_) 0 0 320 (fun x => m m_leftAhead_ x))) rfl ?_
  refine la_go_R hm2 13 [] ?_
  have hm21 : la_ok (cw_put (ml_m (kr_m m (t_w (m m_kept_) 0 0 19 (fun x => m m_aside_ (19 * 1 + x)))) (t_w (m m_left0_) 0 0 320 (fun x => m m_leftAhead_ x))) m_ 44 ua) := la_put hm2 (by decide) (Or.inl rfl)
  have hm22 : la_ok (cw_put (cw_put (ml_m (kr_m m (t_w (m m_kept_) 0 0 19 (fun x => m m_aside_ (19 * 1 + x)))) (t_w (m m_left0_) 0 0 320 (fun x => m m_leftAhead_ x))) m_ 44 ua) m_ 45 k) := la_put hm21 (by decide) (Or.inl rfl)
  show cw_C _ _ [vr m_, vi (-3)] (cw_put (cw_put (ml_m (kr_m m (t_w (m m_kept_) 0 0 19 (fun x => m m_aside_ (19 * 1 + x)))) (t_w (m m_left0_) 0 0 320 (fun x => m m_leftAhead_ x))) m_ 44 ua) m_ 45 k) _
  refine M_refuses hm22 (by decide) (hr 3 (by decide) (by decide)) ⟨(rf_ok hm22), ?_⟩
  show Q (some (vi (-3))) (rf_m (cw_put (cw_put (ml_m (kr_m m (t_w (m m_kept_) 0 0 19 (fun x => m m_aside_ (19 * 1 + x)))) (t_w (m m_left0_) 0 0 320 (fun x => m m_leftAhead_ x))) m_ 44 ua) m_ 45 k) (-3))
  exact h
