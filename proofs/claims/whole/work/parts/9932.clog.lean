/-! What can be undone, by the class, as memories (wip/whole/tools/m132.py). -/
def lg_p (m : cw_M) (n de pl ol : Int) : cw_M := cw_put (cw_put (cw_put (cw_put m x_log_what_ n de) x_log_where_ n pl) x_log_was_ n ol) x_log_ 0 (n + 1)
def lg_s (m : cw_M) : cw_M := cw_cpy (cw_cpy (cw_cpy (cw_put m x_log_ 0 15) x_log_what_ 1 x_log_what_ 0 15) x_log_where_ 1 x_log_where_ 0 15) x_log_was_ 1 x_log_was_ 0 15
theorem lg_pok {m : cw_M} {n de pl ol : Int} (hm : la_ok m) : la_ok (lg_p m n de pl ol) := la_put (la_put (la_put (la_put hm (by decide) (Or.inr (by decide))) (by decide) (Or.inr (by decide))) (by decide) (Or.inr (by decide))) (by decide) (Or.inl rfl)
theorem lg_sok {m : cw_M} (hm : la_ok m) : la_ok (lg_s m) := la_cpy (la_cpy (la_cpy (la_put hm (by decide) (Or.inl rfl)) rfl) rfl) rfl
theorem Lo_note {d : Nat} {m : cw_M} {Q : Option cw_V → cw_M → Prop} {de pl ol : Int} (hm : la_ok m) (hs : 0 ≤ m x_log_ 0 ∧ m x_log_ 0 ≤ 16) (h0 : m x_log_ 0 < 16 → Q none (lg_p m (m x_log_ 0) de pl ol)) (h1 : m x_log_ 0 = 16 → Q none (lg_p (lg_s m) 15 de pl ol)) : cw_C d k_Lo_note [vr x_log_, vi de, vi pl, vi ol] m Q := by
  refine la_go_C hm 62 [] ?_
  refine And.intro (fun (c21 : m x_log_ 0 < 16) => ?_) (fun (c21 : ¬ (m x_log_ 0 < 16)) => ?_)
  · refine And.intro (show 0 ≤ m x_log_ 0 ∧ m x_log_ 0 < 16 by omega) ?_
    have hm22 : la_ok (cw_put m x_log_what_ (m x_log_ 0) de) := la_put hm (by decide) (Or.inr (by decide))
    refine And.intro (show 0 ≤ m x_log_ 0 ∧ m x_log_ 0 < 16 by omega) ?_
    have hm23 : la_ok (cw_put (cw_put m x_log_what_ (m x_log_ 0) de) x_log_where_ (m x_log_ 0) pl) := la_put hm22 (by decide) (Or.inr (by decide))
    refine And.intro (show 0 ≤ m x_log_ 0 ∧ m x_log_ 0 < 16 by omega) ?_
    have hm24 : la_ok (cw_put (cw_put (cw_put m x_log_what_ (m x_log_ 0) de) x_log_where_ (m x_log_ 0) pl) x_log_was_ (m x_log_ 0) ol) := la_put hm23 (by decide) (Or.inr (by decide))
    refine And.intro (show -2147483648 ≤ (m x_log_ 0) + 1 ∧ (m x_log_ 0) + 1 < 2147483648 by omega) ?_
    have hm25 : la_ok (cw_put (cw_put (cw_put (cw_put m x_log_what_ (m x_log_ 0) de) x_log_where_ (m x_log_ 0) pl) x_log_was_ (m x_log_ 0) ol) x_log_ 0 ((m x_log_ 0) + 1)) := la_put hm24 (by decide) (Or.inl rfl)
    show Q none (cw_put (cw_put (cw_put (cw_put m x_log_what_ (m x_log_ 0) de) x_log_where_ (m x_log_ 0) pl) x_log_was_ (m x_log_ 0) ol) x_log_ 0 ((m x_log_ 0) + 1))
    exact h0 (by omega)
  · have hm26 : la_ok (cw_put m x_log_ 0 15) := la_put hm (by decide) (Or.inl rfl)
    refine And.intro (show (0 ≤ 1 ∧ 0 ≤ 0 ∧ 0 ≤ 15) ∧ 1 + 15 ≤ 16 ∧ 0 + 15 ≤ 16 by omega) ?_
    have hm27 : la_ok (cw_cpy (cw_put m x_log_ 0 15) x_log_what_ 1 x_log_what_ 0 15) := la_cpy hm26 rfl
    refine And.intro (show (0 ≤ 1 ∧ 0 ≤ 0 ∧ 0 ≤ 15) ∧ 1 + 15 ≤ 16 ∧ 0 + 15 ≤ 16 by omega) ?_
    have hm28 : la_ok (cw_cpy (cw_cpy (cw_put m x_log_ 0 15) x_log_what_ 1 x_log_what_ 0 15) x_log_where_ 1 x_log_where_ 0 15) := la_cpy hm27 rfl
    refine And.intro (show (0 ≤ 1 ∧ 0 ≤ 0 ∧ 0 ≤ 15) ∧ 1 + 15 ≤ 16 ∧ 0 + 15 ≤ 16 by omega) ?_
    have hm29 : la_ok (cw_cpy (cw_cpy (cw_cpy (cw_put m x_log_ 0 15) x_log_what_ 1 x_log_what_ 0 15) x_log_where_ 1 x_log_where_ 0 15) x_log_was_ 1 x_log_was_ 0 15) := la_cpy hm28 rfl
    refine And.intro (show 0 ≤ 15 ∧ 15 < 16 by omega) ?_
    have hm30 : la_ok (cw_put (cw_cpy (cw_cpy (cw_cpy (cw_put m x_log_ 0 15) x_log_what_ 1 x_log_what_ 0 15) x_log_where_ 1 x_log_where_ 0 15) x_log_was_ 1 x_log_was_ 0 15) x_log_what_ 15 de) := la_put hm29 (by decide) (Or.inr (by decide))
    refine And.intro (show 0 ≤ 15 ∧ 15 < 16 by omega) ?_
    have hm31 : la_ok (cw_put (cw_put (cw_cpy (cw_cpy (cw_cpy (cw_put m x_log_ 0 15) x_log_what_ 1 x_log_what_ 0 15) x_log_where_ 1 x_log_where_ 0 15) x_log_was_ 1 x_log_was_ 0 15) x_log_what_ 15 de) x_log_where_ 15 pl) := la_put hm30 (by decide) (Or.inr (by decide))
    refine And.intro (show 0 ≤ 15 ∧ 15 < 16 by omega) ?_
    have hm32 : la_ok (cw_put (cw_put (cw_put (cw_cpy (cw_cpy (cw_cpy (cw_put m x_log_ 0 15) x_log_what_ 1 x_log_what_ 0 15) x_log_where_ 1 x_log_where_ 0 15) x_log_was_ 1 x_log_was_ 0 15) x_log_what_ 15 de) x_log_where_ 15 pl) x_log_was_ 15 ol) := la_put hm31 (by decide) (Or.inr (by decide))
    refine And.intro (show -2147483648 ≤ 16 ∧ 16 < 2147483648 by omega) ?_
    have hm33 : la_ok (cw_put (cw_put (cw_put (cw_put (cw_cpy (cw_cpy (cw_cpy (cw_put m x_log_ 0 15) x_log_what_ 1 x_log_what_ 0 15) x_log_where_ 1 x_log_where_ 0 15) x_log_was_ 1 x_log_was_ 0 15) x_log_what_ 15 de) x_log_where_ 15 pl) x_log_was_ 15 ol) x_log_ 0 16) := la_put hm32 (by decide) (Or.inl rfl)
    show Q none (cw_put (cw_put (cw_put (cw_put (cw_cpy (cw_cpy (cw_cpy (cw_put m x_log_ 0 15) x_log_what_ 1 x_log_what_ 0 15) x_log_where_ 1 x_log_where_ 0 15) x_log_was_ 1 x_log_was_ 0 15) x_log_what_ 15 de) x_log_where_ 15 pl) x_log_was_ 15 ol) x_log_ 0 16)
    exact h1 (by omega)
theorem C_terms {d : Nat} {m : cw_M} {Q : Option cw_V → cw_M → Prop} {w v : Int} (hm : la_ok m) (hr : c_fb m) (h1 : ¬ ((0 ≤ w ∧ w < 4) ∧ 0 ≤ v ∧ v ≤ m cw_TERM w) → Q (some (vi (-1))) (cr_m m (-1) 0)) (hok : ((0 ≤ w ∧ w < 4) ∧ 0 ≤ v ∧ v ≤ m cw_TERM w) → Q (some (vi (m x_will_terms_ w))) (cw_put (cw_put (cw_put (cw_put (cw_put m x_will_terms_ w v) x_log_ 0 0) x_ 19 1) x_settler_ 0 (-1)) x_ 16 0)) : cw_C (d + 1) k_C_terms [vr x_, vi w, vi v] m Q := by
  refine la_go_C hm 36 [] ?_
  show cw_C _ _ [vi w, vi 4] (m) _
  refine C_isBelow (fun (a21 : 0 ≤ w) (a22 : w < 4) => ⟨hm, ?_⟩) (fun (a23 : ¬ (0 ≤ w ∧ w < 4)) => ⟨hm, ?_⟩)
  · refine br_f (show ¬ ((1 : Int) = 0) by decide) ?_
    refine And.intro (fun (c24 : v < 0) => ?_) (fun (c24 : ¬ (v < 0)) => ?_)
    · show cw_C _ _ [vr x_, vi (-1)] (m) _
      refine C_refuse1 hm (hr 0 (by decide) (by decide)) ⟨(cr_ok hm), ?_⟩
      show Q (some (vi (-1))) (cr_m m (-1) 0)
      exact h1 (by omega)
    · refine And.intro (show 0 ≤ w ∧ w < 4 by omega) ?_
      refine And.intro (fun (c25 : v ≤ m cw_TERM w) => ?_) (fun (c25 : ¬ (v ≤ m cw_TERM w)) => ?_)
      · refine And.intro (show 0 ≤ w ∧ w < 4 by omega) ?_
        refine And.intro (show 0 ≤ w ∧ w < 4 by omega) ?_
        have hm26 : la_ok (cw_put m x_will_terms_ w v) := la_put hm (by decide) (Or.inr (by decide))
        have hm27 : la_ok (cw_put (cw_put m x_will_terms_ w v) x_log_ 0 0) := la_put hm26 (by decide) (Or.inl rfl)
        show cw_C _ _ [vr x_] (cw_put (cw_put m x_will_terms_ w v) x_log_ 0 0) _
        refine C_outdate hm27 ⟨(la_put (la_put hm27 (by decide) (Or.inl rfl)) (by decide) (Or.inl rfl)), ?_⟩
        show cw_C _ _ [vr x_, vi (m x_will_terms_ w)] (cw_put (cw_put (cw_put (cw_put m x_will_terms_ w v) x_log_ 0 0) x_ 19 1) x_settler_ 0 (-1)) _
        refine C_accept (la_put (la_put hm27 (by decide) (Or.inl rfl)) (by decide) (Or.inl rfl)) ⟨(la_put (la_put (la_put hm27 (by decide) (Or.inl rfl)) (by decide) (Or.inl rfl)) (by decide) (Or.inl rfl)), ?_⟩
        show Q (some (vi (m x_will_terms_ w))) (cw_put (cw_put (cw_put (cw_put (cw_put m x_will_terms_ w v) x_log_ 0 0) x_ 19 1) x_settler_ 0 (-1)) x_ 16 0)
        exact hok (by omega)
      · show cw_C _ _ [vr x_, vi (-1)] (m) _
        refine C_refuse1 hm (hr 0 (by decide) (by decide)) ⟨(cr_ok hm), ?_⟩
        show Q (some (vi (-1))) (cr_m m (-1) 0)
        exact h1 (by omega)
  · refine br_t (show (0 : Int) = 0 by decide) ?_
    show cw_C _ _ [vr x_, vi (-1)] (m) _
    refine C_refuse1 hm (hr 0 (by decide) (by decide)) ⟨(cr_ok hm), ?_⟩
    show Q (some (vi (-1))) (cr_m m (-1) 0)
    exact h1 (by omega)
theorem C_drawn {d : Nat} {m : cw_M} {Q : Option cw_V → cw_M → Prop} {p : Int} (hm : la_ok m) (h1 : (m x_ 17 ≠ -1 ∧ 0 ≤ p ∧ p < 6) → Q (some (vi (cw_iand (cw_ishr (m x_ 17) p) 1))) m) (h0 : ¬ (m x_ 17 ≠ -1 ∧ 0 ≤ p ∧ p < 6) → Q (some (vi (-1))) m) : cw_C (d + 1) k_C_drawn [vr x_, vi p] m Q := by
  refine la_go_C hm 16 [] ?_
  refine And.intro (fun (c21 : m x_ 17 = (-1)) => ?_) (fun (c21 : ¬ (m x_ 17 = (-1))) => ?_)
  · show Q (some (vi (-1))) (m)
    exact h0 (by omega)
  · show cw_C _ _ [vi p, vi 6] (m) _
    refine C_isBelow (fun (a22 : 0 ≤ p) (a23 : p < 6) => ⟨hm, ?_⟩) (fun (a24 : ¬ (0 ≤ p ∧ p < 6)) => ⟨hm, ?_⟩)
    · refine br_t (show (1 : Int) ≠ 0 by decide) ?_
      show cw_C _ _ [vi (m x_ 17), vi p] (m) _
      refine C_bit hm ⟨hm, ?_⟩
      show Q (some (vi (cw_iand (cw_ishr (m x_ 17) p) 1))) (m)
      exact h1 (by omega)
    · refine br_f (show ¬ ((0 : Int) ≠ 0) by decide) ?_
      show Q (some (vi (-1))) (m)
      exact h0 (by omega)
