/-! Turns and years passed, by the class, as memories (wip/whole/tools/m133.py). -/
/-- a deed is noted -/
def lg (m : cw_M) (de pl ol : Int) : cw_M := if m x_log_ 0 < 16 then lg_p m (m x_log_ 0) de pl ol else lg_p (lg_s m) 15 de pl ol
theorem lg_ok {m : cw_M} {de pl ol : Int} (hm : la_ok m) : la_ok (lg m de pl ol) := by
  unfold lg
  split
  · exact lg_pok hm
  · exact lg_pok (lg_sok hm)
theorem lg_ne {m : cw_M} {de pl ol c : Int} (h : c ∉ [x_log_, x_log_what_, x_log_where_, x_log_was_]) : lg m de pl ol c = m c := by
  have a := U_n h (show x_log_ ∈ _ by decide)
  have b := U_n h (show x_log_what_ ∈ _ by decide)
  have e := U_n h (show x_log_where_ ∈ _ by decide)
  have f := U_n h (show x_log_was_ ∈ _ by decide)
  unfold lg
  split
  · unfold lg_p; rw [cw_put_ne a, cw_put_ne f, cw_put_ne e, cw_put_ne b]
  · unfold lg_p lg_s; rw [cw_put_ne a, cw_put_ne f, cw_put_ne e, cw_put_ne b, cw_cpy_ne f, cw_cpy_ne e, cw_cpy_ne b, cw_put_ne a]
theorem Lo_noteQ {d : Nat} {m : cw_M} {Q : Option cw_V → cw_M → Prop} {de pl ol : Int} (hm : la_ok m) (hs : 0 ≤ m x_log_ 0 ∧ m x_log_ 0 ≤ 16) (h : Q none (lg m de pl ol)) : cw_C d k_Lo_note [vr x_log_, vi de, vi pl, vi ol] m Q := by
  unfold lg at h
  refine Lo_note hm hs (fun q => ?_) (fun q => ?_)
  · rw [if_pos q] at h; exact h
  · rw [if_neg (by omega)] at h; exact h
theorem C_doTurn {d : Nat} {m : cw_M} {Q : Option cw_V → cw_M → Prop} {j kd : Int} (hm : la_ok m) (hn : 0 ≤ m x_will_ 0 ∧ m x_will_ 0 ≤ 7) (hs : 0 ≤ m x_log_ 0 ∧ m x_log_ 0 ≤ 16) (h1 : ¬ (0 ≤ kd ∧ kd ≤ 2) → Q (some (vi (-1))) m) (h2 : ((0 ≤ kd ∧ kd ≤ 2) ∧ ¬ (0 ≤ j ∧ j < m x_will_ 0 - 1)) → Q (some (vi (-2))) m) (h3 : ((0 ≤ kd ∧ kd ≤ 2) ∧ (0 ≤ j ∧ j < m x_will_ 0 - 1) ∧ m x_will_kinds_ j = kd) → Q (some (vi (-3))) m) (hok : ((0 ≤ kd ∧ kd ≤ 2) ∧ (0 ≤ j ∧ j < m x_will_ 0 - 1) ∧ m x_will_kinds_ j ≠ kd) → Q (some (vi (m x_will_kinds_ j))) (cw_put (cw_put (cw_put (lg m 1 j (m x_will_kinds_ j)) x_will_kinds_ j kd) x_ 19 1) x_settler_ 0 (-1))) : cw_C (d + 1) k_C_doTurn [vr x_, vi j, vi kd] m Q := by
  refine la_go_C hm 38 [] ?_
  refine And.intro (fun (c21 : kd < 0) => ?_) (fun (c21 : ¬ (kd < 0)) => ?_)
  · show Q (some (vi (-1))) (m)
    exact h1 (by omega)
  · refine And.intro (fun (c22 : kd ≤ 2) => ?_) (fun (c22 : ¬ (kd ≤ 2)) => ?_)
    · show cw_C _ _ [vr x_will_, vi j] (m) _
      refine Wi_hasJoin hm hn (fun (aj : 0 ≤ j ∧ j < m x_will_ 0 - 1) => ⟨hm, ?_⟩) (fun (aj : ¬ (0 ≤ j ∧ j < m x_will_ 0 - 1)) => ⟨hm, ?_⟩)
      · refine br_t (show (1 : Int) ≠ 0 by decide) ?_
        refine And.intro (show 0 ≤ j ∧ j < 6 by omega) ?_
        refine And.intro (fun (c23 : m x_will_kinds_ j ≠ kd) => ?_) (fun (c23 : ¬ (m x_will_kinds_ j ≠ kd)) => ?_)
        · show cw_C _ _ [vr x_log_, vi 1, vi j, vi (m x_will_kinds_ j)] (m) _
          refine Lo_noteQ hm hs ⟨(lg_ok hm), ?_⟩
          refine And.intro (show 0 ≤ j ∧ j < 6 by omega) ?_
          have hm24 : la_ok (cw_put (lg m 1 j (m x_will_kinds_ j)) x_will_kinds_ j kd) := la_put (lg_ok hm) (by decide) (Or.inr (by decide))
          show cw_C _ _ [vr x_] (cw_put (lg m 1 j (m x_will_kinds_ j)) x_will_kinds_ j kd) _
          refine C_outdate hm24 ⟨(la_put (la_put hm24 (by decide) (Or.inl rfl)) (by decide) (Or.inl rfl)), ?_⟩
          show Q (some (vi (m x_will_kinds_ j))) (cw_put (cw_put (cw_put (lg m 1 j (m x_will_kinds_ j)) x_will_kinds_ j kd) x_ 19 1) x_settler_ 0 (-1))
          exact hok (by omega)
        · show Q (some (vi (-3))) (m)
          exact h3 (by omega)
      · refine br_f (show ¬ ((0 : Int) ≠ 0) by decide) ?_
        show Q (some (vi (-2))) (m)
        exact h2 (by omega)
    · show Q (some (vi (-1))) (m)
      exact h1 (by omega)
theorem C_doPass {d : Nat} {m : cw_M} {Q : Option cw_V → cw_M → Prop} (hm : la_ok m) (ht : 0 ≤ m x_will_terms_ 0 ∧ m x_will_terms_ 0 ≤ 999) (hc : m cw_TERM 0 = 999) (hs : 0 ≤ m x_log_ 0 ∧ m x_log_ 0 ≤ 16) (h3 : m x_will_terms_ 0 = 999 → Q (some (vi (-3))) m) (hok : m x_will_terms_ 0 < 999 → Q (some (vi (m x_will_terms_ 0 + 1))) (cw_put (cw_put (cw_put (lg m 3 0 (m x_will_terms_ 0)) x_will_terms_ 0 (m x_will_terms_ 0 + 1)) x_ 19 1) x_settler_ 0 (-1))) : cw_C (d + 1) k_C_doPass [vr x_] m Q := by
  refine la_go_C hm 34 [] ?_
  refine And.intro (show 0 ≤ 0 ∧ 0 < 4 by omega) ?_
  refine And.intro (show 0 ≤ 0 ∧ 0 < 4 by omega) ?_
  refine And.intro (fun (c21 : m x_will_terms_ 0 < m cw_TERM 0) => ?_) (fun (c21 : ¬ (m x_will_terms_ 0 < m cw_TERM 0)) => ?_)
  · show cw_C _ _ [vr x_log_, vi 3, vi 0, vi (m x_will_terms_ 0)] (m) _
    refine Lo_noteQ hm hs ⟨(lg_ok hm), ?_⟩
    refine And.intro (show -2147483648 ≤ (m x_will_terms_ 0) + 1 ∧ (m x_will_terms_ 0) + 1 < 2147483648 by omega) ?_
    refine And.intro (show 0 ≤ 0 ∧ 0 < 4 by omega) ?_
    have hm22 : la_ok (cw_put (lg m 3 0 (m x_will_terms_ 0)) x_will_terms_ 0 ((m x_will_terms_ 0) + 1)) := la_put (lg_ok hm) (by decide) (Or.inr (by decide))
    show cw_C _ _ [vr x_] (cw_put (lg m 3 0 (m x_will_terms_ 0)) x_will_terms_ 0 ((m x_will_terms_ 0) + 1)) _
    refine C_outdate hm22 ⟨(la_put (la_put hm22 (by decide) (Or.inl rfl)) (by decide) (Or.inl rfl)), ?_⟩
    refine And.intro (show -2147483648 ≤ (m x_will_terms_ 0) + 1 ∧ (m x_will_terms_ 0) + 1 < 2147483648 by omega) ?_
    show Q (some (vi ((m x_will_terms_ 0) + 1))) (cw_put (cw_put (cw_put (lg m 3 0 (m x_will_terms_ 0)) x_will_terms_ 0 ((m x_will_terms_ 0) + 1)) x_ 19 1) x_settler_ 0 (-1))
    exact hok (by omega)
  · show Q (some (vi (-3))) (m)
    exact h3 (by omega)
