/-! Small changes, by the class, as memories (wip/whole/tools/m131.py). -/
def c_fb (m : cw_M) : Prop := ∀ i, 0 ≤ i → i < 5 → 0 ≤ m x_refusals_ i ∧ m x_refusals_ i < 100000
theorem C_told {d : Nat} {m : cw_M} {Q : Option cw_V → cw_M → Prop} {p mu : Int} (hm : la_ok m) (hr : c_fb m) (h8 : 0 ≤ m x_will_ 8 ∧ m x_will_ 8 ≤ 6) (h1 : ¬ ((0 ≤ p ∧ p < 6) ∧ 0 ≤ mu ∧ mu ≤ 9999) → Q (some (vi (-1))) (cr_m m (-1) 0)) (h5 : (((0 ≤ p ∧ p < 6) ∧ 0 ≤ mu ∧ mu ≤ 9999) ∧ m x_will_ 8 = 6) → Q (some (vi (-5))) (cr_m m (-5) 3)) (hok : (((0 ≤ p ∧ p < 6) ∧ 0 ≤ mu ∧ mu ≤ 9999) ∧ m x_will_ 8 < 6) → Q (some (vi (m x_will_ 8 + 1))) (cw_put (cw_put (cw_put (cw_put m x_will_toldOf_ (m x_will_ 8) p) x_will_toldMuch_ (m x_will_ 8) mu) x_will_ 8 (m x_will_ 8 + 1)) x_ 16 0)) : cw_C (d + 1) k_C_told [vr x_, vi p, vi mu] m Q := by
  refine la_go_C hm 46 [] ?_
  show cw_C _ _ [vi p, vi 6] (m) _
  refine C_isBelow (fun (a21 : 0 ≤ p) (a22 : p < 6) => ⟨hm, ?_⟩) (fun (a23 : ¬ (0 ≤ p ∧ p < 6)) => ⟨hm, ?_⟩)
  · refine br_f (show ¬ ((1 : Int) = 0) by decide) ?_
    refine And.intro (fun (c24 : mu < 0) => ?_) (fun (c24 : ¬ (mu < 0)) => ?_)
    · show cw_C _ _ [vr x_, vi (-1)] (m) _
      refine C_refuse1 hm (hr 0 (by decide) (by decide)) ⟨(cr_ok hm), ?_⟩
      show Q (some (vi (-1))) (cr_m m (-1) 0)
      exact h1 (by omega)
    · refine And.intro (fun (c25 : mu ≤ 9999) => ?_) (fun (c25 : ¬ (mu ≤ 9999)) => ?_)
      · refine And.intro (fun (c26 : m x_will_ 8 < 6) => ?_) (fun (c26 : ¬ (m x_will_ 8 < 6)) => ?_)
        · refine And.intro (show 0 ≤ m x_will_ 8 ∧ m x_will_ 8 < 6 by omega) ?_
          have hm27 : la_ok (cw_put m x_will_toldOf_ (m x_will_ 8) p) := la_put hm (by decide) (Or.inr (by decide))
          refine And.intro (show 0 ≤ m x_will_ 8 ∧ m x_will_ 8 < 6 by omega) ?_
          have hm28 : la_ok (cw_put (cw_put m x_will_toldOf_ (m x_will_ 8) p) x_will_toldMuch_ (m x_will_ 8) mu) := la_put hm27 (by decide) (Or.inr (by decide))
          refine And.intro (show -2147483648 ≤ (m x_will_ 8) + 1 ∧ (m x_will_ 8) + 1 < 2147483648 by omega) ?_
          have hm29 : la_ok (cw_put (cw_put (cw_put m x_will_toldOf_ (m x_will_ 8) p) x_will_toldMuch_ (m x_will_ 8) mu) x_will_ 8 ((m x_will_ 8) + 1)) := la_put hm28 (by decide) (Or.inl rfl)
          show cw_C _ _ [vr x_, vi ((m x_will_ 8) + 1)] (cw_put (cw_put (cw_put m x_will_toldOf_ (m x_will_ 8) p) x_will_toldMuch_ (m x_will_ 8) mu) x_will_ 8 ((m x_will_ 8) + 1)) _
          refine C_accept hm29 ⟨(la_put hm29 (by decide) (Or.inl rfl)), ?_⟩
          show Q (some (vi ((m x_will_ 8) + 1))) (cw_put (cw_put (cw_put (cw_put m x_will_toldOf_ (m x_will_ 8) p) x_will_toldMuch_ (m x_will_ 8) mu) x_will_ 8 ((m x_will_ 8) + 1)) x_ 16 0)
          exact hok (by omega)
        · show cw_C _ _ [vr x_, vi (-5)] (m) _
          refine C_refuse5 hm (hr 3 (by decide) (by decide)) ⟨(cr_ok hm), ?_⟩
          show Q (some (vi (-5))) (cr_m m (-5) 3)
          exact h5 (by omega)
      · show cw_C _ _ [vr x_, vi (-1)] (m) _
        refine C_refuse1 hm (hr 0 (by decide) (by decide)) ⟨(cr_ok hm), ?_⟩
        show Q (some (vi (-1))) (cr_m m (-1) 0)
        exact h1 (by omega)
  · refine br_t (show (0 : Int) = 0 by decide) ?_
    show cw_C _ _ [vr x_, vi (-1)] (m) _
    refine C_refuse1 hm (hr 0 (by decide) (by decide)) ⟨(cr_ok hm), ?_⟩
    show Q (some (vi (-1))) (cr_m m (-1) 0)
    exact h1 (by omega)
theorem C_judge {d : Nat} {m : cw_M} {Q : Option cw_V → cw_M → Prop} {rd : Int} (hm : la_ok m) (hr : c_fb m) (h6 : 0 ≤ m x_will_ 6 ∧ m x_will_ 6 ≤ 5) (h1 : ¬ (0 ≤ rd ∧ rd < 132) → Q (some (vi (-1))) (cr_m m (-1) 0)) (h5 : ((0 ≤ rd ∧ rd < 132) ∧ m x_will_ 6 = 5) → Q (some (vi (-5))) (cr_m m (-5) 3)) (hok : ((0 ≤ rd ∧ rd < 132) ∧ m x_will_ 6 < 5) → Q (some (vi (m x_will_ 6 + 1))) (cw_put (cw_put (cw_put m x_will_held_ (m x_will_ 6) rd) x_will_ 6 (m x_will_ 6 + 1)) x_ 16 0)) : cw_C (d + 1) k_C_judge [vr x_, vi rd] m Q := by
  refine la_go_C hm 33 [] ?_
  show cw_C _ _ [vi rd, vi 132] (m) _
  refine C_isBelow (fun (a21 : 0 ≤ rd) (a22 : rd < 132) => ⟨hm, ?_⟩) (fun (a23 : ¬ (0 ≤ rd ∧ rd < 132)) => ⟨hm, ?_⟩)
  · refine br_t (show (1 : Int) ≠ 0 by decide) ?_
    refine And.intro (fun (c24 : m x_will_ 6 < 5) => ?_) (fun (c24 : ¬ (m x_will_ 6 < 5)) => ?_)
    · refine And.intro (show 0 ≤ m x_will_ 6 ∧ m x_will_ 6 < 5 by omega) ?_
      have hm25 : la_ok (cw_put m x_will_held_ (m x_will_ 6) rd) := la_put hm (by decide) (Or.inr (by decide))
      refine And.intro (show -2147483648 ≤ (m x_will_ 6) + 1 ∧ (m x_will_ 6) + 1 < 2147483648 by omega) ?_
      have hm26 : la_ok (cw_put (cw_put m x_will_held_ (m x_will_ 6) rd) x_will_ 6 ((m x_will_ 6) + 1)) := la_put hm25 (by decide) (Or.inl rfl)
      show cw_C _ _ [vr x_, vi ((m x_will_ 6) + 1)] (cw_put (cw_put m x_will_held_ (m x_will_ 6) rd) x_will_ 6 ((m x_will_ 6) + 1)) _
      refine C_accept hm26 ⟨(la_put hm26 (by decide) (Or.inl rfl)), ?_⟩
      show Q (some (vi ((m x_will_ 6) + 1))) (cw_put (cw_put (cw_put m x_will_held_ (m x_will_ 6) rd) x_will_ 6 ((m x_will_ 6) + 1)) x_ 16 0)
      exact hok (by omega)
    · show cw_C _ _ [vr x_, vi (-5)] (m) _
      refine C_refuse5 hm (hr 3 (by decide) (by decide)) ⟨(cr_ok hm), ?_⟩
      show Q (some (vi (-5))) (cr_m m (-5) 3)
      exact h5 (by omega)
  · refine br_f (show ¬ ((0 : Int) ≠ 0) by decide) ?_
    show cw_C _ _ [vr x_, vi (-1)] (m) _
    refine C_refuse1 hm (hr 0 (by decide) (by decide)) ⟨(cr_ok hm), ?_⟩
    show Q (some (vi (-1))) (cr_m m (-1) 0)
    exact h1 (by omega)
theorem C_force {d : Nat} {m : cw_M} {Q : Option cw_V → cw_M → Prop} {fc : Int} (hm : la_ok m) (hr : c_fb m) (h11 : 0 ≤ m x_will_ 11 ∧ m x_will_ 11 ≤ 6) (h2 : ¬ (-1 ≤ fc ∧ fc < m x_will_ 11) → Q (some (vi (-2))) (cr_m m (-2) 1)) (hok : (-1 ≤ fc ∧ fc < m x_will_ 11) → Q (some (vi (m x_will_ 13))) (cw_put (cw_put (cw_put (cw_put m x_will_ 13 fc) x_ 19 1) x_settler_ 0 (-1)) x_ 16 0)) : cw_C (d + 1) k_C_force [vr x_, vi fc] m Q := by
  refine la_go_C hm 26 [] ?_
  refine And.intro (fun (c21 : fc = (-1)) => ?_) (fun (c21 : ¬ (fc = (-1))) => ?_)
  · have hm22 : la_ok (cw_put m x_will_ 13 fc) := la_put hm (by decide) (Or.inl rfl)
    show cw_C _ _ [vr x_] (cw_put m x_will_ 13 fc) _
    refine C_outdate hm22 ⟨(la_put (la_put hm22 (by decide) (Or.inl rfl)) (by decide) (Or.inl rfl)), ?_⟩
    show cw_C _ _ [vr x_, vi (m x_will_ 13)] (cw_put (cw_put (cw_put m x_will_ 13 fc) x_ 19 1) x_settler_ 0 (-1)) _
    refine C_accept (la_put (la_put hm22 (by decide) (Or.inl rfl)) (by decide) (Or.inl rfl)) ⟨(la_put (la_put (la_put hm22 (by decide) (Or.inl rfl)) (by decide) (Or.inl rfl)) (by decide) (Or.inl rfl)), ?_⟩
    show Q (some (vi (m x_will_ 13))) (cw_put (cw_put (cw_put (cw_put m x_will_ 13 fc) x_ 19 1) x_settler_ 0 (-1)) x_ 16 0)
    exact hok (by omega)
  · show cw_C _ _ [vi fc, vi (m x_will_ 11)] (m) _
    refine C_isBelow (fun (a23 : 0 ≤ fc) (a24 : fc < m x_will_ 11) => ⟨hm, ?_⟩) (fun (a25 : ¬ (0 ≤ fc ∧ fc < m x_will_ 11)) => ⟨hm, ?_⟩)
    · refine br_t (show (1 : Int) ≠ 0 by decide) ?_
      have hm26 : la_ok (cw_put m x_will_ 13 fc) := la_put hm (by decide) (Or.inl rfl)
      show cw_C _ _ [vr x_] (cw_put m x_will_ 13 fc) _
      refine C_outdate hm26 ⟨(la_put (la_put hm26 (by decide) (Or.inl rfl)) (by decide) (Or.inl rfl)), ?_⟩
      show cw_C _ _ [vr x_, vi (m x_will_ 13)] (cw_put (cw_put (cw_put m x_will_ 13 fc) x_ 19 1) x_settler_ 0 (-1)) _
      refine C_accept (la_put (la_put hm26 (by decide) (Or.inl rfl)) (by decide) (Or.inl rfl)) ⟨(la_put (la_put (la_put hm26 (by decide) (Or.inl rfl)) (by decide) (Or.inl rfl)) (by decide) (Or.inl rfl)), ?_⟩
      show Q (some (vi (m x_will_ 13))) (cw_put (cw_put (cw_put (cw_put m x_will_ 13 fc) x_ 19 1) x_settler_ 0 (-1)) x_ 16 0)
      exact hok (by omega)
    · refine br_f (show ¬ ((0 : Int) ≠ 0) by decide) ?_
      show cw_C _ _ [vr x_, vi (-2)] (m) _
      refine C_refuse2 hm (hr 1 (by decide) (by decide)) ⟨(cr_ok hm), ?_⟩
      show Q (some (vi (-2))) (cr_m m (-2) 1)
      exact h2 (by omega)
