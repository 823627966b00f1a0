/-! Names, by the class, as memories (wip/whole/tools/m134.py). -/
/-- a name can be joined to so many -/
def c_cj (n kd mk p : Int) : Prop := (0 ≤ kd ∧ kd ≤ (if n = 0 then 0 else 2)) ∧ (0 ≤ mk ∧ mk ≤ (if n = 0 then 0 else 3)) ∧ 0 ≤ p ∧ p < 6
theorem Wi_canJoin {d : Nat} {m : cw_M} {Q : Option cw_V → cw_M → Prop} {kd mk p : Int} (hm : la_ok m) (h1 : c_cj (m x_will_ 0) kd mk p → Q (some (vi 1)) m) (h0 : ¬ c_cj (m x_will_ 0) kd mk p → Q (some (vi 0)) m) : cw_C (d + 1) k_Wi_canJoin [vr x_will_, vi kd, vi mk, vi p] m Q := by
  refine la_go_C hm 32 [] ?_
  refine And.intro (fun (c21 : m x_will_ 0 ≠ 0) => ?_) (fun (c21 : ¬ (m x_will_ 0 ≠ 0)) => ?_)
  · refine And.intro (fun (c22 : m x_will_ 0 ≠ 0) => ?_) (fun (c22 : ¬ (m x_will_ 0 ≠ 0)) => ?_)
    · refine And.intro (fun (c23 : kd < 0) => ?_) (fun (c23 : ¬ (kd < 0)) => ?_)
      · refine And.intro (Or.inl rfl) ?_
        show Q (some (vi 0)) (m)
        exact h0 (by unfold c_cj; rintro ⟨⟨z1, z2⟩, ⟨z3, z4⟩, z5⟩; split at z2 <;> split at z4 <;> omega)
      · refine And.intro (fun (c24 : 2 < kd) => ?_) (fun (c24 : ¬ (2 < kd)) => ?_)
        · refine And.intro (Or.inl rfl) ?_
          show Q (some (vi 0)) (m)
          exact h0 (by unfold c_cj; rintro ⟨⟨z1, z2⟩, ⟨z3, z4⟩, z5⟩; split at z2 <;> split at z4 <;> omega)
        · refine And.intro (fun (c25 : mk < 0) => ?_) (fun (c25 : ¬ (mk < 0)) => ?_)
          · refine And.intro (Or.inl rfl) ?_
            show Q (some (vi 0)) (m)
            exact h0 (by unfold c_cj; rintro ⟨⟨z1, z2⟩, ⟨z3, z4⟩, z5⟩; split at z2 <;> split at z4 <;> omega)
          · refine And.intro (fun (c26 : 3 < mk) => ?_) (fun (c26 : ¬ (3 < mk)) => ?_)
            · refine And.intro (Or.inl rfl) ?_
              show Q (some (vi 0)) (m)
              exact h0 (by unfold c_cj; rintro ⟨⟨z1, z2⟩, ⟨z3, z4⟩, z5⟩; split at z2 <;> split at z4 <;> omega)
            · show cw_C _ _ [vi p, vi 6] (m) _
              refine C_isBelow (fun (a27 : 0 ≤ p) (a28 : p < 6) => ⟨hm, ?_⟩) (fun (a29 : ¬ (0 ≤ p ∧ p < 6)) => ⟨hm, ?_⟩)
              · refine br_f (show ¬ ((1 : Int) = 0) by decide) ?_
                refine And.intro (Or.inr rfl) ?_
                show Q (some (vi 1)) (m)
                exact h1 (by unfold c_cj; refine ⟨⟨by omega, ?_⟩, ⟨by omega, ?_⟩, by omega⟩ <;> split <;> omega)
              · refine br_t (show (0 : Int) = 0 by decide) ?_
                refine And.intro (Or.inl rfl) ?_
                show Q (some (vi 0)) (m)
                exact h0 (by unfold c_cj; rintro ⟨⟨z1, z2⟩, ⟨z3, z4⟩, z5⟩; split at z2 <;> split at z4 <;> omega)
    · refine And.intro (fun (c30 : kd < 0) => ?_) (fun (c30 : ¬ (kd < 0)) => ?_)
      · refine And.intro (Or.inl rfl) ?_
        show Q (some (vi 0)) (m)
        exact h0 (by unfold c_cj; rintro ⟨⟨z1, z2⟩, ⟨z3, z4⟩, z5⟩; split at z2 <;> split at z4 <;> omega)
      · refine And.intro (fun (c31 : 2 < kd) => ?_) (fun (c31 : ¬ (2 < kd)) => ?_)
        · refine And.intro (Or.inl rfl) ?_
          show Q (some (vi 0)) (m)
          exact h0 (by unfold c_cj; rintro ⟨⟨z1, z2⟩, ⟨z3, z4⟩, z5⟩; split at z2 <;> split at z4 <;> omega)
        · refine And.intro (fun (c32 : mk < 0) => ?_) (fun (c32 : ¬ (mk < 0)) => ?_)
          · refine And.intro (Or.inl rfl) ?_
            show Q (some (vi 0)) (m)
            exact h0 (by unfold c_cj; rintro ⟨⟨z1, z2⟩, ⟨z3, z4⟩, z5⟩; split at z2 <;> split at z4 <;> omega)
          · refine And.intro (fun (c33 : 0 < mk) => ?_) (fun (c33 : ¬ (0 < mk)) => ?_)
            · refine And.intro (Or.inl rfl) ?_
              show Q (some (vi 0)) (m)
              exact h0 (by unfold c_cj; rintro ⟨⟨z1, z2⟩, ⟨z3, z4⟩, z5⟩; split at z2 <;> split at z4 <;> omega)
            · show cw_C _ _ [vi p, vi 6] (m) _
              refine C_isBelow (fun (a34 : 0 ≤ p) (a35 : p < 6) => ⟨hm, ?_⟩) (fun (a36 : ¬ (0 ≤ p ∧ p < 6)) => ⟨hm, ?_⟩)
              · refine br_f (show ¬ ((1 : Int) = 0) by decide) ?_
                refine And.intro (Or.inr rfl) ?_
                show Q (some (vi 1)) (m)
                exact h1 (by unfold c_cj; refine ⟨⟨by omega, ?_⟩, ⟨by omega, ?_⟩, by omega⟩ <;> split <;> omega)
              · refine br_t (show (0 : Int) = 0 by decide) ?_
                refine And.intro (Or.inl rfl) ?_
                show Q (some (vi 0)) (m)
                exact h0 (by unfold c_cj; rintro ⟨⟨z1, z2⟩, ⟨z3, z4⟩, z5⟩; split at z2 <;> split at z4 <;> omega)
  · refine And.intro (fun (c37 : m x_will_ 0 ≠ 0) => ?_) (fun (c37 : ¬ (m x_will_ 0 ≠ 0)) => ?_)
    · refine And.intro (fun (c38 : kd < 0) => ?_) (fun (c38 : ¬ (kd < 0)) => ?_)
      · refine And.intro (Or.inl rfl) ?_
        show Q (some (vi 0)) (m)
        exact h0 (by unfold c_cj; rintro ⟨⟨z1, z2⟩, ⟨z3, z4⟩, z5⟩; split at z2 <;> split at z4 <;> omega)
      · refine And.intro (fun (c39 : 0 < kd) => ?_) (fun (c39 : ¬ (0 < kd)) => ?_)
        · refine And.intro (Or.inl rfl) ?_
          show Q (some (vi 0)) (m)
          exact h0 (by unfold c_cj; rintro ⟨⟨z1, z2⟩, ⟨z3, z4⟩, z5⟩; split at z2 <;> split at z4 <;> omega)
        · refine And.intro (fun (c40 : mk < 0) => ?_) (fun (c40 : ¬ (mk < 0)) => ?_)
          · refine And.intro (Or.inl rfl) ?_
            show Q (some (vi 0)) (m)
            exact h0 (by unfold c_cj; rintro ⟨⟨z1, z2⟩, ⟨z3, z4⟩, z5⟩; split at z2 <;> split at z4 <;> omega)
          · refine And.intro (fun (c41 : 3 < mk) => ?_) (fun (c41 : ¬ (3 < mk)) => ?_)
            · refine And.intro (Or.inl rfl) ?_
              show Q (some (vi 0)) (m)
              exact h0 (by unfold c_cj; rintro ⟨⟨z1, z2⟩, ⟨z3, z4⟩, z5⟩; split at z2 <;> split at z4 <;> omega)
            · show cw_C _ _ [vi p, vi 6] (m) _
              refine C_isBelow (fun (a42 : 0 ≤ p) (a43 : p < 6) => ⟨hm, ?_⟩) (fun (a44 : ¬ (0 ≤ p ∧ p < 6)) => ⟨hm, ?_⟩)
              · refine br_f (show ¬ ((1 : Int) = 0) by decide) ?_
                refine And.intro (Or.inr rfl) ?_
                show Q (some (vi 1)) (m)
                exact h1 (by unfold c_cj; refine ⟨⟨by omega, ?_⟩, ⟨by omega, ?_⟩, by omega⟩ <;> split <;> omega)
              · refine br_t (show (0 : Int) = 0 by decide) ?_
                refine And.intro (Or.inl rfl) ?_
                show Q (some (vi 0)) (m)
                exact h0 (by unfold c_cj; rintro ⟨⟨z1, z2⟩, ⟨z3, z4⟩, z5⟩; split at z2 <;> split at z4 <;> omega)
    · refine And.intro (fun (c45 : kd < 0) => ?_) (fun (c45 : ¬ (kd < 0)) => ?_)
      · refine And.intro (Or.inl rfl) ?_
        show Q (some (vi 0)) (m)
        exact h0 (by unfold c_cj; rintro ⟨⟨z1, z2⟩, ⟨z3, z4⟩, z5⟩; split at z2 <;> split at z4 <;> omega)
      · refine And.intro (fun (c46 : 0 < kd) => ?_) (fun (c46 : ¬ (0 < kd)) => ?_)
        · refine And.intro (Or.inl rfl) ?_
          show Q (some (vi 0)) (m)
          exact h0 (by unfold c_cj; rintro ⟨⟨z1, z2⟩, ⟨z3, z4⟩, z5⟩; split at z2 <;> split at z4 <;> omega)
        · refine And.intro (fun (c47 : mk < 0) => ?_) (fun (c47 : ¬ (mk < 0)) => ?_)
          · refine And.intro (Or.inl rfl) ?_
            show Q (some (vi 0)) (m)
            exact h0 (by unfold c_cj; rintro ⟨⟨z1, z2⟩, ⟨z3, z4⟩, z5⟩; split at z2 <;> split at z4 <;> omega)
          · refine And.intro (fun (c48 : 0 < mk) => ?_) (fun (c48 : ¬ (0 < mk)) => ?_)
            · refine And.intro (Or.inl rfl) ?_
              show Q (some (vi 0)) (m)
              exact h0 (by unfold c_cj; rintro ⟨⟨z1, z2⟩, ⟨z3, z4⟩, z5⟩; split at z2 <;> split at z4 <;> omega)
            · show cw_C _ _ [vi p, vi 6] (m) _
              refine C_isBelow (fun (a49 : 0 ≤ p) (a50 : p < 6) => ⟨hm, ?_⟩) (fun (a51 : ¬ (0 ≤ p ∧ p < 6)) => ⟨hm, ?_⟩)
              · refine br_f (show ¬ ((1 : Int) = 0) by decide) ?_
                refine And.intro (Or.inr rfl) ?_
                show Q (some (vi 1)) (m)
                exact h1 (by unfold c_cj; refine ⟨⟨by omega, ?_⟩, ⟨by omega, ?_⟩, by omega⟩ <;> split <;> omega)
              · refine br_t (show (0 : Int) = 0 by decide) ?_
                refine And.intro (Or.inl rfl) ?_
                show Q (some (vi 0)) (m)
                exact h0 (by unfold c_cj; rintro ⟨⟨z1, z2⟩, ⟨z3, z4⟩, z5⟩; split at z2 <;> split at z4 <;> omega)
theorem Wi_append {d : Nat} {m : cw_M} {Q : Option cw_V → cw_M → Prop} {kd mk p : Int} (hm : la_ok m) (hn : 0 ≤ m x_will_ 0 ∧ m x_will_ 0 < 7) (h0 : m x_will_ 0 = 0 → Q none (cw_put (cw_put m x_will_owner_ (m x_will_ 0) p) x_will_ 0 (m x_will_ 0 + 1))) (h1 : 0 < m x_will_ 0 → Q none (cw_put (cw_put (cw_put (cw_put m x_will_kinds_ (m x_will_ 0 - 1) kd) x_will_marks_ (m x_will_ 0 - 1) mk) x_will_owner_ (m x_will_ 0) p) x_will_ 0 (m x_will_ 0 + 1))) : cw_C d k_Wi_append [vr x_will_, vi kd, vi mk, vi p] m Q := by
  refine la_go_C hm 35 [] ?_
  refine And.intro (fun (c21 : m x_will_ 0 ≤ 0) => ?_) (fun (c21 : ¬ (m x_will_ 0 ≤ 0)) => ?_)
  · refine And.intro (show 0 ≤ m x_will_ 0 ∧ m x_will_ 0 < 7 by omega) ?_
    have hm22 : la_ok (cw_put m x_will_owner_ (m x_will_ 0) p) := la_put hm (by decide) (Or.inr (by decide))
    refine And.intro (show -2147483648 ≤ (m x_will_ 0) + 1 ∧ (m x_will_ 0) + 1 < 2147483648 by omega) ?_
    have hm23 : la_ok (cw_put (cw_put m x_will_owner_ (m x_will_ 0) p) x_will_ 0 ((m x_will_ 0) + 1)) := la_put hm22 (by decide) (Or.inl rfl)
    show Q none (cw_put (cw_put m x_will_owner_ (m x_will_ 0) p) x_will_ 0 ((m x_will_ 0) + 1))
    exact h0 (by omega)
  · refine And.intro (show -2147483648 ≤ (m x_will_ 0) - 1 ∧ (m x_will_ 0) - 1 < 2147483648 by omega) ?_
    refine And.intro (show 0 ≤ (m x_will_ 0) - 1 ∧ (m x_will_ 0) - 1 < 6 by omega) ?_
    have hm24 : la_ok (cw_put m x_will_kinds_ ((m x_will_ 0) - 1) kd) := la_put hm (by decide) (Or.inr (by decide))
    refine And.intro (show -2147483648 ≤ (m x_will_ 0) - 1 ∧ (m x_will_ 0) - 1 < 2147483648 by omega) ?_
    refine And.intro (show 0 ≤ (m x_will_ 0) - 1 ∧ (m x_will_ 0) - 1 < 6 by omega) ?_
    have hm25 : la_ok (cw_put (cw_put m x_will_kinds_ ((m x_will_ 0) - 1) kd) x_will_marks_ ((m x_will_ 0) - 1) mk) := la_put hm24 (by decide) (Or.inr (by decide))
    refine And.intro (show 0 ≤ m x_will_ 0 ∧ m x_will_ 0 < 7 by omega) ?_
    have hm26 : la_ok (cw_put (cw_put (cw_put m x_will_kinds_ ((m x_will_ 0) - 1) kd) x_will_marks_ ((m x_will_ 0) - 1) mk) x_will_owner_ (m x_will_ 0) p) := la_put hm25 (by decide) (Or.inr (by decide))
    refine And.intro (show -2147483648 ≤ (m x_will_ 0) + 1 ∧ (m x_will_ 0) + 1 < 2147483648 by omega) ?_
    have hm27 : la_ok (cw_put (cw_put (cw_put (cw_put m x_will_kinds_ ((m x_will_ 0) - 1) kd) x_will_marks_ ((m x_will_ 0) - 1) mk) x_will_owner_ (m x_will_ 0) p) x_will_ 0 ((m x_will_ 0) + 1)) := la_put hm26 (by decide) (Or.inl rfl)
    show Q none (cw_put (cw_put (cw_put (cw_put m x_will_kinds_ ((m x_will_ 0) - 1) kd) x_will_marks_ ((m x_will_ 0) - 1) mk) x_will_owner_ (m x_will_ 0) p) x_will_ 0 ((m x_will_ 0) + 1))
    exact h1 (by omega)
