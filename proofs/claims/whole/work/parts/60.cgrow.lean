/-! The forest grows and is sifted (wip/whole/tools/m60.py). -/
theorem t_pm_f {m : cw_M} {de ab li : Int → Int} {tr co jo : Int} {f : Nat} {t a n k dp ov : Int} : t_pm (f_m m de ab li tr co jo) f t a n k dp ov = f_m m (t_w de (6 * t) a n (fun x => (t_q f a n k dp ov x).2.2.1)) (t_wa ab t a n (fun x => (t_q f a n k dp ov x).2.2.2)) li tr co jo := by
  unfold t_pm
  rw [f_m_de, f_m_ab, f_m_rde, f_m_rab]
/-- so many trees stand in the rows -/
def F_k (w k : Int) (de ab : Int → Int) : Prop := (∀ t x, 0 ≤ t → t < k → 0 ≤ x → x < w → de (6 * t + x) = t_dp w t x) ∧ (∀ i, 0 ≤ i → i < 108 → ∀ b : Nat, b < 64 → (l_b (ab i) b = true ↔ (64 * (i % 3) + b < k ∧ i / 3 % 6 < w ∧ t_ov w (64 * (i % 3) + b) (i / 3 % 6) = i / 18)))
theorem F_ks {w k : Int} {de ab : Int → Int} (hw : w ≤ 6) (hk : 0 ≤ k ∧ k < t_c w) (h1 : 0 ≤ w) (h : F_k w k de ab) : F_k w (k + 1) (t_w de (6 * k) 0 w (fun x => (t_q 6 0 w k 0 (-1) x).2.2.1)) (t_wa ab k 0 w (fun x => (t_q 6 0 w k 0 (-1) x).2.2.2)) := by
  have hc := t_cpos (n := w) (by omega)
  refine ⟨fun t x t0 t1 x0 x1 => ?_, fun i i0 i1 b hb => ?_⟩
  · by_cases e : t = k
    · subst e; rw [t_wi (by omega)]; rfl
    · rw [t_wo (by omega)]; exact h.1 t x t0 (by omega) x0 x1
  · have hh := h.2 i i0 i1 b hb
    unfold t_wa
    by_cases c : 0 ≤ i ∧ (0 ≤ i / 3 % 6 ∧ i / 3 % 6 < 0 + w) ∧ (fun x => (t_q 6 0 w k 0 (-1) x).2.2.2) (i / 3 % 6) = i / 18 ∧ i % 3 = k / 64
    · rw [if_pos c, l_or, l_shl (by omega) hb, Bool.or_eq_true, hh, decide_eq_true_eq]
      have c3 : t_ov w k (i / 3 % 6) = i / 18 := c.2.2.1
      constructor
      · rintro (q | q)
        · exact ⟨by omega, q.2⟩
        · have e : 64 * (i % 3) + (b : Int) = k := by omega
          rw [e]; exact ⟨by omega, by omega, c3⟩
      · rintro ⟨q1, q2, q3⟩
        by_cases e : 64 * (i % 3) + (b : Int) = k
        · right; omega
        · left; exact ⟨by omega, q2, q3⟩
    · rw [if_neg c, hh]
      constructor
      · rintro ⟨q1, q2, q3⟩; exact ⟨by omega, q2, q3⟩
      · rintro ⟨q1, q2, q3⟩
        refine ⟨?_, q2, q3⟩
        by_cases e : 64 * (i % 3) + (b : Int) = k
        · exfalso; apply c
          rw [e] at q3
          exact ⟨i0, by omega, q3, by omega⟩
        · omega
def F_tr (w : Int) : Int := if w < 0 then 0 else t_c w
def F_ok (w tr : Int) (de ab : Int → Int) : Prop := (-1 ≤ w ∧ w ≤ 6) ∧ tr = F_tr w ∧ F_k w tr de ab
theorem F_trr {w : Int} (h : -1 ≤ w ∧ w ≤ 6) : (w = -1 ∧ F_tr w = 0) ∨ (0 ≤ w ∧ F_tr w = t_c w ∧ 0 < F_tr w ∧ F_tr w ≤ 132) := by
  unfold F_tr
  by_cases c : w < 0
  · left; rw [if_pos c]; omega
  · right; rw [if_neg c]; have := t_cpos (n := w) (by omega); omega
theorem F_tm {n : Int} (h : 0 ≤ n ∧ n ≤ 7) : F_tr (n - 1) = t_tm n := by
  unfold F_tr t_tm
  by_cases c : n = 0
  · rw [if_pos (by omega), if_pos c]
  · rw [if_neg (by omega), if_neg c]
theorem Fo_grow {d : Nat} {m : cw_M} {Q : Option cw_V → cw_M → Prop} (hm0 : la_ok m) (hT : ∀ j, 0 ≤ j → j < 7 → m cw_TREES j = t_c j) {de ab li : Int → Int} {tr co jo : Int} {w : Int} (hw : -1 ≤ w ∧ w ≤ 6) (hF0 : F_ok jo tr de ab) (hQ : ∀ de ab, F_ok w (F_tr w) de ab → Q none (f_m m de ab li (F_tr w) co w)) : cw_C (d + 7) k_Fo_grow [vr x_forest_, vi w] (f_m m de ab li tr co jo) Q := by
  have l64 : ∀ (r : Nat) (k : Int) (de ab : Int → Int), (F_tr w) < k + r → (0 ≤ k ∧ k ≤ (F_tr w)) → (F_k w k de ab) → cw_R (d + 7) k_Fo_grow 64 [vr x_forest_, vi w, vi k] [] (f_m m de ab li (F_tr w) co w) Q := by
    intro r
    induction r with
    | zero =>
      intro k de ab hr hk hF
      omega
    | succ r ih =>
      intro k de ab hr hk hF
      have hm : la_ok (f_m m de ab li (F_tr w) co w) := f_m_ok hm0
      have tq := F_trr hw
      refine la_go_R hm 18 [64] ?_
      refine And.intro (fun (c1 : (F_tr w) ≤ k) => ?_) (fun (c1 : ¬ ((F_tr w) ≤ k)) => ?_)
      · show Q none (f_m m de ab li (F_tr w) co w)
        rw [show k = (F_tr w) by omega] at hF
        exact hQ de ab ⟨hw, rfl, hF⟩
      · show cw_C _ _ [vr x_forest_, vi k, vi 0, vi w, vi k, vi (-1), vi 0] (f_m m de ab li (F_tr w) co w) _
        refine Fo_place 6 (n := w) (k := k) hm hT (by omega) (by omega) (by omega) (by omega) (by omega) (by omega) (by omega) rfl (by omega) (by omega) (by omega) ?_
        rw [t_pm_f]
        refine ⟨(f_m_ok hm0), ?_⟩
        refine And.intro (show -2147483648 ≤ k + 1 ∧ k + 1 < 2147483648 by omega) ?_
        show cw_R _ _ 64 [vr x_forest_, vi w, vi (k + 1)] [] (f_m m (t_w de (6 * k) 0 w (fun x => (t_q 6 0 w k 0 (-1) x).2.2.1)) (t_wa ab k 0 w (fun x => (t_q 6 0 w k 0 (-1) x).2.2.2)) li (F_tr w) co w) _
        exact ih (k + 1) _ _ (by omega) (by omega) (F_ks (by omega) (by omega) (by omega) hF)
  have l40 : ∀ (r : Nat) (k : Int) (ab : Int → Int), 108 < k + r → (0 ≤ k ∧ k ≤ 108) → (∀ i, 0 ≤ i → i < k → ab i = 0) → cw_R (d + 7) k_Fo_grow 40 [vr x_forest_, vi w, vi k] [] (f_m m de ab li (F_tr w) co w) Q := by
    intro r
    induction r with
    | zero =>
      intro k ab hr hk hz
      omega
    | succ r ih =>
      intro k ab hr hk hz
      have hm : la_ok (f_m m de ab li (F_tr w) co w) := f_m_ok hm0
      have tq := F_trr hw
      refine la_go_R hm 15 [40, 64] ?_
      refine And.intro (fun (c1 : 108 ≤ k) => ?_) (fun (c1 : ¬ (108 ≤ k)) => ?_)
      · show cw_R _ _ 64 [vr x_forest_, vi w, vi 0] [] (f_m m de ab li (F_tr w) co w) _
        refine l64 (((F_tr w)).toNat + 1) 0 de ab (by omega) (by omega) ⟨fun t x t0 t1 => by omega, fun i i0 i1 b hb => ?_⟩
        rw [hz i i0 (by omega), l_0]
        constructor
        · intro q; cases q
        · intro q; omega
      · refine And.intro (show 0 ≤ k ∧ k < 108 by omega) ?_
        have hm2 : la_ok (cw_put (f_m m de ab li (F_tr w) co w) x_forest_above_ k 0) := la_put hm (by decide) (Or.inr (by decide))
        refine And.intro (show -2147483648 ≤ k + 1 ∧ k + 1 < 2147483648 by omega) ?_
        show cw_R _ _ 40 [vr x_forest_, vi w, vi (k + 1)] [] (cw_put (f_m m de ab li (F_tr w) co w) x_forest_above_ k 0) _
        rw [f_m_pab]
        refine ih (k + 1) _ (by omega) (by omega) (fun i i0 i1 => ?_)
        by_cases e : i = k
        · rw [e, cw_up_eq]
        · rw [cw_up_ne e]; exact hz i i0 (by omega)
  have hm : la_ok (f_m m de ab li tr co jo) := f_m_ok hm0
  refine la_go_C hm 23 [40] ?_
  refine And.intro (fun (c1 : w ≠ jo) => ?_) (fun (c1 : ¬ (w ≠ jo)) => ?_)
  · have hm2 : la_ok (cw_put (f_m m de ab li tr co jo) x_forest_ 5 w) := la_put hm (by decide) (Or.inl rfl)
    show cw_C _ _ [vi w, vi 7] (cw_put (f_m m de ab li tr co jo) x_forest_ 5 w) _
    refine C_isBelow (fun (a3 : 0 ≤ w) (a4 : w < 7) => ⟨hm2, ?_⟩) (fun (a5 : ¬ (0 ≤ w ∧ w < 7)) => ⟨hm2, ?_⟩)
    · refine br_f (by decide) ?_
      refine And.intro (show 0 ≤ w ∧ w < 7 by omega) ?_
      have hm6 : la_ok (cw_put (cw_put (f_m m de ab li tr co jo) x_forest_ 5 w) x_forest_ 0 (m cw_TREES w)) := la_put hm2 (by decide) (Or.inl rfl)
      show cw_R _ _ 40 [vr x_forest_, vi w, vi 0] [] (cw_put (cw_put (f_m m de ab li tr co jo) x_forest_ 5 w) x_forest_ 0 (m cw_TREES w)) _
      refine la_go_R0 (m' := f_m m de ab li (F_tr w) co w) (by rw [f_m_fjo, f_m_ftr, show m cw_TREES w = (F_tr w) by rw [hT _ (by omega) (by omega)]; unfold F_tr; rw [if_neg (by omega)]]) ?_
      exact l40 109 0 ab (by omega) (by omega) (fun i i0 i1 => by omega)
    · refine br_t (by decide) ?_
      have hm7 : la_ok (cw_put (cw_put (f_m m de ab li tr co jo) x_forest_ 5 w) x_forest_ 0 0) := la_put hm2 (by decide) (Or.inl rfl)
      show cw_R _ _ 40 [vr x_forest_, vi w, vi 0] [] (cw_put (cw_put (f_m m de ab li tr co jo) x_forest_ 5 w) x_forest_ 0 0) _
      refine la_go_R0 (m' := f_m m de ab li (F_tr w) co w) (by rw [f_m_fjo, f_m_ftr, show 0 = (F_tr w) by unfold F_tr; rw [if_pos (by omega)]]) ?_
      exact l40 109 0 ab (by omega) (by omega) (fun i i0 i1 => by omega)
  · show Q none (f_m m de ab li tr co jo)
    have e : w = jo := by omega
    subst e
    obtain ⟨z1, rfl, z2⟩ := hF0
    exact hQ de ab ⟨z1, rfl, z2⟩
