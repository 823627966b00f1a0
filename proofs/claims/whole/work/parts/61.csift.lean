/-! The forest is sifted (wip/whole/tools/m61.py). -/
theorem F_out {w part t out : Int} {mk ab de : Int → Int} (hw : -1 ≤ w ∧ w ≤ 6) (hp : 0 ≤ part ∧ part < 3) (hF : F_k w (F_tr w) de ab) (hO : ∀ b : Nat, b < 64 → (l_b out b = true ↔ ∃ j k, (0 ≤ j ∧ j < w) ∧ (0 ≤ k ∧ k < w) ∧ mk j < mk k ∧ l_b (ab ((j * 6 + k) * 3 + part)) b = true)) (ht : 0 ≤ t ∧ t < F_tr w) (h1 : 64 * part ≤ t ∧ t < 64 * part + 64) : l_b out (t % 64).toNat = true ↔ ¬ t_R mk w t := by
  rw [hO _ (by omega)]
  have tq := F_trr hw
  by_cases w0 : w = 0
  · constructor
    · rintro ⟨j, k, hj, -⟩; omega
    · intro q; exfalso; apply q; intro j j0 j1; omega
  rw [t_Rov (by omega) (by omega) (by omega)]
  constructor
  · rintro ⟨j, k, hj, hk, hm, hb⟩ q
    rw [hF.2 _ (by omega) (by omega) _ (by omega)] at hb
    have e1 : ((j * 6 + k) * 3 + part) / 3 % 6 = k := by omega
    have e2 : ((j * 6 + k) * 3 + part) / 18 = j := by omega
    have e3 : 64 * (((j * 6 + k) * 3 + part) % 3) + (((t % 64).toNat : Nat) : Int) = t := by omega
    rw [e1, e2, e3] at hb
    have := q k hk.1 hk.2 (by omega)
    rw [hb.2.2] at this
    omega
  · intro q
    obtain ⟨x, q⟩ := Classical.not_forall.mp q
    obtain ⟨x0, q⟩ := Classical.not_forall.mp q
    obtain ⟨x1, q⟩ := Classical.not_forall.mp q
    obtain ⟨x2, q⟩ := Classical.not_forall.mp q
    have r4 : 0 ≤ t_ov w t x ∧ t_ov w t x < w := by
      by_cases z : x = 0 + t_top w t
      · exfalso; apply x2; unfold t_ov; rw [z, t_q_top]
      · have := (t_q_in 6 (a := 0) (n := w) (k := t) (dp := 0) (ov := -1) (x := x) (by omega) (by omega) (by omega) (by omega)).2.2.2 z
        unfold t_ov; omega
    refine ⟨t_ov w t x, x, r4, ⟨x0, x1⟩, by omega, ?_⟩
    rw [hF.2 _ (by omega) (by omega) _ (by omega)]
    have e1 : ((t_ov w t x * 6 + x) * 3 + part) / 3 % 6 = x := by omega
    have e2 : ((t_ov w t x * 6 + x) * 3 + part) / 18 = t_ov w t x := by omega
    have e3 : 64 * (((t_ov w t x * 6 + x) * 3 + part) % 3) + (((t % 64).toNat : Nat) : Int) = t := by omega
    rw [e1, e2, e3]
    exact ⟨by omega, x1, rfl⟩
/-- the trees below a bound that are readings -/
noncomputable def s_l (mk : Int → Int) (w t : Int) : List Int := t_rl (t_R mk w) (min t (F_tr w)).toNat
theorem s_l1 {mk : Int → Int} {w t : Int} (h0 : 0 ≤ t) (ht : t < F_tr w) (h : t_R mk w t) : s_l mk w (t + 1) = s_l mk w t ++ [t] := by
  unfold s_l
  rw [show (min (t + 1) (F_tr w)).toNat = t.toNat + 1 by omega, show (min t (F_tr w)).toNat = t.toNat by omega, t_rl1 (by rw [show ((t.toNat : Nat) : Int) = t by omega]; exact h), show ((t.toNat : Nat) : Int) = t by omega]
theorem s_l0 {mk : Int → Int} {w t : Int} (h0 : 0 ≤ t) (ht : t < F_tr w) (h : ¬ t_R mk w t) : s_l mk w (t + 1) = s_l mk w t := by
  unfold s_l
  rw [show (min (t + 1) (F_tr w)).toNat = t.toNat + 1 by omega, show (min t (F_tr w)).toNat = t.toNat by omega, t_rl0 (by rw [show ((t.toNat : Nat) : Int) = t by omega]; exact h)]
theorem s_lm {mk : Int → Int} {w t u : Int} (h : min t (F_tr w) = min u (F_tr w)) : s_l mk w t = s_l mk w u := by unfold s_l; rw [h]
theorem s_ll {mk : Int → Int} {w t : Int} (h0 : 0 ≤ t) : ((s_l mk w t).length : Int) ≤ t ∧ ((s_l mk w t).length : Int) ≤ max 0 (F_tr w) := by
  have := t_rll (P := t_R mk w) (min t (F_tr w)).toNat
  unfold s_l
  omega

theorem Fo_sift {d : Nat} {m : cw_M} {Q : Option cw_V → cw_M → Prop} (hm0 : la_ok m) {de ab li : Int → Int} {co w : Int} (hw : -1 ≤ w ∧ w ≤ 6) (hF : F_ok w (F_tr w) de ab) (hQ : ∀ li, (∀ i, 0 ≤ i → i < ((s_l (m x_will_marks_) w 192).length : Int) → li i = t_g (s_l (m x_will_marks_) w 192) i) → Q none (f_m m de ab li (F_tr w) ((s_l (m x_will_marks_) w 192).length : Int) w)) : cw_C d k_Fo_sift [vr x_forest_, vr x_will_marks_] (f_m m de ab li (F_tr w) co w) Q := by
  have l7 : ∀ (r : Nat) (part : Int) (li : Int → Int) (w3 w5 w6 : cw_V), 3 < part + r → (0 ≤ part ∧ part ≤ 3) → (∀ i, 0 ≤ i → i < ((s_l (m x_will_marks_) w (64 * part)).length : Int) → li i = t_g (s_l (m x_will_marks_) w (64 * part)) i) → cw_R (d) k_Fo_sift 7 [vr x_forest_, vr x_will_marks_, vi part, w3, none, w5, w6] [] (f_m m de ab li (F_tr w) ((s_l (m x_will_marks_) w (64 * part)).length : Int) w) Q := by
    intro r
    induction r with
    | zero =>
      intro part li w3 w5 w6 hr hp hli
      omega
    | succ r ih7 =>
      intro part li w3 w5 w6 hr hp hli
      have hm : la_ok (f_m m de ab li (F_tr w) ((s_l (m x_will_marks_) w (64 * part)).length : Int) w) := f_m_ok hm0
      have l87 : ∀ (out : Int) (w6 : cw_V), (∀ b : Nat, b < 64 → (l_b out b = true ↔ ∃ j k, (0 ≤ j ∧ j < w) ∧ (0 ≤ k ∧ k < w) ∧ m x_will_marks_ j < m x_will_marks_ k ∧ l_b (ab ((j * 6 + k) * 3 + part)) b = true)) → ∀ (r : Nat) (t : Int) (li : Int → Int), 64 * part + 64 < t + r → (part < 3) → (64 * part ≤ t ∧ t ≤ 64 * part + 64) → (∀ i, 0 ≤ i → i < ((s_l (m x_will_marks_) w t).length : Int) → li i = t_g (s_l (m x_will_marks_) w t) i) → cw_R (d) k_Fo_sift 87 [vr x_forest_, vr x_will_marks_, vi part, vl out, none, vi t, w6] [] (f_m m de ab li (F_tr w) ((s_l (m x_will_marks_) w t).length : Int) w) Q := by
        intro out w6 hO r
        induction r with
        | zero =>
          intro t li hr hp3 ht hli
          omega
        | succ r ih =>
          intro t li hr hp3 ht hli
          have hm : la_ok (f_m m de ab li (F_tr w) ((s_l (m x_will_marks_) w t).length : Int) w) := f_m_ok hm0
          have tq := F_trr hw
          have sl := s_ll (mk := (m x_will_marks_)) (w := w) (t := t) (by omega)
          refine la_go_R hm 38 [7, 87] ?_
          refine And.intro (fun (c1 : (F_tr w) ≤ t) => ?_) (fun (c1 : ¬ ((F_tr w) ≤ t)) => ?_)
          · refine And.intro (show -2147483648 ≤ part + 1 ∧ part + 1 < 2147483648 by omega) ?_
            show cw_R _ _ 7 [vr x_forest_, vr x_will_marks_, vi (part + 1), vl out, none, vi t, w6] [] (f_m m de ab li (F_tr w) ((s_l (m x_will_marks_) w t).length : Int) w) _
            have e := s_lm (mk := (m x_will_marks_)) (w := w) (t := t) (u := 64 * (part + 1)) (by omega)
            rw [e] at hli ⊢
            exact ih7 (part + 1) li _ _ _ (by omega) (by omega) hli
          · refine And.intro (show -2147483648 ≤ part * 64 ∧ part * 64 < 2147483648 by omega) ?_
            refine And.intro (show -2147483648 ≤ (part * 64) + 64 ∧ (part * 64) + 64 < 2147483648 by omega) ?_
            refine And.intro (fun (c2 : (part * 64) + 64 ≤ t) => ?_) (fun (c2 : ¬ ((part * 64) + 64 ≤ t)) => ?_)
            · refine And.intro (show -2147483648 ≤ part + 1 ∧ part + 1 < 2147483648 by omega) ?_
              show cw_R _ _ 7 [vr x_forest_, vr x_will_marks_, vi (part + 1), vl out, none, vi t, w6] [] (f_m m de ab li (F_tr w) ((s_l (m x_will_marks_) w t).length : Int) w) _
              have e := s_lm (mk := (m x_will_marks_)) (w := w) (t := t) (u := 64 * (part + 1)) (by omega)
              rw [e] at hli ⊢
              exact ih7 (part + 1) li _ _ _ (by omega) (by omega) hli
            · refine And.intro (fun (c3 : cw_lc (cw_land (cw_lshr out (cw_iand t 63)) 1) 0 ≠ 0) => ?_) (fun (c3 : ¬ (cw_lc (cw_land (cw_lshr out (cw_iand t 63)) 1) 0 ≠ 0)) => ?_)
              · have fo := F_out (mk := (m x_will_marks_)) hw (by omega) hF.2.2 hO (t := t) (by omega) (by omega)
                rw [(l_63 (t := t) (by omega)).1, l_bit (by omega)] at c3
                have bt : ¬ t_R (m x_will_marks_) w t := by
                  cases hb : l_b out (t % 64).toNat
                  · rw [hb] at c3; exact absurd rfl c3
                  · exact fo.mp hb
                refine And.intro (show -2147483648 ≤ t + 1 ∧ t + 1 < 2147483648 by omega) ?_
                show cw_R _ _ 87 [vr x_forest_, vr x_will_marks_, vi part, vl out, none, vi (t + 1), w6] [] (f_m m de ab li (F_tr w) ((s_l (m x_will_marks_) w t).length : Int) w) _
                have e := s_l0 (mk := (m x_will_marks_)) (w := w) (t := t) (by omega) (by omega) bt
                rw [← e]
                rw [← e] at hli
                exact ih (t + 1) _ (by omega) (by omega) (by omega) hli
              · have fo := F_out (mk := (m x_will_marks_)) hw (by omega) hF.2.2 hO (t := t) (by omega) (by omega)
                rw [(l_63 (t := t) (by omega)).1, l_bit (by omega)] at c3
                have bt : t_R (m x_will_marks_) w t := by
                  cases hb : l_b out (t % 64).toNat
                  · exact Classical.not_not.mp (fun q => by rw [fo.mpr q] at hb; cases hb)
                  · rw [hb] at c3; exact absurd (show cw_lc 1 0 ≠ 0 by decide) c3
                refine And.intro (show 0 ≤ ((s_l (m x_will_marks_) w t).length : Int) ∧ ((s_l (m x_will_marks_) w t).length : Int) < 132 by omega) ?_
                have hm4 : la_ok (cw_put (f_m m de ab li (F_tr w) ((s_l (m x_will_marks_) w t).length : Int) w) x_forest_list_ ((s_l (m x_will_marks_) w t).length : Int) t) := la_put hm (by decide) (Or.inr (by decide))
                refine And.intro (show -2147483648 ≤ ((s_l (m x_will_marks_) w t).length : Int) + 1 ∧ ((s_l (m x_will_marks_) w t).length : Int) + 1 < 2147483648 by omega) ?_
                have hm5 : la_ok (cw_put (cw_put (f_m m de ab li (F_tr w) ((s_l (m x_will_marks_) w t).length : Int) w) x_forest_list_ ((s_l (m x_will_marks_) w t).length : Int) t) x_forest_ 4 (((s_l (m x_will_marks_) w t).length : Int) + 1)) := la_put hm4 (by decide) (Or.inl rfl)
                refine And.intro (show -2147483648 ≤ t + 1 ∧ t + 1 < 2147483648 by omega) ?_
                show cw_R _ _ 87 [vr x_forest_, vr x_will_marks_, vi part, vl out, none, vi (t + 1), w6] [] (cw_put (cw_put (f_m m de ab li (F_tr w) ((s_l (m x_will_marks_) w t).length : Int) w) x_forest_list_ ((s_l (m x_will_marks_) w t).length : Int) t) x_forest_ 4 (((s_l (m x_will_marks_) w t).length : Int) + 1)) _
                have e := s_l1 (mk := (m x_will_marks_)) (w := w) (t := t) (by omega) (by omega) bt
                rw [f_m_pli, f_m_fco]
                rw [show ((s_l (m x_will_marks_) w t).length : Int) + 1 = ((s_l (m x_will_marks_) w (t + 1)).length : Int) by rw [e, List.length_append]; simp]
                refine ih (t + 1) _ (by omega) (by omega) (by omega) (fun i i0 i1 => ?_)
                rw [e] at i1 ⊢
                rw [List.length_append] at i1
                simp only [List.length_singleton] at i1
                by_cases q : i = ((s_l (m x_will_marks_) w t).length : Int)
                · rw [q, cw_up_eq, t_g2]
                · rw [cw_up_ne q, t_g1 (by omega)]; exact hli i i0 (by omega)
      have l17 : ∀ (r : Nat) (j out : Int) (w6 : cw_V), max 0 w < j + r → (part < 3) → (0 ≤ j ∧ j ≤ max 0 w) → (∀ b : Nat, b < 64 → (l_b out b = true ↔ ∃ j' k', (0 ≤ j' ∧ j' < w) ∧ (0 ≤ k' ∧ k' < w) ∧ j' < j ∧ m x_will_marks_ j' < m x_will_marks_ k' ∧ l_b (ab ((j' * 6 + k') * 3 + part)) b = true)) → cw_R (d) k_Fo_sift 17 [vr x_forest_, vr x_will_marks_, vi part, vl out, none, vi j, w6] [] (f_m m de ab li (F_tr w) ((s_l (m x_will_marks_) w (64 * part)).length : Int) w) Q := by
        intro r
        induction r with
        | zero =>
          intro j out w6 hr hp3 hj hO
          omega
        | succ r ih17 =>
          intro j out w6 hr hp3 hj hO
          have l29 : ∀ (r : Nat) (k out : Int), w < k + r → (j < w ∧ part < 3) → (0 ≤ k ∧ k ≤ w) → (∀ b : Nat, b < 64 → (l_b out b = true ↔ ∃ j' k', (0 ≤ j' ∧ j' < w) ∧ (0 ≤ k' ∧ k' < w) ∧ (j' < j ∨ (j' = j ∧ k' < k)) ∧ m x_will_marks_ j' < m x_will_marks_ k' ∧ l_b (ab ((j' * 6 + k') * 3 + part)) b = true)) → cw_R (d) k_Fo_sift 29 [vr x_forest_, vr x_will_marks_, vi part, vl out, none, vi j, vi k] [] (f_m m de ab li (F_tr w) ((s_l (m x_will_marks_) w (64 * part)).length : Int) w) Q := by
            intro r
            induction r with
            | zero =>
              intro k out hr hjw hk hO
              omega
            | succ r ih =>
              intro k out hr hjw hk hO
              refine la_go_R hm 31 [17, 29] ?_
              refine And.intro (fun (c1 : w ≤ k) => ?_) (fun (c1 : ¬ (w ≤ k)) => ?_)
              · refine And.intro (show -2147483648 ≤ j + 1 ∧ j + 1 < 2147483648 by omega) ?_
                show cw_R _ _ 17 [vr x_forest_, vr x_will_marks_, vi part, vl out, none, vi (j + 1), vi k] [] (f_m m de ab li (F_tr w) ((s_l (m x_will_marks_) w (64 * part)).length : Int) w) _
                refine ih17 (j + 1) out _ (by omega) (by omega) (by omega) (fun b hb => ?_)
                rw [hO b hb]
                constructor
                · rintro ⟨j', k', a1, a2, a3, a4⟩; exact ⟨j', k', a1, a2, by omega, a4⟩
                · rintro ⟨j', k', a1, a2, a3, a4⟩; exact ⟨j', k', a1, a2, by omega, a4⟩
              · refine And.intro (show 0 ≤ j ∧ j < 6 by omega) ?_
                refine And.intro (show 0 ≤ k ∧ k < 6 by omega) ?_
                refine And.intro (fun (c2 : m x_will_marks_ k ≤ m x_will_marks_ j) => ?_) (fun (c2 : ¬ (m x_will_marks_ k ≤ m x_will_marks_ j)) => ?_)
                · refine And.intro (show -2147483648 ≤ k + 1 ∧ k + 1 < 2147483648 by omega) ?_
                  show cw_R _ _ 29 [vr x_forest_, vr x_will_marks_, vi part, vl out, none, vi j, vi (k + 1)] [] (f_m m de ab li (F_tr w) ((s_l (m x_will_marks_) w (64 * part)).length : Int) w) _
                  refine ih (k + 1) _ (by omega) (by omega) (by omega) (fun b hb => ?_)
                  rw [hO b hb]
                  constructor
                  · rintro ⟨j', k', a1, a2, a3, a4⟩; exact ⟨j', k', a1, a2, by omega, a4⟩
                  · rintro ⟨j', k', a1, a2, a3, a4, a5⟩
                    by_cases e : j' = j ∧ k' = k
                    · obtain ⟨rfl, rfl⟩ := e; omega
                    · exact ⟨j', k', a1, a2, by omega, a4, a5⟩
                · refine And.intro (show -2147483648 ≤ j * 6 ∧ j * 6 < 2147483648 by omega) ?_
                  refine And.intro (show -2147483648 ≤ (j * 6) + k ∧ (j * 6) + k < 2147483648 by omega) ?_
                  refine And.intro (show -2147483648 ≤ ((j * 6) + k) * 3 ∧ ((j * 6) + k) * 3 < 2147483648 by omega) ?_
                  refine And.intro (show -2147483648 ≤ (((j * 6) + k) * 3) + part ∧ (((j * 6) + k) * 3) + part < 2147483648 by omega) ?_
                  refine And.intro (show 0 ≤ (((j * 6) + k) * 3) + part ∧ (((j * 6) + k) * 3) + part < 108 by omega) ?_
                  refine And.intro (show -2147483648 ≤ k + 1 ∧ k + 1 < 2147483648 by omega) ?_
                  show cw_R _ _ 29 [vr x_forest_, vr x_will_marks_, vi part, vl (cw_lor out (ab ((((j * 6) + k) * 3) + part))), none, vi j, vi (k + 1)] [] (f_m m de ab li (F_tr w) ((s_l (m x_will_marks_) w (64 * part)).length : Int) w) _
                  refine ih (k + 1) _ (by omega) (by omega) (by omega) (fun b hb => ?_)
                  rw [l_or, Bool.or_eq_true, hO b hb]
                  constructor
                  · rintro (⟨j', k', a1, a2, a3, a4⟩ | q)
                    · exact ⟨j', k', a1, a2, by omega, a4⟩
                    · exact ⟨j, k, by omega, by omega, by omega, by omega, q⟩
                  · rintro ⟨j', k', a1, a2, a3, a4, a5⟩
                    by_cases e : j' = j ∧ k' = k
                    · obtain ⟨rfl, rfl⟩ := e; exact Or.inr a5
                    · exact Or.inl ⟨j', k', a1, a2, by omega, a4, a5⟩
          refine la_go_R hm 11 [17, 29, 87] ?_
          refine And.intro (fun (c1 : w ≤ j) => ?_) (fun (c1 : ¬ (w ≤ j)) => ?_)
          · refine And.intro (show -2147483648 ≤ part * 64 ∧ part * 64 < 2147483648 by omega) ?_
            show cw_R _ _ 87 [vr x_forest_, vr x_will_marks_, vi part, vl out, none, vi (part * 64), w6] [] (f_m m de ab li (F_tr w) ((s_l (m x_will_marks_) w (64 * part)).length : Int) w) _
            have hO : ∀ b : Nat, b < 64 → (l_b out b = true ↔ ∃ j k, (0 ≤ j ∧ j < w) ∧ (0 ≤ k ∧ k < w) ∧ m x_will_marks_ j < m x_will_marks_ k ∧ l_b (ab ((j * 6 + k) * 3 + part)) b = true) := by
              intro b hb
              rw [hO b hb]
              constructor
              · rintro ⟨j', k', a1, a2, a3, a4⟩; exact ⟨j', k', a1, a2, a4⟩
              · rintro ⟨j', k', a1, a2, a4⟩; exact ⟨j', k', a1, a2, by omega, a4⟩
            refine la_go_R0 (m' := f_m m de ab li (F_tr w) ((s_l (m x_will_marks_) w (part * 64)).length : Int) w) (by rw [show part * 64 = 64 * part by omega]) ?_
            exact l87 out w6 hO 65 (part * 64) li (by omega) (by omega) (by omega) (by rw [show part * 64 = 64 * part by omega]; exact hli)
          · show cw_R _ _ 29 [vr x_forest_, vr x_will_marks_, vi part, vl out, none, vi j, vi 0] [] (f_m m de ab li (F_tr w) ((s_l (m x_will_marks_) w (64 * part)).length : Int) w) _
            refine l29 (w.toNat + 1) 0 out (by omega) (by omega) (by omega) (fun b hb => ?_)
            rw [hO b hb]
            constructor
            · rintro ⟨j', k', a1, a2, a3, a4⟩; exact ⟨j', k', a1, a2, by omega, a4⟩
            · rintro ⟨j', k', a1, a2, a3, a4⟩; exact ⟨j', k', a1, a2, by omega, a4⟩
      refine la_go_R hm 10 [7, 17] ?_
      refine And.intro (fun (c1 : 3 ≤ part) => ?_) (fun (c1 : ¬ (3 ≤ part)) => ?_)
      · show Q none (f_m m de ab li (F_tr w) ((s_l (m x_will_marks_) w (64 * part)).length : Int) w)
        rw [show 64 * part = 192 by omega] at hli ⊢
        exact hQ li hli
      · show cw_R _ _ 17 [vr x_forest_, vr x_will_marks_, vi part, vl 0, none, vi 0, w6] [] (f_m m de ab li (F_tr w) ((s_l (m x_will_marks_) w (64 * part)).length : Int) w) _
        exact l17 (w.toNat + 2) 0 0 _ (by omega) (by omega) (by omega) (fun b hb => ⟨(fun q => by rw [l_0] at q; cases q), fun ⟨j', k', a1, a2, a3, a4⟩ => by omega⟩)
  have hm : la_ok (f_m m de ab li (F_tr w) co w) := f_m_ok hm0
  refine la_go_C hm 8 [7] ?_
  have hm1 : la_ok (cw_put (f_m m de ab li (F_tr w) co w) x_forest_ 4 0) := la_put hm (by decide) (Or.inl rfl)
  show cw_R _ _ 7 [vr x_forest_, vr x_will_marks_, vi 0, none, none, none, none] [] (cw_put (f_m m de ab li (F_tr w) co w) x_forest_ 4 0) _
  rw [f_m_fco]
  refine la_go_R0 (m' := f_m m de ab li (F_tr w) ((s_l (m x_will_marks_) w (64 * 0)).length : Int) w) (by have := s_ll (mk := (m x_will_marks_)) (w := w) (t := 64 * 0) (by omega); rw [show ((s_l (m x_will_marks_) w (64 * 0)).length : Int) = 0 by omega]) ?_
  exact l7 4 0 li _ _ _ (by omega) (by omega) (fun i i0 i1 => by have := s_ll (mk := (m x_will_marks_)) (w := w) (t := 64 * 0) (by omega); omega)
