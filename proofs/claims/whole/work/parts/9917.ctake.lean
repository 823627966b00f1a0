/-! A will is taken on paper, by the class (wip/whole/tools/m117.py). -/
theorem Pa_take2 {d : Nat} {m : cw_M} {Q : Option cw_V → cw_M → Prop} {Ks : List p_K} {T yr lv : Int} (hm : la_ok m) (hT : T_o m T Ks) (hw0 : ∀ i, 6 ≤ i → i < 17 → -1000000 ≤ (cw_up (cw_up (m x_ledger_paper_sums_words_) 6 yr) 7 (m x_will_terms_ 2)) i ∧ (cw_up (cw_up (m x_ledger_paper_sums_words_) 6 yr) 7 (m x_will_terms_ 2)) i ≤ 1000000) (hn : 0 ≤ m x_will_ 0 ∧ m x_will_ 0 ≤ 7) (hwt : 0 ≤ (m x_will_terms_ 1) ∧ (m x_will_terms_ 1) ≤ 9999) (hQ : ∀ ws' sk', c_w ws' (cw_up (cw_up (m x_ledger_paper_sums_words_) 6 yr) 7 (m x_will_terms_ 2)) → Q none (u2_m (cw_put (cw_put (cw_put m x_ledger_paper_ 7 T) x_ledger_paper_ 2 (c_B Ks (cw_up (cw_up (m x_ledger_paper_sums_words_) 6 yr) 7 (m x_will_terms_ 2)) (m x_will_owner_) (m x_will_ 0) (m x_will_terms_ 1) 6)) x_ledger_paper_ 3 (cw_iand lv (cw_ixor (c_B Ks (cw_up (cw_up (m x_ledger_paper_sums_words_) 6 yr) 7 (m x_will_terms_ 2)) (m x_will_owner_) (m x_will_ 0) (m x_will_terms_ 1) 6) (-1)))) (m x_ledger_paper_would_) ws' sk' x_forest_ x_will_)) : cw_C (d + 3) k_Pa_take [vr x_ledger_paper_, vr x_will_, vr x_forest_, vr T, vi yr, vi lv] m Q := by
  have hB : ∀ ba, la_ok (cw_put (cw_put m x_ledger_paper_ 7 T) x_ledger_paper_ 2 ba) := fun ba => la_put (la_put hm (by decide) (Or.inl rfl)) (by decide) (Or.inl rfl)
  have lp : ∀ (r : Nat) (k : Int) (ws sk : Int → Int), 6 < k + r → (0 ≤ k ∧ k ≤ 6) → (c_w ws (cw_up (cw_up (m x_ledger_paper_sums_words_) 6 yr) 7 (m x_will_terms_ 2))) → cw_R (d + 3) k_Pa_take 51 [vr x_ledger_paper_, vr x_will_, vr x_forest_, vr T, vi yr, vi lv, vi k] [] (u2_m (cw_put (cw_put m x_ledger_paper_ 7 T) x_ledger_paper_ 2 (c_B Ks (cw_up (cw_up (m x_ledger_paper_sums_words_) 6 yr) 7 (m x_will_terms_ 2)) (m x_will_owner_) (m x_will_ 0) (m x_will_terms_ 1) k.toNat)) (m x_ledger_paper_would_) ws sk x_forest_ x_will_) Q := by
    intro r
    induction r with
    | zero =>
      intro k ws sk hr hk hcw
      omega
    | succ r ih =>
      intro k ws sk hr hk hcw
      have fr := f_cntr (f := (m x_will_owner_)) (p := k) (m x_will_ 0).toNat
      refine la_go_R (u2_m_ok (hB _)) 26 [51] ?_
      refine And.intro (fun (c21 : 6 ≤ k) => ?_) (fun (c21 : ¬ (6 ≤ k)) => ?_)
      · have hm22 : la_ok (cw_put (u2_m (cw_put (cw_put m x_ledger_paper_ 7 T) x_ledger_paper_ 2 (c_B Ks (cw_up (cw_up (m x_ledger_paper_sums_words_) 6 yr) 7 (m x_will_terms_ 2)) (m x_will_owner_) (m x_will_ 0) (m x_will_terms_ 1) k.toNat)) (m x_ledger_paper_would_) ws sk x_forest_ x_will_) x_ledger_paper_ 3 (cw_iand lv (cw_ixor (c_B Ks (cw_up (cw_up (m x_ledger_paper_sums_words_) 6 yr) 7 (m x_will_terms_ 2)) (m x_will_owner_) (m x_will_ 0) (m x_will_terms_ 1) k.toNat) (-1)))) := la_put (u2_m_ok (hB _)) (by decide) (Or.inl rfl)
        show Q none (cw_put (u2_m (cw_put (cw_put m x_ledger_paper_ 7 T) x_ledger_paper_ 2 (c_B Ks (cw_up (cw_up (m x_ledger_paper_sums_words_) 6 yr) 7 (m x_will_terms_ 2)) (m x_will_owner_) (m x_will_ 0) (m x_will_terms_ 1) k.toNat)) (m x_ledger_paper_would_) ws sk x_forest_ x_will_) x_ledger_paper_ 3 (cw_iand lv (cw_ixor (c_B Ks (cw_up (cw_up (m x_ledger_paper_sums_words_) 6 yr) 7 (m x_will_terms_ 2)) (m x_will_owner_) (m x_will_ 0) (m x_will_terms_ 1) k.toNat) (-1))))
        rw [u2_q (by decide) (by decide), show k.toNat = 6 by omega]
        exact hQ _ _ hcw
      · refine And.intro (show 0 ≤ 1 ∧ 1 < 4 by omega) ?_
        show cw_C _ _ [vr x_ledger_paper_, vi k, vi (m x_will_terms_ 1)] (u2_m (cw_put (cw_put m x_ledger_paper_ 7 T) x_ledger_paper_ 2 (c_B Ks (cw_up (cw_up (m x_ledger_paper_sums_words_) 6 yr) 7 (m x_will_terms_ 2)) (m x_will_owner_) (m x_will_ 0) (m x_will_terms_ 1) k.toNat)) (m x_ledger_paper_would_) ws sk x_forest_ x_will_) _
        refine Pa_askOfPerson2 (hB _) (show 0 ≤ m x_will_ 0 ∧ m x_will_ 0 ≤ 7 by omega) ⟨(u2_m_ok (hB _)), ?_⟩
        show cw_C _ _ [vr x_ledger_paper_, vi 2, vi 0] (u2_m (cw_put (cw_put m x_ledger_paper_ 7 T) x_ledger_paper_ 2 (c_B Ks (cw_up (cw_up (m x_ledger_paper_sums_words_) 6 yr) 7 (m x_will_terms_ 2)) (m x_will_owner_) (m x_will_ 0) (m x_will_terms_ 1) k.toNat)) (m x_ledger_paper_would_) (c_P ws k (m x_will_terms_ 1) (f_cnt (m x_will_owner_) k (m x_will_ 0).toNat)) sk x_forest_ x_will_) _
        refine Pa_tell2 (hB _) (T_oe (Ks := Ks) hT (fun c q => (cw_put_ne (fun e => by rw [e] at q; exact absurd q (by unfold h_c; decide))).trans (cw_put_ne (fun e => by rw [e] at q; exact absurd q (by unfold h_c; decide))))) (c_Pb (c_wb hcw hw0) (by omega) hwt (by omega)) (fun (sk2 : Int → Int) => ⟨(u2_m_ok (hB _)), ?_⟩)
        have hm23 : la_ok (cw_put (u2_m (cw_put (cw_put m x_ledger_paper_ 7 T) x_ledger_paper_ 2 (c_B Ks (cw_up (cw_up (m x_ledger_paper_sums_words_) 6 yr) 7 (m x_will_terms_ 2)) (m x_will_owner_) (m x_will_ 0) (m x_will_terms_ 1) k.toNat)) (m x_ledger_paper_would_) (c_P ws k (m x_will_terms_ 1) (f_cnt (m x_will_owner_) k (m x_will_ 0).toNat)) sk2 x_forest_ x_will_) x_ledger_paper_ 2 (cw_ior (c_B Ks (cw_up (cw_up (m x_ledger_paper_sums_words_) 6 yr) 7 (m x_will_terms_ 2)) (m x_will_owner_) (m x_will_ 0) (m x_will_terms_ 1) k.toNat) (cw_ishl (l_tl Ks 2 0 (c_P ws k (m x_will_terms_ 1) (f_cnt (m x_will_owner_) k (m x_will_ 0).toNat))) k))) := la_put (u2_m_ok (hB _)) (by decide) (Or.inl rfl)
        refine And.intro (show -2147483648 ≤ k + 1 ∧ k + 1 < 2147483648 by omega) ?_
        show cw_R _ _ 51 [vr x_ledger_paper_, vr x_will_, vr x_forest_, vr T, vi yr, vi lv, vi (k + 1)] [] (cw_put (u2_m (cw_put (cw_put m x_ledger_paper_ 7 T) x_ledger_paper_ 2 (c_B Ks (cw_up (cw_up (m x_ledger_paper_sums_words_) 6 yr) 7 (m x_will_terms_ 2)) (m x_will_owner_) (m x_will_ 0) (m x_will_terms_ 1) k.toNat)) (m x_ledger_paper_would_) (c_P ws k (m x_will_terms_ 1) (f_cnt (m x_will_owner_) k (m x_will_ 0).toNat)) sk2 x_forest_ x_will_) x_ledger_paper_ 2 (cw_ior (c_B Ks (cw_up (cw_up (m x_ledger_paper_sums_words_) 6 yr) 7 (m x_will_terms_ 2)) (m x_will_owner_) (m x_will_ 0) (m x_will_terms_ 1) k.toNat) (cw_ishl (l_tl Ks 2 0 (c_P ws k (m x_will_terms_ 1) (f_cnt (m x_will_owner_) k (m x_will_ 0).toNat))) k))) _
        rw [u2_q (by decide) (by decide), cw_put_put]
        have e1 : cw_ior (c_B Ks (cw_up (cw_up (m x_ledger_paper_sums_words_) 6 yr) 7 (m x_will_terms_ 2)) (m x_will_owner_) (m x_will_ 0) (m x_will_terms_ 1) k.toNat) (cw_ishl (l_tl Ks 2 0 (c_P ws k (m x_will_terms_ 1) (f_cnt (m x_will_owner_) k (m x_will_ 0).toNat))) k) = c_B Ks (cw_up (cw_up (m x_ledger_paper_sums_words_) 6 yr) 7 (m x_will_terms_ 2)) (m x_will_owner_) (m x_will_ 0) (m x_will_terms_ 1) (k + 1).toNat := by rw [show (k + 1).toNat = k.toNat + 1 by omega, c_Pw hcw]; show _ = cw_ior _ (cw_ishl (l_tl Ks 2 0 (c_P _ (k.toNat : Int) _ (f_cnt _ (k.toNat : Int) _))) (k.toNat : Int)); rw [show (k.toNat : Int) = k by omega]
        rw [e1]
        exact ih (k + 1) _ sk2 (by omega) (by omega) (c_wt c_wP hcw)
  refine la_go_C hm 32 [51] ?_
  have hm21 : la_ok (cw_put m x_ledger_paper_ 6 x_will_) := la_put hm (by decide) (Or.inl rfl)
  have hm22 : la_ok (cw_put (cw_put m x_ledger_paper_ 6 x_will_) x_ledger_paper_ 5 x_forest_) := la_put hm21 (by decide) (Or.inl rfl)
  have hm23 : la_ok (cw_put (cw_put (cw_put m x_ledger_paper_ 6 x_will_) x_ledger_paper_ 5 x_forest_) x_ledger_paper_ 7 T) := la_put hm22 (by decide) (Or.inl rfl)
  refine And.intro (show 0 ≤ 6 ∧ 6 < 17 by omega) ?_
  have hm24 : la_ok (cw_put (cw_put (cw_put (cw_put m x_ledger_paper_ 6 x_will_) x_ledger_paper_ 5 x_forest_) x_ledger_paper_ 7 T) x_ledger_paper_sums_words_ 6 yr) := la_put hm23 (by decide) (Or.inr (by decide))
  refine And.intro (show 0 ≤ 2 ∧ 2 < 4 by omega) ?_
  refine And.intro (show 0 ≤ 7 ∧ 7 < 17 by omega) ?_
  have hm25 : la_ok (cw_put (cw_put (cw_put (cw_put (cw_put m x_ledger_paper_ 6 x_will_) x_ledger_paper_ 5 x_forest_) x_ledger_paper_ 7 T) x_ledger_paper_sums_words_ 6 yr) x_ledger_paper_sums_words_ 7 (m x_will_terms_ 2)) := la_put hm24 (by decide) (Or.inr (by decide))
  have hm26 : la_ok (cw_put (cw_put (cw_put (cw_put (cw_put (cw_put m x_ledger_paper_ 6 x_will_) x_ledger_paper_ 5 x_forest_) x_ledger_paper_ 7 T) x_ledger_paper_sums_words_ 6 yr) x_ledger_paper_sums_words_ 7 (m x_will_terms_ 2)) x_ledger_paper_ 2 0) := la_put hm25 (by decide) (Or.inl rfl)
  show cw_R _ _ 51 [vr x_ledger_paper_, vr x_will_, vr x_forest_, vr T, vi yr, vi lv, vi 0] [] (cw_put (cw_put (cw_put (cw_put (cw_put (cw_put m x_ledger_paper_ 6 x_will_) x_ledger_paper_ 5 x_forest_) x_ledger_paper_ 7 T) x_ledger_paper_sums_words_ 6 yr) x_ledger_paper_sums_words_ 7 (m x_will_terms_ 2)) x_ledger_paper_ 2 0) _
  refine la_go_R0 (m' := u2_m (cw_put (cw_put m x_ledger_paper_ 7 T) x_ledger_paper_ 2 (c_B Ks (cw_up (cw_up (m x_ledger_paper_sums_words_) 6 yr) 7 (m x_will_terms_ 2)) (m x_will_owner_) (m x_will_ 0) (m x_will_terms_ 1) 0)) (m x_ledger_paper_would_) (cw_up (cw_up (m x_ledger_paper_sums_words_) 6 yr) 7 (m x_will_terms_ 2)) (m x_ledger_paper_sums_stack_) x_forest_ x_will_) ?_ ?_
  · refine u2_m_x rfl ?_ rfl rfl rfl (fun j p q => ?_) (fun c a b e p => ?_)
    · rw [cw_put_ne (by decide), cw_put_r, cw_put_r, cw_put_ne (by decide), cw_put_ne (by decide), cw_put_ne (by decide)]
    · show _ = (cw_put (cw_put m x_ledger_paper_ 7 T) x_ledger_paper_ 2 0) x_ledger_paper_ j
      by_cases z : j = 2
      · rw [z, cw_put_eq, cw_put_eq]
      rw [cw_put_off z, cw_put_off z, cw_put_ne (by decide), cw_put_ne (by decide)]
      by_cases z7 : j = 7
      · rw [z7, cw_put_eq, cw_put_eq]
      rw [cw_put_off z7, cw_put_off z7, cw_put_off p, cw_put_off q]
    · rw [cw_put_ne p, cw_put_ne b, cw_put_ne b, cw_put_ne p, cw_put_ne p, cw_put_ne p, cw_put_ne p, cw_put_ne p]
  exact lp 7 0 _ _ (by omega) (by omega) (fun _ _ => rfl)
theorem Pa_take3 {d : Nat} {m : cw_M} {Q : Option cw_V → cw_M → Prop} {Ks : List p_K} {T yr lv : Int} (hm : la_ok m) (hT : T_o m T Ks) (hw0 : ∀ i, 6 ≤ i → i < 17 → -1000000 ≤ (cw_up (cw_up (m x_paper_sums_words_) 6 yr) 7 (m x_will_terms_ 2)) i ∧ (cw_up (cw_up (m x_paper_sums_words_) 6 yr) 7 (m x_will_terms_ 2)) i ≤ 1000000) (hn : 0 ≤ m x_will_ 0 ∧ m x_will_ 0 ≤ 7) (hwt : 0 ≤ (m x_will_terms_ 1) ∧ (m x_will_terms_ 1) ≤ 9999) (hQ : ∀ ws' sk', c_w ws' (cw_up (cw_up (m x_paper_sums_words_) 6 yr) 7 (m x_will_terms_ 2)) → Q none (u3_m (cw_put (cw_put (cw_put m x_paper_ 7 T) x_paper_ 2 (c_B Ks (cw_up (cw_up (m x_paper_sums_words_) 6 yr) 7 (m x_will_terms_ 2)) (m x_will_owner_) (m x_will_ 0) (m x_will_terms_ 1) 6)) x_paper_ 3 (cw_iand lv (cw_ixor (c_B Ks (cw_up (cw_up (m x_paper_sums_words_) 6 yr) 7 (m x_will_terms_ 2)) (m x_will_owner_) (m x_will_ 0) (m x_will_terms_ 1) 6) (-1)))) (m x_paper_would_) ws' sk' x_forest_ x_will_)) : cw_C (d + 3) k_Pa_take [vr x_paper_, vr x_will_, vr x_forest_, vr T, vi yr, vi lv] m Q := by
  have hB : ∀ ba, la_ok (cw_put (cw_put m x_paper_ 7 T) x_paper_ 2 ba) := fun ba => la_put (la_put hm (by decide) (Or.inl rfl)) (by decide) (Or.inl rfl)
  have lp : ∀ (r : Nat) (k : Int) (ws sk : Int → Int), 6 < k + r → (0 ≤ k ∧ k ≤ 6) → (c_w ws (cw_up (cw_up (m x_paper_sums_words_) 6 yr) 7 (m x_will_terms_ 2))) → cw_R (d + 3) k_Pa_take 51 [vr x_paper_, vr x_will_, vr x_forest_, vr T, vi yr, vi lv, vi k] [] (u3_m (cw_put (cw_put m x_paper_ 7 T) x_paper_ 2 (c_B Ks (cw_up (cw_up (m x_paper_sums_words_) 6 yr) 7 (m x_will_terms_ 2)) (m x_will_owner_) (m x_will_ 0) (m x_will_terms_ 1) k.toNat)) (m x_paper_would_) ws sk x_forest_ x_will_) Q := by
    intro r
    induction r with
    | zero =>
      intro k ws sk hr hk hcw
      omega
    | succ r ih =>
      intro k ws sk hr hk hcw
      have fr := f_cntr (f := (m x_will_owner_)) (p := k) (m x_will_ 0).toNat
      refine la_go_R (u3_m_ok (hB _)) 26 [51] ?_
      refine And.intro (fun (c21 : 6 ≤ k) => ?_) (fun (c21 : ¬ (6 ≤ k)) => ?_)
      · have hm22 : la_ok (cw_put (u3_m (cw_put (cw_put m x_paper_ 7 T) x_paper_ 2 (c_B Ks (cw_up (cw_up (m x_paper_sums_words_) 6 yr) 7 (m x_will_terms_ 2)) (m x_will_owner_) (m x_will_ 0) (m x_will_terms_ 1) k.toNat)) (m x_paper_would_) ws sk x_forest_ x_will_) x_paper_ 3 (cw_iand lv (cw_ixor (c_B Ks (cw_up (cw_up (m x_paper_sums_words_) 6 yr) 7 (m x_will_terms_ 2)) (m x_will_owner_) (m x_will_ 0) (m x_will_terms_ 1) k.toNat) (-1)))) := la_put (u3_m_ok (hB _)) (by decide) (Or.inl rfl)
        show Q none (cw_put (u3_m (cw_put (cw_put m x_paper_ 7 T) x_paper_ 2 (c_B Ks (cw_up (cw_up (m x_paper_sums_words_) 6 yr) 7 (m x_will_terms_ 2)) (m x_will_owner_) (m x_will_ 0) (m x_will_terms_ 1) k.toNat)) (m x_paper_would_) ws sk x_forest_ x_will_) x_paper_ 3 (cw_iand lv (cw_ixor (c_B Ks (cw_up (cw_up (m x_paper_sums_words_) 6 yr) 7 (m x_will_terms_ 2)) (m x_will_owner_) (m x_will_ 0) (m x_will_terms_ 1) k.toNat) (-1))))
        rw [u3_q (by decide) (by decide), show k.toNat = 6 by omega]
        exact hQ _ _ hcw
      · refine And.intro (show 0 ≤ 1 ∧ 1 < 4 by omega) ?_
        show cw_C _ _ [vr x_paper_, vi k, vi (m x_will_terms_ 1)] (u3_m (cw_put (cw_put m x_paper_ 7 T) x_paper_ 2 (c_B Ks (cw_up (cw_up (m x_paper_sums_words_) 6 yr) 7 (m x_will_terms_ 2)) (m x_will_owner_) (m x_will_ 0) (m x_will_terms_ 1) k.toNat)) (m x_paper_would_) ws sk x_forest_ x_will_) _
        refine Pa_askOfPerson3 (hB _) (show 0 ≤ m x_will_ 0 ∧ m x_will_ 0 ≤ 7 by omega) ⟨(u3_m_ok (hB _)), ?_⟩
        show cw_C _ _ [vr x_paper_, vi 2, vi 0] (u3_m (cw_put (cw_put m x_paper_ 7 T) x_paper_ 2 (c_B Ks (cw_up (cw_up (m x_paper_sums_words_) 6 yr) 7 (m x_will_terms_ 2)) (m x_will_owner_) (m x_will_ 0) (m x_will_terms_ 1) k.toNat)) (m x_paper_would_) (c_P ws k (m x_will_terms_ 1) (f_cnt (m x_will_owner_) k (m x_will_ 0).toNat)) sk x_forest_ x_will_) _
        refine Pa_tell3 (hB _) (T_oe (Ks := Ks) hT (fun c q => (cw_put_ne (fun e => by rw [e] at q; exact absurd q (by unfold h_c; decide))).trans (cw_put_ne (fun e => by rw [e] at q; exact absurd q (by unfold h_c; decide))))) (c_Pb (c_wb hcw hw0) (by omega) hwt (by omega)) (fun (sk2 : Int → Int) => ⟨(u3_m_ok (hB _)), ?_⟩)
        have hm23 : la_ok (cw_put (u3_m (cw_put (cw_put m x_paper_ 7 T) x_paper_ 2 (c_B Ks (cw_up (cw_up (m x_paper_sums_words_) 6 yr) 7 (m x_will_terms_ 2)) (m x_will_owner_) (m x_will_ 0) (m x_will_terms_ 1) k.toNat)) (m x_paper_would_) (c_P ws k (m x_will_terms_ 1) (f_cnt (m x_will_owner_) k (m x_will_ 0).toNat)) sk2 x_forest_ x_will_) x_paper_ 2 (cw_ior (c_B Ks (cw_up (cw_up (m x_paper_sums_words_) 6 yr) 7 (m x_will_terms_ 2)) (m x_will_owner_) (m x_will_ 0) (m x_will_terms_ 1) k.toNat) (cw_ishl (l_tl Ks 2 0 (c_P ws k (m x_will_terms_ 1) (f_cnt (m x_will_owner_) k (m x_will_ 0).toNat))) k))) := la_put (u3_m_ok (hB _)) (by decide) (Or.inl rfl)
        refine And.intro (show -2147483648 ≤ k + 1 ∧ k + 1 < 2147483648 by omega) ?_
        show cw_R _ _ 51 [vr x_paper_, vr x_will_, vr x_forest_, vr T, vi yr, vi lv, vi (k + 1)] [] (cw_put (u3_m (cw_put (cw_put m x_paper_ 7 T) x_paper_ 2 (c_B Ks (cw_up (cw_up (m x_paper_sums_words_) 6 yr) 7 (m x_will_terms_ 2)) (m x_will_owner_) (m x_will_ 0) (m x_will_terms_ 1) k.toNat)) (m x_paper_would_) (c_P ws k (m x_will_terms_ 1) (f_cnt (m x_will_owner_) k (m x_will_ 0).toNat)) sk2 x_forest_ x_will_) x_paper_ 2 (cw_ior (c_B Ks (cw_up (cw_up (m x_paper_sums_words_) 6 yr) 7 (m x_will_terms_ 2)) (m x_will_owner_) (m x_will_ 0) (m x_will_terms_ 1) k.toNat) (cw_ishl (l_tl Ks 2 0 (c_P ws k (m x_will_terms_ 1) (f_cnt (m x_will_owner_) k (m x_will_ 0).toNat))) k))) _
        rw [u3_q (by decide) (by decide), cw_put_put]
        have e1 : cw_ior (c_B Ks (cw_up (cw_up (m x_paper_sums_words_) 6 yr) 7 (m x_will_terms_ 2)) (m x_will_owner_) (m x_will_ 0) (m x_will_terms_ 1) k.toNat) (cw_ishl (l_tl Ks 2 0 (c_P ws k (m x_will_terms_ 1) (f_cnt (m x_will_owner_) k (m x_will_ 0).toNat))) k) = c_B Ks (cw_up (cw_up (m x_paper_sums_words_) 6 yr) 7 (m x_will_terms_ 2)) (m x_will_owner_) (m x_will_ 0) (m x_will_terms_ 1) (k + 1).toNat := by rw [show (k + 1).toNat = k.toNat + 1 by omega, c_Pw hcw]; show _ = cw_ior _ (cw_ishl (l_tl Ks 2 0 (c_P _ (k.toNat : Int) _ (f_cnt _ (k.toNat : Int) _))) (k.toNat : Int)); rw [show (k.toNat : Int) = k by omega]
        rw [e1]
        exact ih (k + 1) _ sk2 (by omega) (by omega) (c_wt c_wP hcw)
  refine la_go_C hm 32 [51] ?_
  have hm21 : la_ok (cw_put m x_paper_ 6 x_will_) := la_put hm (by decide) (Or.inl rfl)
  have hm22 : la_ok (cw_put (cw_put m x_paper_ 6 x_will_) x_paper_ 5 x_forest_) := la_put hm21 (by decide) (Or.inl rfl)
  have hm23 : la_ok (cw_put (cw_put (cw_put m x_paper_ 6 x_will_) x_paper_ 5 x_forest_) x_paper_ 7 T) := la_put hm22 (by decide) (Or.inl rfl)
  refine And.intro (show 0 ≤ 6 ∧ 6 < 17 by omega) ?_
  have hm24 : la_ok (cw_put (cw_put (cw_put (cw_put m x_paper_ 6 x_will_) x_paper_ 5 x_forest_) x_paper_ 7 T) x_paper_sums_words_ 6 yr) := la_put hm23 (by decide) (Or.inr (by decide))
  refine And.intro (show 0 ≤ 2 ∧ 2 < 4 by omega) ?_
  refine And.intro (show 0 ≤ 7 ∧ 7 < 17 by omega) ?_
  have hm25 : la_ok (cw_put (cw_put (cw_put (cw_put (cw_put m x_paper_ 6 x_will_) x_paper_ 5 x_forest_) x_paper_ 7 T) x_paper_sums_words_ 6 yr) x_paper_sums_words_ 7 (m x_will_terms_ 2)) := la_put hm24 (by decide) (Or.inr (by decide))
  have hm26 : la_ok (cw_put (cw_put (cw_put (cw_put (cw_put (cw_put m x_paper_ 6 x_will_) x_paper_ 5 x_forest_) x_paper_ 7 T) x_paper_sums_words_ 6 yr) x_paper_sums_words_ 7 (m x_will_terms_ 2)) x_paper_ 2 0) := la_put hm25 (by decide) (Or.inl rfl)
  show cw_R _ _ 51 [vr x_paper_, vr x_will_, vr x_forest_, vr T, vi yr, vi lv, vi 0] [] (cw_put (cw_put (cw_put (cw_put (cw_put (cw_put m x_paper_ 6 x_will_) x_paper_ 5 x_forest_) x_paper_ 7 T) x_paper_sums_words_ 6 yr) x_paper_sums_words_ 7 (m x_will_terms_ 2)) x_paper_ 2 0) _
  refine la_go_R0 (m' := u3_m (cw_put (cw_put m x_paper_ 7 T) x_paper_ 2 (c_B Ks (cw_up (cw_up (m x_paper_sums_words_) 6 yr) 7 (m x_will_terms_ 2)) (m x_will_owner_) (m x_will_ 0) (m x_will_terms_ 1) 0)) (m x_paper_would_) (cw_up (cw_up (m x_paper_sums_words_) 6 yr) 7 (m x_will_terms_ 2)) (m x_paper_sums_stack_) x_forest_ x_will_) ?_ ?_
  · refine u3_m_x rfl ?_ rfl rfl rfl (fun j p q => ?_) (fun c a b e p => ?_)
    · rw [cw_put_ne (by decide), cw_put_r, cw_put_r, cw_put_ne (by decide), cw_put_ne (by decide), cw_put_ne (by decide)]
    · show _ = (cw_put (cw_put m x_paper_ 7 T) x_paper_ 2 0) x_paper_ j
      by_cases z : j = 2
      · rw [z, cw_put_eq, cw_put_eq]
      rw [cw_put_off z, cw_put_off z, cw_put_ne (by decide), cw_put_ne (by decide)]
      by_cases z7 : j = 7
      · rw [z7, cw_put_eq, cw_put_eq]
      rw [cw_put_off z7, cw_put_off z7, cw_put_off p, cw_put_off q]
    · rw [cw_put_ne p, cw_put_ne b, cw_put_ne b, cw_put_ne p, cw_put_ne p, cw_put_ne p, cw_put_ne p, cw_put_ne p]
  exact lp 7 0 _ _ (by omega) (by omega) (fun _ _ => rfl)
