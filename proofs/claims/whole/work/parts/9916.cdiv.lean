/-! A will on paper, by the class (wip/whole/tools/m116.py). -/
noncomputable def c_T (Ks : List p_K) (w0 nm : Int → Int) (n p wt : Int) : Int := l_tl Ks 1 0 (c_P w0 p wt (f_cnt nm p n.toNat))
theorem c_Tr {Ks : List p_K} {w0 nm : Int → Int} {n p wt : Int} : 0 ≤ c_T Ks w0 nm n p wt ∧ c_T Ks w0 nm n p wt ≤ 100 := l_tlr (by decide)
/-- what persons below k get when their taxes are taken -/
noncomputable def c_D (Ks : List p_K) (w0 nm : Int → Int) (n : Int) (w : Int → Int) (k : Int) : Int → Int := fun p => if 0 ≤ p ∧ p < k then w p - w p * c_T Ks w0 nm n p (w p) / 100 else w p
theorem c_D0 {Ks : List p_K} {w0 nm w : Int → Int} {n : Int} : c_D Ks w0 nm n w 0 = w := by
  funext p; unfold c_D; rw [if_neg (by omega)]
theorem c_D1 {Ks : List p_K} {w0 nm w : Int → Int} {n k : Int} (hk : 0 ≤ k) : cw_up (c_D Ks w0 nm n w k) k (w k - w k * c_T Ks w0 nm n k (w k) / 100) = c_D Ks w0 nm n w (k + 1) := by
  funext p
  by_cases e : p = k
  · rw [e, cw_up_eq]; unfold c_D; rw [if_pos (by omega)]
  · rw [cw_up_ne e]; unfold c_D
    by_cases q : 0 ≤ p ∧ p < k
    · rw [if_pos q, if_pos (by omega)]
    · rw [if_neg q, if_neg (by omega)]
theorem c_D2 {Ks : List p_K} {w0 nm w : Int → Int} {n k : Int} (h : w k = 0) : c_D Ks w0 nm n w k = c_D Ks w0 nm n w (k + 1) := by
  funext p
  unfold c_D
  by_cases q : 0 ≤ p ∧ p < k
  · rw [if_pos q, if_pos (by omega)]
  · rw [if_neg q]
    by_cases q2 : 0 ≤ p ∧ p < k + 1
    · rw [if_pos q2, show p = k by omega, h, Int.zero_mul]; rfl
    · rw [if_neg q2]
/-- who is barred, of the first so many -/
noncomputable def c_B (Ks : List p_K) (w0 nm : Int → Int) (n wt : Int) : Nat → Int
  | 0 => 0
  | k + 1 => cw_ior (c_B Ks w0 nm n wt k) (cw_ishl (l_tl Ks 2 0 (c_P w0 k wt (f_cnt nm k n.toNat))) k)
theorem u2_q {m : cw_M} {wd ws sk : Int → Int} {fo wi j v : Int} (h5 : j ≠ 5) (h6 : j ≠ 6) : cw_put (u2_m m wd ws sk fo wi) x_ledger_paper_ j v = u2_m (cw_put m x_ledger_paper_ j v) wd ws sk fo wi := by
  refine u2_m_x ?_ ?_ ?_ ?_ ?_ (fun i p q => ?_) (fun c a b e p => ?_)
  · rw [cw_put_ne (by decide)]; rfl
  · rw [cw_put_ne (by decide)]; rfl
  · rw [cw_put_ne (by decide)]; rfl
  · rw [cw_put_off (fun z => h5 z.symm)]; rfl
  · rw [cw_put_off (fun z => h6 z.symm)]; rfl
  · by_cases e : i = j
    · rw [e, cw_put_eq, cw_put_eq]
    · rw [cw_put_off e, cw_put_off e]
      show (if i = 5 then _ else _) = _
      rw [if_neg p, if_neg q]
  · rw [cw_put_ne p, cw_put_ne p, u2_m_ne a b e p]
theorem Pa_divide2b {d : Nat} {m : cw_M} {Q : Option cw_V → cw_M → Prop} {w ws w0 sk : Int → Int} {Ks : List p_K} {t : Int} (hmB : la_ok (cw_put m x_ledger_paper_ 8 (t * 6))) (hT : T_o m (m x_ledger_paper_ 7) Ks) (hw0 : ∀ i, 6 ≤ i → i < 17 → -1000000 ≤ w0 i ∧ w0 i ≤ 1000000) (hn : 1 ≤ m x_will_ 0 ∧ m x_will_ 0 ≤ 7) (hcw : c_w ws w0) (hw : ∀ p, 0 ≤ p → p < 6 → 0 ≤ w p ∧ w p ≤ 9999) (hQ : ∀ ws' sk', c_w ws' w0 → Q none (u2_m (cw_put m x_ledger_paper_ 8 (t * 6)) (c_D Ks w0 (m x_will_owner_) (m x_will_ 0) w 6) ws' sk' x_forest_ x_will_)) : cw_R (d + 11) k_Pa_divide 81 [vr x_ledger_paper_, vi t, vi 0] [] (u2_m (cw_put m x_ledger_paper_ 8 (t * 6)) w ws sk x_forest_ x_will_) Q := by
  have lp2 : ∀ (r : Nat) (k : Int) (ws sk : Int → Int), 6 < k + r → (0 ≤ k ∧ k ≤ 6) → (c_w ws w0) → cw_R (d + 11) k_Pa_divide 81 [vr x_ledger_paper_, vi t, vi k] [] (u2_m (cw_put m x_ledger_paper_ 8 (t * 6)) (c_D Ks w0 (m x_will_owner_) (m x_will_ 0) w k) ws sk x_forest_ x_will_) Q := by
    intro r
    induction r with
    | zero =>
      intro k ws sk hr hk hcw
      omega
    | succ r ih =>
      intro k ws sk hr hk hcw
      have ck : c_D Ks w0 (m x_will_owner_) (m x_will_ 0) w k k = w k := by unfold c_D; rw [if_neg (by omega)]
      have wk : k < 6 → 0 ≤ w k ∧ w k ≤ 9999 := fun q => hw k hk.1 q
      have fr := f_cntr (f := (m x_will_owner_)) (p := k) (m x_will_ 0).toNat
      refine la_go_R (u2_m_ok hmB) 38 [81] ?_
      refine And.intro (fun (c21 : 6 ≤ k) => ?_) (fun (c21 : ¬ (6 ≤ k)) => ?_)
      · show Q none (u2_m (cw_put m x_ledger_paper_ 8 (t * 6)) (c_D Ks w0 (m x_will_owner_) (m x_will_ 0) w k) ws sk x_forest_ x_will_)
        rw [show k = 6 by omega]
        exact hQ _ _ hcw
      · refine And.intro (show 0 ≤ k ∧ k < 6 by omega) ?_
        refine And.intro (fun (c22 : (c_D Ks w0 (m x_will_owner_) (m x_will_ 0) w k) k ≤ 0) => ?_) (fun (c22 : ¬ ((c_D Ks w0 (m x_will_owner_) (m x_will_ 0) w k) k ≤ 0)) => ?_)
        · refine And.intro (show -2147483648 ≤ k + 1 ∧ k + 1 < 2147483648 by omega) ?_
          show cw_R _ _ 81 [vr x_ledger_paper_, vi t, vi (k + 1)] [] (u2_m (cw_put m x_ledger_paper_ 8 (t * 6)) (c_D Ks w0 (m x_will_owner_) (m x_will_ 0) w k) ws sk x_forest_ x_will_) _
          rw [c_D2 (by omega)]
          exact ih (k + 1) _ _ (by omega) (by omega) hcw
        · refine And.intro (show 0 ≤ k ∧ k < 6 by omega) ?_
          show cw_C _ _ [vr x_ledger_paper_, vi k, vi ((c_D Ks w0 (m x_will_owner_) (m x_will_ 0) w k) k)] (u2_m (cw_put m x_ledger_paper_ 8 (t * 6)) (c_D Ks w0 (m x_will_owner_) (m x_will_ 0) w k) ws sk x_forest_ x_will_) _
          refine Pa_askOfPerson2 hmB (show 0 ≤ m x_will_ 0 ∧ m x_will_ 0 ≤ 7 by omega) ⟨(u2_m_ok hmB), ?_⟩
          refine And.intro (show 0 ≤ k ∧ k < 6 by omega) ?_
          refine And.intro (show 0 ≤ k ∧ k < 6 by omega) ?_
          show cw_C _ _ [vr x_ledger_paper_, vi 1, vi 0] (u2_m (cw_put m x_ledger_paper_ 8 (t * 6)) (c_D Ks w0 (m x_will_owner_) (m x_will_ 0) w k) (c_P ws k ((c_D Ks w0 (m x_will_owner_) (m x_will_ 0) w k) k) (f_cnt (m x_will_owner_) k (m x_will_ 0).toNat)) sk x_forest_ x_will_) _
          refine Pa_tell2 hmB (T_oe hT (fun c q => cw_put_ne (fun e => by rw [e] at q; exact absurd q (by unfold h_c; decide)))) (c_Pb (c_wb hcw hw0) (by omega) (by omega) (by omega)) (fun (sk2 : Int → Int) => ⟨(u2_m_ok hmB), ?_⟩)
          have eTl : l_tl Ks 1 0 (c_P ws k ((c_D Ks w0 (m x_will_owner_) (m x_will_ 0) w k) k) (f_cnt (m x_will_owner_) k (m x_will_ 0).toNat)) = c_T Ks w0 (m x_will_owner_) (m x_will_ 0) k (w k) := by unfold c_T; rw [ck, c_Pw hcw]
          have tr := c_Tr (Ks := Ks) (w0 := w0) (nm := (m x_will_owner_)) (n := (m x_will_ 0)) (p := k) (wt := w k)
          rw [← eTl] at tr
          have hsb := g_shb (w := c_D Ks w0 (m x_will_owner_) (m x_will_ 0) w k k) (by rw [ck]; exact wk (by omega)) tr
          refine And.intro (show -2147483648 ≤ ((c_D Ks w0 (m x_will_owner_) (m x_will_ 0) w k) k) * (l_tl Ks 1 0 (c_P ws k ((c_D Ks w0 (m x_will_owner_) (m x_will_ 0) w k) k) (f_cnt (m x_will_owner_) k (m x_will_ 0).toNat))) ∧ ((c_D Ks w0 (m x_will_owner_) (m x_will_ 0) w k) k) * (l_tl Ks 1 0 (c_P ws k ((c_D Ks w0 (m x_will_owner_) (m x_will_ 0) w k) k) (f_cnt (m x_will_owner_) k (m x_will_ 0).toNat))) < 2147483648 by omega) ?_
          refine And.intro (show 0 ≤ ((c_D Ks w0 (m x_will_owner_) (m x_will_ 0) w k) k) * (l_tl Ks 1 0 (c_P ws k ((c_D Ks w0 (m x_will_owner_) (m x_will_ 0) w k) k) (f_cnt (m x_will_owner_) k (m x_will_ 0).toNat))) ∧ ((c_D Ks w0 (m x_will_owner_) (m x_will_ 0) w k) k) * (l_tl Ks 1 0 (c_P ws k ((c_D Ks w0 (m x_will_owner_) (m x_will_ 0) w k) k) (f_cnt (m x_will_owner_) k (m x_will_ 0).toNat))) < 2147483648 ∧ 0 < 100 by omega) ?_
          refine And.intro (show -2147483648 ≤ ((c_D Ks w0 (m x_will_owner_) (m x_will_ 0) w k) k) - ((((c_D Ks w0 (m x_will_owner_) (m x_will_ 0) w k) k) * (l_tl Ks 1 0 (c_P ws k ((c_D Ks w0 (m x_will_owner_) (m x_will_ 0) w k) k) (f_cnt (m x_will_owner_) k (m x_will_ 0).toNat)))) / 100) ∧ ((c_D Ks w0 (m x_will_owner_) (m x_will_ 0) w k) k) - ((((c_D Ks w0 (m x_will_owner_) (m x_will_ 0) w k) k) * (l_tl Ks 1 0 (c_P ws k ((c_D Ks w0 (m x_will_owner_) (m x_will_ 0) w k) k) (f_cnt (m x_will_owner_) k (m x_will_ 0).toNat)))) / 100) < 2147483648 by omega) ?_
          refine And.intro (show 0 ≤ k ∧ k < 6 by omega) ?_
          have hm23 : la_ok (cw_put (u2_m (cw_put m x_ledger_paper_ 8 (t * 6)) (c_D Ks w0 (m x_will_owner_) (m x_will_ 0) w k) (c_P ws k ((c_D Ks w0 (m x_will_owner_) (m x_will_ 0) w k) k) (f_cnt (m x_will_owner_) k (m x_will_ 0).toNat)) sk2 x_forest_ x_will_) x_ledger_paper_would_ k (((c_D Ks w0 (m x_will_owner_) (m x_will_ 0) w k) k) - ((((c_D Ks w0 (m x_will_owner_) (m x_will_ 0) w k) k) * (l_tl Ks 1 0 (c_P ws k ((c_D Ks w0 (m x_will_owner_) (m x_will_ 0) w k) k) (f_cnt (m x_will_owner_) k (m x_will_ 0).toNat)))) / 100))) := la_put (u2_m_ok hmB) (by decide) (Or.inr (by decide))
          refine And.intro (show -2147483648 ≤ k + 1 ∧ k + 1 < 2147483648 by omega) ?_
          show cw_R _ _ 81 [vr x_ledger_paper_, vi t, vi (k + 1)] [] (cw_put (u2_m (cw_put m x_ledger_paper_ 8 (t * 6)) (c_D Ks w0 (m x_will_owner_) (m x_will_ 0) w k) (c_P ws k ((c_D Ks w0 (m x_will_owner_) (m x_will_ 0) w k) k) (f_cnt (m x_will_owner_) k (m x_will_ 0).toNat)) sk2 x_forest_ x_will_) x_ledger_paper_would_ k (((c_D Ks w0 (m x_will_owner_) (m x_will_ 0) w k) k) - ((((c_D Ks w0 (m x_will_owner_) (m x_will_ 0) w k) k) * (l_tl Ks 1 0 (c_P ws k ((c_D Ks w0 (m x_will_owner_) (m x_will_ 0) w k) k) (f_cnt (m x_will_owner_) k (m x_will_ 0).toNat)))) / 100))) _
          rw [u2_m_pwd]
          have ez : ∀ z, z = w k - w k * c_T Ks w0 (m x_will_owner_) (m x_will_ 0) k (w k) / 100 → cw_up (c_D Ks w0 (m x_will_owner_) (m x_will_ 0) w k) k z = c_D Ks w0 (m x_will_owner_) (m x_will_ 0) w (k + 1) := fun z hz => by rw [hz]; exact c_D1 hk.1
          rw [ez _ (by rw [eTl, ck])]
          exact ih (k + 1) _ _ (by omega) (by omega) (c_wt c_wP hcw)
  rw [← c_D0 (Ks := Ks) (w0 := w0) (nm := (m x_will_owner_)) (n := (m x_will_ 0)) (w := w)]
  exact lp2 7 0 ws sk (by omega) (by omega) hcw
theorem Pa_giveD2 {d : Nat} {m : cw_M} {Q : Option cw_V → cw_M → Prop} {wd ws w0 sk : Int → Int} {Ks : List p_K} {t : Int} (hm : la_ok m) (hT : T_o m (m x_ledger_paper_ 7) Ks) (hw0 : ∀ i, 6 ≤ i → i < 17 → -1000000 ≤ w0 i ∧ w0 i ≤ 1000000) (ho : ∀ i, 0 ≤ i → i < 7 → 0 ≤ m x_will_owner_ i ∧ m x_will_owner_ i < 6) (hn : 1 ≤ m x_will_ 0 ∧ m x_will_ 0 ≤ 7) (hcw : c_w ws w0) (ht : 0 ≤ t ∧ t < 132) (htc : t < t_c (m x_will_ 0 - 1)) (hde : t_pl (fun q => q.2.2.1) (m x_forest_deep_) (t * 6) 6 0 (m x_will_ 0 - 1) t 0 (-1)) (hwt : 0 ≤ (m x_will_terms_ 1) ∧ (m x_will_terms_ 1) ≤ 9999) (hwd : ∀ p, 0 ≤ p → p < 6 → wd p = 0) (hQ : ∀ ws' sk', c_w ws' w0 → Q none (u2_m (cw_put m x_ledger_paper_ 8 (t * 6)) (g_go (m x_will_kinds_) (m x_will_owner_) (m x_ledger_paper_ 3) (c_S Ks w0) 6 0 (m x_will_ 0 - 1) t 0 (m x_will_terms_ 1) wd) ws' sk' x_forest_ x_will_)) : cw_C (d + 10) k_Pa_give [vr x_ledger_paper_, vi 0, vi (m x_will_ 0 - 1), vi (m x_will_terms_ 1), vi 0, vi 0] (cw_put (u2_m m wd ws sk x_forest_ x_will_) x_ledger_paper_ 8 (t * 6)) Q := by
  rw [u2_q (by decide) (by decide)]
  exact Pa_give2 6 (d := d + 10) (m := (cw_put m x_ledger_paper_ 8 (t * 6))) (n := m x_will_ 0 - 1) (k := t) (ov := -1) (by omega) (la_put hm (by decide) (Or.inl rfl)) (T_oe hT (fun c q => cw_put_ne (fun e => by rw [e] at q; exact absurd q (by unfold h_c; decide)))) hw0 ho hcw (by decide) (by omega) (by omega) (by omega) (by omega) (by omega) (show 0 ≤ t * 6 ∧ t * 6 ≤ 786 by omega) ⟨ht.1, htc⟩ hde hwt (fun p a b => by rw [hwd p a b]; omega) hQ
theorem Pa_divide2 {d : Nat} {m : cw_M} {Q : Option cw_V → cw_M → Prop} {wd ws w0 sk : Int → Int} {Ks : List p_K} {t : Int} (hm : la_ok m) (hT : T_o m (m x_ledger_paper_ 7) Ks) (hw0 : ∀ i, 6 ≤ i → i < 17 → -1000000 ≤ w0 i ∧ w0 i ≤ 1000000) (ho : ∀ i, 0 ≤ i → i < 7 → 0 ≤ m x_will_owner_ i ∧ m x_will_owner_ i < 6) (hn : 1 ≤ m x_will_ 0 ∧ m x_will_ 0 ≤ 7) (hcw : c_w ws w0) (ht : 0 ≤ t ∧ t < 132) (htc : t < t_c (m x_will_ 0 - 1)) (hde : t_pl (fun q => q.2.2.1) (m x_forest_deep_) (t * 6) 6 0 (m x_will_ 0 - 1) t 0 (-1)) (hwt : 0 ≤ (m x_will_terms_ 1) ∧ (m x_will_terms_ 1) ≤ 9999) (hQ : ∀ wd' ws' sk', c_w ws' w0 → (∀ p, 0 ≤ p → p < 6 → wd' p = c_D Ks w0 (m x_will_owner_) (m x_will_ 0) (g_go (m x_will_kinds_) (m x_will_owner_) (m x_ledger_paper_ 3) (c_S Ks w0) 6 0 (m x_will_ 0 - 1) t 0 (m x_will_terms_ 1) (fun _ => 0)) 6 p) → Q none (u2_m (cw_put m x_ledger_paper_ 8 (t * 6)) wd' ws' sk' x_forest_ x_will_)) : cw_C (d + 11) k_Pa_divide [vr x_ledger_paper_, vi t] (u2_m m wd ws sk x_forest_ x_will_) Q := by
  have hmB : la_ok (cw_put m x_ledger_paper_ 8 (t * 6)) := la_put hm (by decide) (Or.inl rfl)
  have hz0 : ∀ p, 0 ≤ p → p < 6 → (t_w wd 0 0 6 (fun _ => 0)) p = 0 := fun p a b => by unfold t_w; rw [if_pos (by omega)]
  have h2 : cw_R (d + 11) k_Pa_divide 21 [vr x_ledger_paper_, vi t, vi 6] [] (u2_m m (t_w wd 0 0 6 (fun _ => 0)) ws sk x_forest_ x_will_) Q := by
    refine la_go_R (u2_m_ok hm) 35 [81] ?_
    refine br_f (show ¬ ((34603913 : Int) = 0) by decide) ?_
    refine br_f (show ¬ ((75497857 : Int) = 0) by decide) ?_
    refine br_t (show m x_will_ 0 ≠ 0 by omega) ?_
    refine And.intro (show -2147483648 ≤ t * 6 ∧ t * 6 < 2147483648 by omega) ?_
    have hm21 : la_ok (cw_put (u2_m m (t_w wd 0 0 6 (fun _ => 0)) ws sk x_forest_ x_will_) x_ledger_paper_ 8 (t * 6)) := la_put (u2_m_ok hm) (by decide) (Or.inl rfl)
    refine And.intro (show -2147483648 ≤ (m x_will_ 0) - 1 ∧ (m x_will_ 0) - 1 < 2147483648 by omega) ?_
    refine And.intro (show 0 ≤ 1 ∧ 1 < 4 by omega) ?_
    show cw_C _ _ [vr x_ledger_paper_, vi 0, vi ((m x_will_ 0) - 1), vi (m x_will_terms_ 1), vi 0, vi 0] (cw_put (u2_m m (t_w wd 0 0 6 (fun _ => 0)) ws sk x_forest_ x_will_) x_ledger_paper_ 8 (t * 6)) _
    refine Pa_giveD2 hm hT hw0 ho hn hcw ht htc hde hwt hz0 (fun (ws2 sk2 : Int → Int) (hcw2 : c_w ws2 w0) => ⟨(u2_m_ok hmB), ?_⟩)
    show cw_R _ _ 81 [vr x_ledger_paper_, vi t, vi 0] [] (u2_m (cw_put m x_ledger_paper_ 8 (t * 6)) (g_go (m x_will_kinds_) (m x_will_owner_) (m x_ledger_paper_ 3) (c_S Ks w0) 6 0 (m x_will_ 0 - 1) t 0 (m x_will_terms_ 1) (t_w wd 0 0 6 (fun _ => 0))) ws2 sk2 x_forest_ x_will_) _
    refine Pa_divide2b hmB hT hw0 hn hcw2 (fun p a b => ?_) (fun ws' sk' hc' => hQ _ ws' sk' hc' (fun p a b => ?_))
    · have z := g_gor (kd := (m x_will_kinds_)) (nm := (m x_will_owner_)) (fit := (m x_ledger_paper_ 3)) (sh := c_S Ks w0) (fun _ _ _ _ => c_Sr) 6 (a := 0) (n := m x_will_ 0 - 1) (k := t) (out := 0) (worth := (m x_will_terms_ 1)) (wd := (t_w wd 0 0 6 (fun _ => 0))) p hwt.1
      rw [hz0 p a b] at z
      omega
    · have z := g_goc (kd := (m x_will_kinds_)) (nm := (m x_will_owner_)) (fit := (m x_ledger_paper_ 3)) (sh := c_S Ks w0) 6 (a := 0) (n := m x_will_ 0 - 1) (k := t) (out := 0) (worth := (m x_will_terms_ 1)) (wd := (t_w wd 0 0 6 (fun _ => 0))) (wd' := fun _ => 0) (fun p a b => hz0 p a b) p a b
      unfold c_D
      rw [z]
  have lp1 : ∀ (r : Nat) (k : Int), 6 < k + r → (0 ≤ k ∧ k ≤ 6) → cw_R (d + 11) k_Pa_divide 2 [vr x_ledger_paper_, vi t, vi k] [] (u2_m m (t_w wd 0 0 k (fun _ => 0)) ws sk x_forest_ x_will_) Q := by
    intro r
    induction r with
    | zero =>
      intro k hr hk
      omega
    | succ r ih =>
      intro k hr hk
      refine la_go_R (u2_m_ok hm) 13 [2, 21] ?_
      refine And.intro (fun (c21 : 6 ≤ k) => ?_) (fun (c21 : ¬ (6 ≤ k)) => ?_)
      · show cw_R _ _ 21 [vr x_ledger_paper_, vi t, vi k] [] (u2_m m (t_w wd 0 0 k (fun _ => 0)) ws sk x_forest_ x_will_) _
        rw [show k = 6 by omega]
        exact h2
      · refine And.intro (show 0 ≤ k ∧ k < 6 by omega) ?_
        have hm22 : la_ok (cw_put (u2_m m (t_w wd 0 0 k (fun _ => 0)) ws sk x_forest_ x_will_) x_ledger_paper_would_ k 0) := la_put (u2_m_ok hm) (by decide) (Or.inr (by decide))
        refine And.intro (show -2147483648 ≤ k + 1 ∧ k + 1 < 2147483648 by omega) ?_
        show cw_R _ _ 2 [vr x_ledger_paper_, vi t, vi (k + 1)] [] (cw_put (u2_m m (t_w wd 0 0 k (fun _ => 0)) ws sk x_forest_ x_will_) x_ledger_paper_would_ k 0) _
        rw [u2_m_pwd, show cw_up (t_w wd 0 0 k (fun _ => 0)) k 0 = t_w wd 0 0 (k + 1) (fun _ => 0) from t_w0s (g := fun _ => 0) hk.1]
        exact ih (k + 1) (by omega) (by omega)
  refine la_go_C (u2_m_ok hm) 5 [2] ?_
  show cw_R _ _ 2 [vr x_ledger_paper_, vi t, vi 0] [] (u2_m m wd ws sk x_forest_ x_will_) _
  rw [show u2_m m wd ws sk x_forest_ x_will_ = u2_m m (t_w wd 0 0 0 (fun _ => 0)) ws sk x_forest_ x_will_ by rw [t_w0]]
  exact lp1 7 0 (by omega) (by omega)
theorem u3_q {m : cw_M} {wd ws sk : Int → Int} {fo wi j v : Int} (h5 : j ≠ 5) (h6 : j ≠ 6) : cw_put (u3_m m wd ws sk fo wi) x_paper_ j v = u3_m (cw_put m x_paper_ j v) wd ws sk fo wi := by
  refine u3_m_x ?_ ?_ ?_ ?_ ?_ (fun i p q => ?_) (fun c a b e p => ?_)
  · rw [cw_put_ne (by decide)]; rfl
  · rw [cw_put_ne (by decide)]; rfl
  · rw [cw_put_ne (by decide)]; rfl
  · rw [cw_put_off (fun z => h5 z.symm)]; rfl
  · rw [cw_put_off (fun z => h6 z.symm)]; rfl
  · by_cases e : i = j
    · rw [e, cw_put_eq, cw_put_eq]
    · rw [cw_put_off e, cw_put_off e]
      show (if i = 5 then _ else _) = _
      rw [if_neg p, if_neg q]
  · rw [cw_put_ne p, cw_put_ne p, u3_m_ne a b e p]
theorem Pa_divide3b {d : Nat} {m : cw_M} {Q : Option cw_V → cw_M → Prop} {w ws w0 sk : Int → Int} {Ks : List p_K} {t : Int} (hmB : la_ok (cw_put m x_paper_ 8 (t * 6))) (hT : T_o m (m x_paper_ 7) Ks) (hw0 : ∀ i, 6 ≤ i → i < 17 → -1000000 ≤ w0 i ∧ w0 i ≤ 1000000) (hn : 1 ≤ m x_will_ 0 ∧ m x_will_ 0 ≤ 7) (hcw : c_w ws w0) (hw : ∀ p, 0 ≤ p → p < 6 → 0 ≤ w p ∧ w p ≤ 9999) (hQ : ∀ ws' sk', c_w ws' w0 → Q none (u3_m (cw_put m x_paper_ 8 (t * 6)) (c_D Ks w0 (m x_will_owner_) (m x_will_ 0) w 6) ws' sk' x_forest_ x_will_)) : cw_R (d + 11) k_Pa_divide 81 [vr x_paper_, vi t, vi 0] [] (u3_m (cw_put m x_paper_ 8 (t * 6)) w ws sk x_forest_ x_will_) Q := by
  have lp2 : ∀ (r : Nat) (k : Int) (ws sk : Int → Int), 6 < k + r → (0 ≤ k ∧ k ≤ 6) → (c_w ws w0) → cw_R (d + 11) k_Pa_divide 81 [vr x_paper_, vi t, vi k] [] (u3_m (cw_put m x_paper_ 8 (t * 6)) (c_D Ks w0 (m x_will_owner_) (m x_will_ 0) w k) ws sk x_forest_ x_will_) Q := by
    intro r
    induction r with
    | zero =>
      intro k ws sk hr hk hcw
      omega
    | succ r ih =>
      intro k ws sk hr hk hcw
      have ck : c_D Ks w0 (m x_will_owner_) (m x_will_ 0) w k k = w k := by unfold c_D; rw [if_neg (by omega)]
      have wk : k < 6 → 0 ≤ w k ∧ w k ≤ 9999 := fun q => hw k hk.1 q
      have fr := f_cntr (f := (m x_will_owner_)) (p := k) (m x_will_ 0).toNat
      refine la_go_R (u3_m_ok hmB) 38 [81] ?_
      refine And.intro (fun (c21 : 6 ≤ k) => ?_) (fun (c21 : ¬ (6 ≤ k)) => ?_)
      · show Q none (u3_m (cw_put m x_paper_ 8 (t * 6)) (c_D Ks w0 (m x_will_owner_) (m x_will_ 0) w k) ws sk x_forest_ x_will_)
        rw [show k = 6 by omega]
        exact hQ _ _ hcw
      · refine And.intro (show 0 ≤ k ∧ k < 6 by omega) ?_
        refine And.intro (fun (c22 : (c_D Ks w0 (m x_will_owner_) (m x_will_ 0) w k) k ≤ 0) => ?_) (fun (c22 : ¬ ((c_D Ks w0 (m x_will_owner_) (m x_will_ 0) w k) k ≤ 0)) => ?_)
        · refine And.intro (show -2147483648 ≤ k + 1 ∧ k + 1 < 2147483648 by omega) ?_
          show cw_R _ _ 81 [vr x_paper_, vi t, vi (k + 1)] [] (u3_m (cw_put m x_paper_ 8 (t * 6)) (c_D Ks w0 (m x_will_owner_) (m x_will_ 0) w k) ws sk x_forest_ x_will_) _
          rw [c_D2 (by omega)]
          exact ih (k + 1) _ _ (by omega) (by omega) hcw
        · refine And.intro (show 0 ≤ k ∧ k < 6 by omega) ?_
          show cw_C _ _ [vr x_paper_, vi k, vi ((c_D Ks w0 (m x_will_owner_) (m x_will_ 0) w k) k)] (u3_m (cw_put m x_paper_ 8 (t * 6)) (c_D Ks w0 (m x_will_owner_) (m x_will_ 0) w k) ws sk x_forest_ x_will_) _
          refine Pa_askOfPerson3 hmB (show 0 ≤ m x_will_ 0 ∧ m x_will_ 0 ≤ 7 by omega) ⟨(u3_m_ok hmB), ?_⟩
          refine And.intro (show 0 ≤ k ∧ k < 6 by omega) ?_
          refine And.intro (show 0 ≤ k ∧ k < 6 by omega) ?_
          show cw_C _ _ [vr x_paper_, vi 1, vi 0] (u3_m (cw_put m x_paper_ 8 (t * 6)) (c_D Ks w0 (m x_will_owner_) (m x_will_ 0) w k) (c_P ws k ((c_D Ks w0 (m x_will_owner_) (m x_will_ 0) w k) k) (f_cnt (m x_will_owner_) k (m x_will_ 0).toNat)) sk x_forest_ x_will_) _
          refine Pa_tell3 hmB (T_oe hT (fun c q => cw_put_ne (fun e => by rw [e] at q; exact absurd q (by unfold h_c; decide)))) (c_Pb (c_wb hcw hw0) (by omega) (by omega) (by omega)) (fun (sk2 : Int → Int) => ⟨(u3_m_ok hmB), ?_⟩)
          have eTl : l_tl Ks 1 0 (c_P ws k ((c_D Ks w0 (m x_will_owner_) (m x_will_ 0) w k) k) (f_cnt (m x_will_owner_) k (m x_will_ 0).toNat)) = c_T Ks w0 (m x_will_owner_) (m x_will_ 0) k (w k) := by unfold c_T; rw [ck, c_Pw hcw]
          have tr := c_Tr (Ks := Ks) (w0 := w0) (nm := (m x_will_owner_)) (n := (m x_will_ 0)) (p := k) (wt := w k)
          rw [← eTl] at tr
          have hsb := g_shb (w := c_D Ks w0 (m x_will_owner_) (m x_will_ 0) w k k) (by rw [ck]; exact wk (by omega)) tr
          refine And.intro (show -2147483648 ≤ ((c_D Ks w0 (m x_will_owner_) (m x_will_ 0) w k) k) * (l_tl Ks 1 0 (c_P ws k ((c_D Ks w0 (m x_will_owner_) (m x_will_ 0) w k) k) (f_cnt (m x_will_owner_) k (m x_will_ 0).toNat))) ∧ ((c_D Ks w0 (m x_will_owner_) (m x_will_ 0) w k) k) * (l_tl Ks 1 0 (c_P ws k ((c_D Ks w0 (m x_will_owner_) (m x_will_ 0) w k) k) (f_cnt (m x_will_owner_) k (m x_will_ 0).toNat))) < 2147483648 by omega) ?_
          refine And.intro (show 0 ≤ ((c_D Ks w0 (m x_will_owner_) (m x_will_ 0) w k) k) * (l_tl Ks 1 0 (c_P ws k ((c_D Ks w0 (m x_will_owner_) (m x_will_ 0) w k) k) (f_cnt (m x_will_owner_) k (m x_will_ 0).toNat))) ∧ ((c_D Ks w0 (m x_will_owner_) (m x_will_ 0) w k) k) * (l_tl Ks 1 0 (c_P ws k ((c_D Ks w0 (m x_will_owner_) (m x_will_ 0) w k) k) (f_cnt (m x_will_owner_) k (m x_will_ 0).toNat))) < 2147483648 ∧ 0 < 100 by omega) ?_
          refine And.intro (show -2147483648 ≤ ((c_D Ks w0 (m x_will_owner_) (m x_will_ 0) w k) k) - ((((c_D Ks w0 (m x_will_owner_) (m x_will_ 0) w k) k) * (l_tl Ks 1 0 (c_P ws k ((c_D Ks w0 (m x_will_owner_) (m x_will_ 0) w k) k) (f_cnt (m x_will_owner_) k (m x_will_ 0).toNat)))) / 100) ∧ ((c_D Ks w0 (m x_will_owner_) (m x_will_ 0) w k) k) - ((((c_D Ks w0 (m x_will_owner_) (m x_will_ 0) w k) k) * (l_tl Ks 1 0 (c_P ws k ((c_D Ks w0 (m x_will_owner_) (m x_will_ 0) w k) k) (f_cnt (m x_will_owner_) k (m x_will_ 0).toNat)))) / 100) < 2147483648 by omega) ?_
          refine And.intro (show 0 ≤ k ∧ k < 6 by omega) ?_
          have hm23 : la_ok (cw_put (u3_m (cw_put m x_paper_ 8 (t * 6)) (c_D Ks w0 (m x_will_owner_) (m x_will_ 0) w k) (c_P ws k ((c_D Ks w0 (m x_will_owner_) (m x_will_ 0) w k) k) (f_cnt (m x_will_owner_) k (m x_will_ 0).toNat)) sk2 x_forest_ x_will_) x_paper_would_ k (((c_D Ks w0 (m x_will_owner_) (m x_will_ 0) w k) k) - ((((c_D Ks w0 (m x_will_owner_) (m x_will_ 0) w k) k) * (l_tl Ks 1 0 (c_P ws k ((c_D Ks w0 (m x_will_owner_) (m x_will_ 0) w k) k) (f_cnt (m x_will_owner_) k (m x_will_ 0).toNat)))) / 100))) := la_put (u3_m_ok hmB) (by decide) (Or.inr (by decide))
          refine And.intro (show -2147483648 ≤ k + 1 ∧ k + 1 < 2147483648 by omega) ?_
          show cw_R _ _ 81 [vr x_paper_, vi t, vi (k + 1)] [] (cw_put (u3_m (cw_put m x_paper_ 8 (t * 6)) (c_D Ks w0 (m x_will_owner_) (m x_will_ 0) w k) (c_P ws k ((c_D Ks w0 (m x_will_owner_) (m x_will_ 0) w k) k) (f_cnt (m x_will_owner_) k (m x_will_ 0).toNat)) sk2 x_forest_ x_will_) x_paper_would_ k (((c_D Ks w0 (m x_will_owner_) (m x_will_ 0) w k) k) - ((((c_D Ks w0 (m x_will_owner_) (m x_will_ 0) w k) k) * (l_tl Ks 1 0 (c_P ws k ((c_D Ks w0 (m x_will_owner_) (m x_will_ 0) w k) k) (f_cnt (m x_will_owner_) k (m x_will_ 0).toNat)))) / 100))) _
          rw [u3_m_pwd]
          have ez : ∀ z, z = w k - w k * c_T Ks w0 (m x_will_owner_) (m x_will_ 0) k (w k) / 100 → cw_up (c_D Ks w0 (m x_will_owner_) (m x_will_ 0) w k) k z = c_D Ks w0 (m x_will_owner_) (m x_will_ 0) w (k + 1) := fun z hz => by rw [hz]; exact c_D1 hk.1
          rw [ez _ (by rw [eTl, ck])]
          exact ih (k + 1) _ _ (by omega) (by omega) (c_wt c_wP hcw)
  rw [← c_D0 (Ks := Ks) (w0 := w0) (nm := (m x_will_owner_)) (n := (m x_will_ 0)) (w := w)]
  exact lp2 7 0 ws sk (by omega) (by omega) hcw
theorem Pa_giveD3 {d : Nat} {m : cw_M} {Q : Option cw_V → cw_M → Prop} {wd ws w0 sk : Int → Int} {Ks : List p_K} {t : Int} (hm : la_ok m) (hT : T_o m (m x_paper_ 7) Ks) (hw0 : ∀ i, 6 ≤ i → i < 17 → -1000000 ≤ w0 i ∧ w0 i ≤ 1000000) (ho : ∀ i, 0 ≤ i → i < 7 → 0 ≤ m x_will_owner_ i ∧ m x_will_owner_ i < 6) (hn : 1 ≤ m x_will_ 0 ∧ m x_will_ 0 ≤ 7) (hcw : c_w ws w0) (ht : 0 ≤ t ∧ t < 132) (htc : t < t_c (m x_will_ 0 - 1)) (hde : t_pl (fun q => q.2.2.1) (m x_forest_deep_) (t * 6) 6 0 (m x_will_ 0 - 1) t 0 (-1)) (hwt : 0 ≤ (m x_will_terms_ 1) ∧ (m x_will_terms_ 1) ≤ 9999) (hwd : ∀ p, 0 ≤ p → p < 6 → wd p = 0) (hQ : ∀ ws' sk', c_w ws' w0 → Q none (u3_m (cw_put m x_paper_ 8 (t * 6)) (g_go (m x_will_kinds_) (m x_will_owner_) (m x_paper_ 3) (c_S Ks w0) 6 0 (m x_will_ 0 - 1) t 0 (m x_will_terms_ 1) wd) ws' sk' x_forest_ x_will_)) : cw_C (d + 10) k_Pa_give [vr x_paper_, vi 0, vi (m x_will_ 0 - 1), vi (m x_will_terms_ 1), vi 0, vi 0] (cw_put (u3_m m wd ws sk x_forest_ x_will_) x_paper_ 8 (t * 6)) Q := by
  rw [u3_q (by decide) (by decide)]
  exact Pa_give3 6 (d := d + 10) (m := (cw_put m x_paper_ 8 (t * 6))) (n := m x_will_ 0 - 1) (k := t) (ov := -1) (by omega) (la_put hm (by decide) (Or.inl rfl)) (T_oe hT (fun c q => cw_put_ne (fun e => by rw [e] at q; exact absurd q (by unfold h_c; decide)))) hw0 ho hcw (by decide) (by omega) (by omega) (by omega) (by omega) (by omega) (show 0 ≤ t * 6 ∧ t * 6 ≤ 786 by omega) ⟨ht.1, htc⟩ hde hwt (fun p a b => by rw [hwd p a b]; omega) hQ
theorem Pa_divide3 {d : Nat} {m : cw_M} {Q : Option cw_V → cw_M → Prop} {wd ws w0 sk : Int → Int} {Ks : List p_K} {t : Int} (hm : la_ok m) (hT : T_o m (m x_paper_ 7) Ks) (hw0 : ∀ i, 6 ≤ i → i < 17 → -1000000 ≤ w0 i ∧ w0 i ≤ 1000000) (ho : ∀ i, 0 ≤ i → i < 7 → 0 ≤ m x_will_owner_ i ∧ m x_will_owner_ i < 6) (hn : 1 ≤ m x_will_ 0 ∧ m x_will_ 0 ≤ 7) (hcw : c_w ws w0) (ht : 0 ≤ t ∧ t < 132) (htc : t < t_c (m x_will_ 0 - 1)) (hde : t_pl (fun q => q.2.2.1) (m x_forest_deep_) (t * 6) 6 0 (m x_will_ 0 - 1) t 0 (-1)) (hwt : 0 ≤ (m x_will_terms_ 1) ∧ (m x_will_terms_ 1) ≤ 9999) (hQ : ∀ wd' ws' sk', c_w ws' w0 → (∀ p, 0 ≤ p → p < 6 → wd' p = c_D Ks w0 (m x_will_owner_) (m x_will_ 0) (g_go (m x_will_kinds_) (m x_will_owner_) (m x_paper_ 3) (c_S Ks w0) 6 0 (m x_will_ 0 - 1) t 0 (m x_will_terms_ 1) (fun _ => 0)) 6 p) → Q none (u3_m (cw_put m x_paper_ 8 (t * 6)) wd' ws' sk' x_forest_ x_will_)) : cw_C (d + 11) k_Pa_divide [vr x_paper_, vi t] (u3_m m wd ws sk x_forest_ x_will_) Q := by
  have hmB : la_ok (cw_put m x_paper_ 8 (t * 6)) := la_put hm (by decide) (Or.inl rfl)
  have hz0 : ∀ p, 0 ≤ p → p < 6 → (t_w wd 0 0 6 (fun _ => 0)) p = 0 := fun p a b => by unfold t_w; rw [if_pos (by omega)]
  have h2 : cw_R (d + 11) k_Pa_divide 21 [vr x_paper_, vi t, vi 6] [] (u3_m m (t_w wd 0 0 6 (fun _ => 0)) ws sk x_forest_ x_will_) Q := by
    refine la_go_R (u3_m_ok hm) 35 [81] ?_
    refine br_f (show ¬ ((34603913 : Int) = 0) by decide) ?_
    refine br_f (show ¬ ((75497857 : Int) = 0) by decide) ?_
    refine br_t (show m x_will_ 0 ≠ 0 by omega) ?_
    refine And.intro (show -2147483648 ≤ t * 6 ∧ t * 6 < 2147483648 by omega) ?_
    have hm21 : la_ok (cw_put (u3_m m (t_w wd 0 0 6 (fun _ => 0)) ws sk x_forest_ x_will_) x_paper_ 8 (t * 6)) := la_put (u3_m_ok hm) (by decide) (Or.inl rfl)
    refine And.intro (show -2147483648 ≤ (m x_will_ 0) - 1 ∧ (m x_will_ 0) - 1 < 2147483648 by omega) ?_
    refine And.intro (show 0 ≤ 1 ∧ 1 < 4 by omega) ?_
    show cw_C _ _ [vr x_paper_, vi 0, vi ((m x_will_ 0) - 1), vi (m x_will_terms_ 1), vi 0, vi 0] (cw_put (u3_m m (t_w wd 0 0 6 (fun _ => 0)) ws sk x_forest_ x_will_) x_paper_ 8 (t * 6)) _
    refine Pa_giveD3 hm hT hw0 ho hn hcw ht htc hde hwt hz0 (fun (ws2 sk2 : Int → Int) (hcw2 : c_w ws2 w0) => ⟨(u3_m_ok hmB), ?_⟩)
    show cw_R _ _ 81 [vr x_paper_, vi t, vi 0] [] (u3_m (cw_put m x_paper_ 8 (t * 6)) (g_go (m x_will_kinds_) (m x_will_owner_) (m x_paper_ 3) (c_S Ks w0) 6 0 (m x_will_ 0 - 1) t 0 (m x_will_terms_ 1) (t_w wd 0 0 6 (fun _ => 0))) ws2 sk2 x_forest_ x_will_) _
    refine Pa_divide3b hmB hT hw0 hn hcw2 (fun p a b => ?_) (fun ws' sk' hc' => hQ _ ws' sk' hc' (fun p a b => ?_))
    · have z := g_gor (kd := (m x_will_kinds_)) (nm := (m x_will_owner_)) (fit := (m x_paper_ 3)) (sh := c_S Ks w0) (fun _ _ _ _ => c_Sr) 6 (a := 0) (n := m x_will_ 0 - 1) (k := t) (out := 0) (worth := (m x_will_terms_ 1)) (wd := (t_w wd 0 0 6 (fun _ => 0))) p hwt.1
      rw [hz0 p a b] at z
      omega
    · have z := g_goc (kd := (m x_will_kinds_)) (nm := (m x_will_owner_)) (fit := (m x_paper_ 3)) (sh := c_S Ks w0) 6 (a := 0) (n := m x_will_ 0 - 1) (k := t) (out := 0) (worth := (m x_will_terms_ 1)) (wd := (t_w wd 0 0 6 (fun _ => 0))) (wd' := fun _ => 0) (fun p a b => hz0 p a b) p a b
      unfold c_D
      rw [z]
  have lp1 : ∀ (r : Nat) (k : Int), 6 < k + r → (0 ≤ k ∧ k ≤ 6) → cw_R (d + 11) k_Pa_divide 2 [vr x_paper_, vi t, vi k] [] (u3_m m (t_w wd 0 0 k (fun _ => 0)) ws sk x_forest_ x_will_) Q := by
    intro r
    induction r with
    | zero =>
      intro k hr hk
      omega
    | succ r ih =>
      intro k hr hk
      refine la_go_R (u3_m_ok hm) 13 [2, 21] ?_
      refine And.intro (fun (c21 : 6 ≤ k) => ?_) (fun (c21 : ¬ (6 ≤ k)) => ?_)
      · show cw_R _ _ 21 [vr x_paper_, vi t, vi k] [] (u3_m m (t_w wd 0 0 k (fun _ => 0)) ws sk x_forest_ x_will_) _
        rw [show k = 6 by omega]
        exact h2
      · refine And.intro (show 0 ≤ k ∧ k < 6 by omega) ?_
        have hm22 : la_ok (cw_put (u3_m m (t_w wd 0 0 k (fun _ => 0)) ws sk x_forest_ x_will_) x_paper_would_ k 0) := la_put (u3_m_ok hm) (by decide) (Or.inr (by decide))
        refine And.intro (show -2147483648 ≤ k + 1 ∧ k + 1 < 2147483648 by omega) ?_
        show cw_R _ _ 2 [vr x_paper_, vi t, vi (k + 1)] [] (cw_put (u3_m m (t_w wd 0 0 k (fun _ => 0)) ws sk x_forest_ x_will_) x_paper_would_ k 0) _
        rw [u3_m_pwd, show cw_up (t_w wd 0 0 k (fun _ => 0)) k 0 = t_w wd 0 0 (k + 1) (fun _ => 0) from t_w0s (g := fun _ => 0) hk.1]
        exact ih (k + 1) (by omega) (by omega)
  refine la_go_C (u3_m_ok hm) 5 [2] ?_
  show cw_R _ _ 2 [vr x_paper_, vi t, vi 0] [] (u3_m m wd ws sk x_forest_ x_will_) _
  rw [show u3_m m wd ws sk x_forest_ x_will_ = u3_m m (t_w wd 0 0 0 (fun _ => 0)) ws sk x_forest_ x_will_ by rw [t_w0]]
  exact lp1 7 0 (by omega) (by omega)
