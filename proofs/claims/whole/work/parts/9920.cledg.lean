/-! The ledger, by the class (wip/whole/tools/m120.py). -/
/-- the ledger tells what is kept -/
def L_c (m : cw_M) (K : Int → Int) : Prop := ((m x_ledger_paper_ 5 = x_forest_ ∧ m x_ledger_paper_ 6 = x_will_) ∧ (m x_ledger_paper_ 7 = 0 ∨ ∃ i, (0 ≤ i ∧ i < K 49) ∧ m x_ledger_paper_ 7 = m x_will_lawAt_ i)) ∧ T_o m (m x_ledger_paper_ 7) (l_fo K (K 50)) ∧ c_w (m x_ledger_paper_sums_words_) (c_0 (K 18) (K 44)) ∧ m x_ledger_paper_ 3 = F_K K ∧ m x_ledger_paper_ 2 = m_B (l_br K (K 50) (K 18)) 6 ∧ ∀ t, 0 ≤ t → t < t_tm (K 46) → m x_ledger_isKnown_ t ≠ 0 → ∀ p, 0 ≤ p → p < 6 → m x_ledger_got_ (t * 6 + p) = G_K K t p
/-- words that no law asks for -/
def Z_w (m : cw_M) : Prop := ∀ i, (i < 0 ∨ 7 < i) → m x_ledger_paper_sums_words_ i = 0 ∧ m x_paper_sums_words_ i = 0
/-- all caches of the class -/
def Z_c (m : cw_M) (K : Int → Int) : Prop := S_c m K ∧ Z_w m ∧ (m x_ 19 = 0 ∨ m x_ 19 = 1) ∧ (m x_ 19 = 0 → L_c m K)
theorem c_w0 {w : Int → Int} {yr md : Int} (h : ∀ i, (i < 0 ∨ 7 < i) → w i = 0) : c_w (cw_up (cw_up w 6 yr) 7 md) (c_0 yr md) := fun i q => by
  unfold c_0
  by_cases e7 : i = 7
  · rw [e7, cw_up_eq]; rfl
  rw [cw_up_ne e7]
  by_cases e6 : i = 6
  · rw [e6, cw_up_eq]; rfl
  rw [cw_up_ne e6, if_neg e6, if_neg e7]
  exact h i (by omega)
theorem c_00 {w : Int → Int} {yr md : Int} (h : c_w w (c_0 yr md)) : ∀ i, (i < 0 ∨ 7 < i) → w i = 0 := fun i q => by
  rw [h i (by omega)]; unfold c_0; rw [if_neg (by omega), if_neg (by omega)]
theorem c_0b {w : Int → Int} {yr md : Int} (h : c_w w (c_0 yr md)) (hy : 0 ≤ yr ∧ yr ≤ 1000000) (hm : 0 ≤ md ∧ md ≤ 9) : ∀ i, 6 ≤ i → i < 17 → -1000000 ≤ w i ∧ w i ≤ 1000000 := fun i a b => by
  rw [h i (by omega)]; unfold c_0
  (repeat' split) <;> omega
theorem l_fo1 {K : Int → Int} : l_fo K (-1) = [] := by unfold l_fo; rw [if_pos rfl]
theorem l_fo2 {K : Int → Int} {f : Int} (h : 0 ≤ f) : l_fo K f = l_ks K f := by unfold l_fo; rw [if_neg (by omega)]
theorem F_Kr {K : Int → Int} : F_K K = l_fit (fun p => K (12 + p)) (l_br K (K 50) (K 18)) 6 := rfl
theorem Wi_lawOf {d : Nat} {m : cw_M} {Q : Option cw_V → cw_M → Prop} {K : Int → Int} {fc : Int} (hm : la_ok m) (hW : W_r m K) (h49 : 0 ≤ K 49 ∧ K 49 ≤ 6) (hfc : -1 ≤ fc ∧ fc < K 49) (h : ∀ T, T_o m T (l_fo K fc) → (T = 0 ∨ ∃ i, (0 ≤ i ∧ i < K 49) ∧ T = m x_will_lawAt_ i) → Q (some (vr T)) m) : cw_C (d + 1) k_Wi_lawOf [vr x_will_, vi fc] m Q := by
  have hlw : m x_will_ 11 = K 49 := hW.2.2.2.2.2.2.2.2.2.2.1
  have hla : ∀ i, 0 ≤ i → i < K 49 → T_l m (m x_will_lawAt_ i) (l_ks K i) := hW.2.2.2.2.2.2.2.2.2.2.2.2
  refine la_go_C hm 14 [] ?_
  show cw_C _ _ [vi fc, vi (m x_will_ 11)] (m) _
  refine C_isBelow (fun (a21 : 0 ≤ fc) (a22 : fc < m x_will_ 11) => ⟨hm, ?_⟩) (fun (a23 : ¬ (0 ≤ fc ∧ fc < m x_will_ 11)) => ⟨hm, ?_⟩)
  · refine br_f (show ¬ ((1 : Int) = 0) by decide) ?_
    refine And.intro (show 0 ≤ fc ∧ fc < 6 by omega) ?_
    show Q (some (vr (m x_will_lawAt_ fc))) (m)
    refine h _ (Or.inr ?_) (Or.inr ⟨fc, ⟨by omega, by omega⟩, rfl⟩)
    rw [l_fo2 (by omega)]
    exact hla fc (by omega) (by omega)
  · refine br_t (show (0 : Int) = 0 by decide) ?_
    show Q (some (vr 0)) (m)
    refine h _ (Or.inl ⟨rfl, ?_⟩) (Or.inl rfl)
    rw [show fc = -1 by omega, l_fo1]
theorem Le_open29 {d : Nat} {X : cw_M} {Q : Option cw_V → cw_M → Prop} (hX : la_ok X) (h : Q none (cw_row X x_ledger_isKnown_ (t_w (X x_ledger_isKnown_) 0 0 132 (fun _ => 0)))) : cw_R (d + 4) k_Le_open 29 [vr x_ledger_, vr x_will_, vr x_forest_, vi 0] [] X Q := by
  have lp : ∀ (r : Nat) (k : Int), 132 < k + r → (0 ≤ k ∧ k ≤ 132) → cw_R (d + 4) k_Le_open 29 [vr x_ledger_, vr x_will_, vr x_forest_, vi k] [] (cw_row X x_ledger_isKnown_ (t_w (X x_ledger_isKnown_) 0 0 k (fun _ => 0))) Q := by
    intro r
    induction r with
    | zero =>
      intro k hr hk
      omega
    | succ r ih =>
      intro k hr hk
      refine la_go_R (la_row hX (by decide) (by decide)) 13 [29] ?_
      refine And.intro (fun (c21 : 132 ≤ k) => ?_) (fun (c21 : ¬ (132 ≤ k)) => ?_)
      · show Q none (cw_row X x_ledger_isKnown_ (t_w (X x_ledger_isKnown_) 0 0 k (fun _ => 0)))
        rw [show k = 132 by omega]
        exact h
      · refine And.intro ⟨Or.inl rfl, show 0 ≤ k ∧ k < 132 by omega⟩ ?_
        have hm22 : la_ok (cw_put (cw_row X x_ledger_isKnown_ (t_w (X x_ledger_isKnown_) 0 0 k (fun _ => 0))) x_ledger_isKnown_ k 0) := la_put (la_row hX (by decide) (by decide)) (by decide) (Or.inr (by decide))
        refine And.intro (show -2147483648 ≤ k + 1 ∧ k + 1 < 2147483648 by omega) ?_
        show cw_R _ _ 29 [vr x_ledger_, vr x_will_, vr x_forest_, vi (k + 1)] [] (cw_put (cw_row X x_ledger_isKnown_ (t_w (X x_ledger_isKnown_) 0 0 k (fun _ => 0))) x_ledger_isKnown_ k 0) _
        refine la_go_R0 (m' := cw_row X x_ledger_isKnown_ (t_w (X x_ledger_isKnown_) 0 0 (k + 1) (fun _ => 0))) (by rw [cw_row_put]; congr 1; exact t_w0s (g := fun _ => 0) hk.1) ?_
        exact ih (k + 1) (by omega) (by omega)
  refine la_go_R0 (m' := cw_row X x_ledger_isKnown_ (t_w (X x_ledger_isKnown_) 0 0 0 (fun _ => 0))) (by rw [t_w0, cw_row_self]) ?_
  exact lp 133 0 (by omega) (by omega)
theorem Le_open {d : Nat} {m : cw_M} {Q : Option cw_V → cw_M → Prop} {K : Int → Int} (hm : la_ok m) (hK : K_r K) (hW : W_r m K) (hZ : Z_w m) (h : ∀ M, la_ok M → (∀ c, c ≠ x_ledger_paper_ → c ≠ x_ledger_paper_sums_words_ → c ≠ x_ledger_paper_sums_stack_ → c ≠ x_ledger_isKnown_ → M c = m c) → L_c M K → Z_w M → Q none M) : cw_C (d + 4) k_Le_open [vr x_ledger_, vr x_will_, vr x_forest_] m Q := by
  have hnm : m x_will_ 0 = K 46 := hW.1
  have how : ∀ i, 0 ≤ i → i < 7 → m x_will_owner_ i = K (19 + i) := hW.2.1
  have ht0 : m x_will_terms_ 0 = K 18 := hW.2.2.2.2.2.1.1
  have ht1 : m x_will_terms_ 1 = K 43 := hW.2.2.2.2.2.1.2.1
  have ht2 : m x_will_terms_ 2 = K 44 := hW.2.2.2.2.2.1.2.2.1
  have hfc : m x_will_ 13 = K 50 := hW.2.2.2.2.2.2.2.2.2.2.2.1
  have k46 := hK.1
  have k18 := hK.2.2.2.2.1
  have k43 := hK.2.2.2.2.2.2.1
  have k44 := hK.2.2.2.2.2.2.2.1
  have k49 := hK.2.2.2.2.2.2.2.2.2.2.2.1
  refine la_go_C hm 20 [29] ?_
  show cw_C _ _ [vr x_will_, vi (m x_will_ 13)] (m) _
  refine Wi_lawOf hm hW (by omega) (by rw [hfc]; exact hK.2.2.2.2.2.2.2.2.2.2.2.2.1) (fun (T : Int) hTf hTm => ⟨hm, ?_⟩)
  rw [hfc] at hTf
  refine And.intro (show 0 ≤ 0 ∧ 0 < 4 by omega) ?_
  show cw_C _ _ [vr x_ledger_paper_, vr x_will_, vr x_forest_, vr T, vi (m x_will_terms_ 0), vi (m x_will_ 4)] (m) _
  have hB : la_ok (cw_put (cw_put (cw_put m x_ledger_paper_ 7 T) x_ledger_paper_ 2 (c_B (l_fo K (K 50)) (cw_up (cw_up (m x_ledger_paper_sums_words_) 6 (m x_will_terms_ 0)) 7 (m x_will_terms_ 2)) (m x_will_owner_) (m x_will_ 0) (m x_will_terms_ 1) 6)) x_ledger_paper_ 3 (cw_iand (m x_will_ 4) (cw_ixor (c_B (l_fo K (K 50)) (cw_up (cw_up (m x_ledger_paper_sums_words_) 6 (m x_will_terms_ 0)) 7 (m x_will_terms_ 2)) (m x_will_owner_) (m x_will_ 0) (m x_will_terms_ 1) 6) (-1)))) := la_put (la_put (la_put hm (by decide) (Or.inl rfl)) (by decide) (Or.inl rfl)) (by decide) (Or.inl rfl)
  refine Pa_take2 (T := T) (Ks := l_fo K (K 50)) hm hTf (c_0b (c_w0 (fun i q => (hZ i q).1)) (by omega) (by omega)) (by omega) (by omega) (fun (ws2 sk2 : Int → Int) (hcw : c_w ws2 (cw_up (cw_up (m x_ledger_paper_sums_words_) 6 (m x_will_terms_ 0)) 7 (m x_will_terms_ 2))) => ⟨(u2_m_ok hB), ?_⟩)
  show cw_R _ _ 29 [vr x_ledger_, vr x_will_, vr x_forest_, vi 0] [] (u2_m (cw_put (cw_put (cw_put m x_ledger_paper_ 7 T) x_ledger_paper_ 2 (c_B (l_fo K (K 50)) (cw_up (cw_up (m x_ledger_paper_sums_words_) 6 (m x_will_terms_ 0)) 7 (m x_will_terms_ 2)) (m x_will_owner_) (m x_will_ 0) (m x_will_terms_ 1) 6)) x_ledger_paper_ 3 (cw_iand (m x_will_ 4) (cw_ixor (c_B (l_fo K (K 50)) (cw_up (cw_up (m x_ledger_paper_sums_words_) 6 (m x_will_terms_ 0)) 7 (m x_will_terms_ 2)) (m x_will_owner_) (m x_will_ 0) (m x_will_terms_ 1) 6) (-1)))) (m x_ledger_paper_would_) ws2 sk2 x_forest_ x_will_) _
  refine Le_open29 (u2_m_ok hB) ?_
  generalize eX : u2_m (cw_put (cw_put (cw_put m x_ledger_paper_ 7 T) x_ledger_paper_ 2 (c_B (l_fo K (K 50)) (cw_up (cw_up (m x_ledger_paper_sums_words_) 6 (m x_will_terms_ 0)) 7 (m x_will_terms_ 2)) (m x_will_owner_) (m x_will_ 0) (m x_will_terms_ 1) 6)) x_ledger_paper_ 3 (cw_iand (m x_will_ 4) (cw_ixor (c_B (l_fo K (K 50)) (cw_up (cw_up (m x_ledger_paper_sums_words_) 6 (m x_will_terms_ 0)) 7 (m x_will_terms_ 2)) (m x_will_owner_) (m x_will_ 0) (m x_will_terms_ 1) 6) (-1)))) (m x_ledger_paper_would_) ws2 sk2 x_forest_ x_will_ = X at *
  have hX : la_ok X := by rw [← eX]; exact u2_m_ok hB
  have xc : ∀ c, c ≠ x_ledger_paper_ → c ≠ x_ledger_paper_sums_words_ → c ≠ x_ledger_paper_sums_stack_ → X c = m c := fun c a b e => by
    rw [← eX]
    by_cases z : c = x_ledger_paper_would_
    · rw [z]; rfl
    · rw [u2_m_ne z b e a, cw_put_ne a, cw_put_ne a, cw_put_ne a]
  have hcw0 : c_w (cw_up (cw_up (m x_ledger_paper_sums_words_) 6 (m x_will_terms_ 0)) 7 (m x_will_terms_ 2)) (c_0 (K 18) (K 44)) := by rw [ht0, ht2]; exact c_w0 (fun i q => (hZ i q).1)
  have xw : X x_ledger_paper_sums_words_ = ws2 := by rw [← eX]; rfl
  have xcw : c_w ws2 (c_0 (K 18) (K 44)) := c_wt hcw hcw0
  have fr : ∀ c, c ≠ x_ledger_paper_ → c ≠ x_ledger_paper_sums_words_ → c ≠ x_ledger_paper_sums_stack_ → c ≠ x_ledger_isKnown_ → (cw_row X x_ledger_isKnown_ (t_w (X x_ledger_isKnown_) 0 0 132 (fun _ => 0))) c = m c := fun c a b e z => by rw [cw_row_ne z]; exact xc c a b e
  refine h _ (la_row hX (by decide) (by decide)) fr ⟨⟨⟨?_, ?_⟩, ?_⟩, ?_, ?_, ?_, ?_, fun t a b q => ?_⟩ (fun i q => ⟨?_, ?_⟩)
  · rw [cw_row_ne (by decide), ← eX]; rfl
  · rw [cw_row_ne (by decide), ← eX]; rfl
  · have e7 : (cw_row X x_ledger_isKnown_ (t_w (X x_ledger_isKnown_) 0 0 132 (fun _ => 0))) x_ledger_paper_ 7 = T := by rw [cw_row_ne (by decide), ← eX]; rfl
    rw [e7, fr x_will_lawAt_ (by decide) (by decide) (by decide) (by decide)]; exact hTm
  · have e7 : (cw_row X x_ledger_isKnown_ (t_w (X x_ledger_isKnown_) 0 0 132 (fun _ => 0))) x_ledger_paper_ 7 = T := by rw [cw_row_ne (by decide), ← eX]; rfl
    rw [e7]
    exact T_oe hTf (fun c q => fr c (fun e => by rw [e] at q; exact absurd q (by unfold h_c; decide)) (fun e => by rw [e] at q; exact absurd q (by unfold h_c; decide)) (fun e => by rw [e] at q; exact absurd q (by unfold h_c; decide)) (fun e => by rw [e] at q; exact absurd q (by unfold h_c; decide)))
  · rw [cw_row_ne (by decide), xw]; exact xcw
  · have e3 : (cw_row X x_ledger_isKnown_ (t_w (X x_ledger_isKnown_) 0 0 132 (fun _ => 0))) x_ledger_paper_ 3 = cw_iand (m x_will_ 4) (cw_ixor (c_B (l_fo K (K 50)) (cw_up (cw_up (m x_ledger_paper_sums_words_) 6 (m x_will_terms_ 0)) 7 (m x_will_terms_ 2)) (m x_will_owner_) (m x_will_ 0) (m x_will_terms_ 1) 6) (-1)) := by rw [cw_row_ne (by decide), ← eX]; rfl
    rw [e3, hnm, ht1]
    exact c_FE hcw0 hK.1 how hW.2.2.2.2.1.1 hW.2.2.2.2.1.2
  · have e2 : (cw_row X x_ledger_isKnown_ (t_w (X x_ledger_isKnown_) 0 0 132 (fun _ => 0))) x_ledger_paper_ 2 = c_B (l_fo K (K 50)) (cw_up (cw_up (m x_ledger_paper_sums_words_) 6 (m x_will_terms_ 0)) 7 (m x_will_terms_ 2)) (m x_will_owner_) (m x_will_ 0) (m x_will_terms_ 1) 6 := by rw [cw_row_ne (by decide), ← eX]; rfl
    rw [e2, hnm, ht1]
    exact c_BE hcw0 hK.1 how
  · exfalso
    apply q
    rw [cw_row_eq]
    unfold t_w
    have tb := (r_ll (mk := K) hK.1).2
    rw [if_pos (by omega)]
  · rw [cw_row_ne (by decide), xw]; exact c_00 xcw i q
  · rw [cw_row_ne (by decide), xc _ (by decide) (by decide) (by decide)]; exact (hZ i q).2
theorem L_ce {m M : cw_M} {K : Int → Int} (h : L_c m K) (h1 : M x_ledger_paper_ = m x_ledger_paper_) (h2 : M x_ledger_paper_sums_words_ = m x_ledger_paper_sums_words_) (h3 : M x_ledger_isKnown_ = m x_ledger_isKnown_) (h4 : M x_ledger_got_ = m x_ledger_got_) (h5 : ∀ c, h_c c → M c = m c) (h6 : M x_will_lawAt_ = m x_will_lawAt_) : L_c M K := by
  unfold L_c at h ⊢
  rw [h1, h2, h3, h4, h6]
  exact ⟨h.1, T_oe h.2.1 h5, h.2.2⟩
theorem Z_cS {m M : cw_M} {K : Int → Int} (h : Z_c m K) (hS : S_s m M) (hc : S_c M K) : Z_c M K := by
  have e : ∀ c, c ∉ [x_forest_, x_forest_deep_, x_forest_above_, x_forest_list_, x_] → M c = m c := fun c a => hS.1 c (U_n a (by decide)) (U_n a (by decide)) (U_n a (by decide)) (U_n a (by decide)) (U_n a (by decide))
  refine ⟨hc, fun i q => ?_, ?_, fun q => ?_⟩
  · rw [e _ (by decide), e _ (by decide)]; exact h.2.1 i q
  · rw [hS.2 19 (by decide)]; exact h.2.2.1
  · rw [hS.2 19 (by decide)] at q
    exact L_ce (h.2.2.2 q) (e _ (by decide)) (e _ (by decide)) (e _ (by decide)) (e _ (by decide)) (S_sh hS) (e _ (by decide))
theorem S_ce {m M : cw_M} {K : Int → Int} (h : S_c m K) (h1 : M x_forest_ = m x_forest_) (h2 : M x_forest_deep_ = m x_forest_deep_) (h3 : M x_forest_above_ = m x_forest_above_) (h4 : M x_forest_list_ = m x_forest_list_) (h5 : M x_ 18 = m x_ 18) : S_c M K := by
  unfold S_c at h ⊢
  rw [h1, h2, h3, h4, h5]
  exact h
theorem C_freshen {d : Nat} {m : cw_M} {Q : Option cw_V → cw_M → Prop} {K : Int → Int} (hm : la_ok m) (hT : ∀ j, 0 ≤ j → j < 7 → m cw_TREES j = t_c j) (hK : K_r K) (hW : W_r m K) (hZ : Z_c m K) (h : ∀ M, la_ok M → V_s m M → Z_c M K → M x_ 18 = 0 → M x_ 19 = 0 → Q (some (vi ((R_K K).length : Int))) M) : cw_C (d + 9) k_C_freshen [vr x_] m Q := by
  refine la_go_C hm 21 [] ?_
  show cw_C _ _ [vr x_] (m) _
  refine C_sift hm hT hK.1 hW hZ.1 (fun (M1 : cw_M) (hM1 : la_ok M1) (hS1 : S_s m M1) (h18 : M1 x_ 18 = 0) (hc1 : S_c M1 K) => ⟨hM1, ?_⟩)
  have hZ1 := Z_cS hZ hS1 hc1
  have hV1 := S_sV hS1
  have hW1 := W_rV hW hV1
  refine And.intro (fun (c21 : M1 x_ 19 = 0) => ?_) (fun (c21 : ¬ (M1 x_ 19 = 0)) => ?_)
  · show Q (some (vi ((R_K K).length : Int))) (M1)
    exact h M1 hM1 hV1 hZ1 h18 (by have := hZ1.2.2.1; omega)
  · show cw_C _ _ [vr x_ledger_, vr x_will_, vr x_forest_] (M1) _
    refine Le_open hM1 hK hW1 hZ1.2.1 (fun (M2 : cw_M) (hM2 : la_ok M2) hfr (hL2 : L_c M2 K) (hw2 : Z_w M2) => ⟨hM2, ?_⟩)
    refine And.intro (Or.inl rfl) ?_
    have hm22 : la_ok (cw_put M2 x_ 19 0) := la_put hM2 (by decide) (Or.inl rfl)
    show Q (some (vi ((R_K K).length : Int))) (cw_put M2 x_ 19 0)
    have fr : ∀ c, c ∉ [x_ledger_paper_, x_ledger_paper_sums_words_, x_ledger_paper_sums_stack_, x_ledger_isKnown_] → M2 c = M1 c := fun c a => hfr c (U_n a (by decide)) (U_n a (by decide)) (U_n a (by decide)) (U_n a (by decide))
    have e : ∀ c, c ≠ x_ → cw_put M2 x_ 19 0 c = M2 c := fun c a => cw_put_ne a
    refine h _ (la_put hM2 (by decide) (Or.inl rfl)) (V_st hV1 ⟨fun c a b => ?_, fun j a b => ?_⟩) ⟨?_, fun i q => ?_, Or.inl rfl, fun _ => ?_⟩ ?_ rfl
    · rw [e c b]; exact hfr c (U_n a (by decide)) (U_n a (by decide)) (U_n a (by decide)) (U_n a (by decide))
    · rw [cw_put_off b, fr _ (by decide)]
    · exact S_ce hc1 (by rw [e _ (by decide), fr _ (by decide)]) (by rw [e _ (by decide), fr _ (by decide)]) (by rw [e _ (by decide), fr _ (by decide)]) (by rw [e _ (by decide), fr _ (by decide)]) (by rw [cw_put_off (by decide), fr _ (by decide)])
    · rw [e _ (by decide), e _ (by decide)]; exact hw2 i q
    · exact L_ce hL2 (e _ (by decide)) (e _ (by decide)) (e _ (by decide)) (e _ (by decide)) (fun c q => e c (fun z => by rw [z] at q; exact absurd q (by unfold h_c; decide))) (e _ (by decide))
    · rw [cw_put_off (by decide), fr _ (by decide)]; exact h18
