/-! Another law, another year on paper, by the class (wip/whole/tools/m141.py). -/
/-- the same but for who lives, the year, the law in force -/
def K_o (K K' : Int → Int) : Prop := ∀ i, i ≠ 50 → (i < 12 ∨ 18 < i) → K' i = K i
theorem K_oR {K K' : Int → Int} (h : K_o K K') (hK : K_r K) : R_K K' = R_K K := by
  unfold R_K
  rw [h 46 (by decide) (by decide)]
  exact r_lc hK.1 (fun j a b => h j (by omega) (by omega))
theorem K_ol {K K' : Int → Int} (h : K_o K K') {f : Int} (hf : -1 ≤ f) : l_fo K' f = l_fo K f := by
  unfold l_fo
  split
  · rfl
  · exact (l_ksc (h _ (by omega) (by omega)) (fun k a b => ⟨h _ (by omega) (by omega), h _ (by omega) (by omega)⟩)).2.2
/-- the paper stands for a will -/
def P_c (M : cw_M) (K : Int → Int) : Prop := (M x_paper_ 5 = x_forest_ ∧ M x_paper_ 6 = x_will_) ∧ T_o M (M x_paper_ 7) (l_fo K (K 50)) ∧ c_w (M x_paper_sums_words_) (c_0 (K 18) (K 44)) ∧ M x_paper_ 3 = F_K K
theorem P_ce {m M : cw_M} {K : Int → Int} (h : P_c m K) (h1 : M x_paper_ = m x_paper_) (h2 : M x_paper_sums_words_ = m x_paper_sums_words_) (h3 : ∀ c, h_c c → M c = m c) : P_c M K := by
  unfold P_c at h ⊢
  rw [h1, h2]
  exact ⟨h.1, T_oe h.2.1 h3, h.2.2⟩
theorem P_Lh {m M : cw_M} (hM : ∀ c, c ∉ P_L → M c = m c) : ∀ c, h_c c → M c = m c := V_h (V_sp (P_LV hM))
theorem Pa_takeK {d : Nat} {m : cw_M} {Q : Option cw_V → cw_M → Prop} {K K' : Int → Int} (hm : la_ok m) (hK : K_r K) (hW : W_r m K) (hE : K_o K K') (hK' : K_r K') {T yr lv : Int} (hZw : ∀ i, (i < 0 ∨ 7 < i) → m x_paper_sums_words_ i = 0) (hT : T_o m T (l_fo K' (K' 50))) (hyr : yr = K' 18) (hlv : (0 ≤ lv ∧ lv < 64) ∧ ∀ p, 0 ≤ p → p < 6 → cw_iand (cw_ishr lv p) 1 = K' (12 + p)) (h : ∀ M, la_ok M → (∀ c, c ∉ P_L → M c = m c) → P_c M K' → Q none M) : cw_C (d + 3) k_Pa_take [vr x_paper_, vr x_will_, vr x_forest_, vr T, vi yr, vi lv] m Q := by
  have hnm : m x_will_ 0 = K' 46 := by rw [hE 46 (by decide) (by decide)]; exact hW.1
  have how : ∀ i, 0 ≤ i → i < 7 → m x_will_owner_ i = K' (19 + i) := fun i a b => by rw [hE (19 + i) (by omega) (by omega)]; exact hW.2.1 i a b
  have ht1 : m x_will_terms_ 1 = K' 43 := by rw [hE 43 (by decide) (by decide)]; exact hW.2.2.2.2.2.1.2.1
  have ht2 : m x_will_terms_ 2 = K' 44 := by rw [hE 44 (by decide) (by decide)]; exact hW.2.2.2.2.2.1.2.2.1
  have k46 := hK'.1
  have k18 := hK'.2.2.2.2.1
  have k43 := hK'.2.2.2.2.2.2.1
  have k44 := hK'.2.2.2.2.2.2.2.1
  have hcw0 : c_w (cw_up (cw_up (m x_paper_sums_words_) 6 yr) 7 (m x_will_terms_ 2)) (c_0 (K' 18) (K' 44)) := by rw [ht2, hyr]; exact c_w0 hZw
  have hB : la_ok (cw_put (cw_put (cw_put m x_paper_ 7 T) x_paper_ 2 (c_B (l_fo K' (K' 50)) (cw_up (cw_up (m x_paper_sums_words_) 6 yr) 7 (m x_will_terms_ 2)) (m x_will_owner_) (m x_will_ 0) (m x_will_terms_ 1) 6)) x_paper_ 3 (cw_iand lv (cw_ixor (c_B (l_fo K' (K' 50)) (cw_up (cw_up (m x_paper_sums_words_) 6 yr) 7 (m x_will_terms_ 2)) (m x_will_owner_) (m x_will_ 0) (m x_will_terms_ 1) 6) (-1)))) := la_put (la_put (la_put hm (by decide) (Or.inl rfl)) (by decide) (Or.inl rfl)) (by decide) (Or.inl rfl)
  refine Pa_take3 (Ks := l_fo K' (K' 50)) hm hT (c_0b hcw0 (by omega) (by omega)) (by omega) (by omega) (fun ws sk hcw => ?_)
  have xc : ∀ c, c ∉ P_L → u3_m (cw_put (cw_put (cw_put m x_paper_ 7 T) x_paper_ 2 (c_B (l_fo K' (K' 50)) (cw_up (cw_up (m x_paper_sums_words_) 6 yr) 7 (m x_will_terms_ 2)) (m x_will_owner_) (m x_will_ 0) (m x_will_terms_ 1) 6)) x_paper_ 3 (cw_iand lv (cw_ixor (c_B (l_fo K' (K' 50)) (cw_up (cw_up (m x_paper_sums_words_) 6 yr) 7 (m x_will_terms_ 2)) (m x_will_owner_) (m x_will_ 0) (m x_will_terms_ 1) 6) (-1)))) (m x_paper_would_) ws sk x_forest_ x_will_ c = m c := fun c q => by
    rw [u3_m_ne (U_n q (by decide)) (U_n q (by decide)) (U_n q (by decide)) (U_n q (by decide)), cw_put_ne (U_n q (by decide)), cw_put_ne (U_n q (by decide)), cw_put_ne (U_n q (by decide))]
  refine h _ (u3_m_ok hB) xc ⟨⟨rfl, rfl⟩, ?_, ?_, ?_⟩
  · show T_o _ T _
    exact T_oe hT (P_Lh xc)
  · show c_w ws _
    exact c_wt hcw hcw0
  · show cw_iand lv (cw_ixor (c_B (l_fo K' (K' 50)) (cw_up (cw_up (m x_paper_sums_words_) 6 yr) 7 (m x_will_terms_ 2)) (m x_will_owner_) (m x_will_ 0) (m x_will_terms_ 1) 6) (-1)) = _
    rw [hnm, ht1]
    exact c_FE hcw0 hK'.1 how hlv.1 hlv.2
theorem Pa_divP {d : Nat} {m : cw_M} {Q : Option cw_V → cw_M → Prop} {K K' : Int → Int} (hm : la_ok m) (hK : K_r K) (hW : W_r m K) (hE : K_o K K') (hK' : K_r K') {t : Int} (hS : S_c m K) (h18 : m x_ 18 = 0) (hP : P_c m K') (ht : 0 ≤ t ∧ t < t_tm (K 46)) (h : ∀ M, la_ok M → (∀ c, c ∉ P_L → M c = m c) → P_c M K' → M x_paper_first_ = m x_paper_first_ → (∀ p, 0 ≤ p → p < 6 → M x_paper_would_ p = G_K K' t p) → Q none M) : cw_C (d + 11) k_Pa_divide [vr x_paper_, vi t] m Q := by
  have k46 := hK.1
  have hn1 : 1 ≤ K 46 := by
    by_cases q : K 46 = 0
    · unfold t_tm at ht; rw [if_pos q] at ht; omega
    · omega
  have htc : t < t_c (K 46 - 1) := by have := ht.2; unfold t_tm at this; rw [if_neg (by omega)] at this; exact this
  have e46 := hE 46 (by decide) (by decide)
  have tb := (r_ll (mk := K) hK.1).2
  have hnm : m x_will_ 0 = K 46 := hW.1
  have how : ∀ i, 0 ≤ i → i < 7 → m x_will_owner_ i = K' (19 + i) := fun i a b => by rw [hE (19 + i) (by omega) (by omega)]; exact hW.2.1 i a b
  have hkd : ∀ j, 0 ≤ j → j < 6 → m x_will_kinds_ j = K' (6 + j) := fun i a b => by rw [hE (6 + i) (by omega) (by omega)]; exact hW.2.2.1 i a b
  have ht1 : m x_will_terms_ 1 = K' 43 := by rw [hE 43 (by decide) (by decide)]; exact hW.2.2.2.2.2.1.2.1
  have k43 := hK'.2.2.2.2.2.2.1
  have k18 := hK'.2.2.2.2.1
  have k44 := hK'.2.2.2.2.2.2.2.1
  have hS2 := hS.2.2 h18
  have hFo := hS.1
  rw [hFo.2.1, hS2.1] at hFo
  have e := u3_m_self (m := m)
  rw [hP.1.1, hP.1.2] at e
  refine la_go_C0 e.symm ?_
  refine Pa_divide3 (Ks := l_fo K' (K' 50)) (w0 := m x_paper_sums_words_) hm hP.2.1 (c_0b hP.2.2.1 (by omega) (by omega)) (fun i a b => by rw [how i a b]; exact hK'.2.2.2.2.2.1 i a b) (by omega) (fun _ _ => rfl) (by omega) (by rw [hnm]; exact htc) (by rw [hnm]; exact F_pl hFo (by omega) ⟨ht.1, htc⟩) (by omega) (fun wd ws sk hc hp => ?_)
  have xc : ∀ c, c ∉ P_L → u3_m (cw_put m x_paper_ 8 (t * 6)) wd ws sk x_forest_ x_will_ c = m c := fun c q => by
    rw [u3_m_ne (U_n q (by decide)) (U_n q (by decide)) (U_n q (by decide)) (U_n q (by decide)), cw_put_ne (U_n q (by decide))]
  refine h _ (u3_m_ok (la_put hm (by decide) (Or.inl rfl))) xc ⟨⟨rfl, rfl⟩, ?_, ?_, ?_⟩ ?_ (fun p a b => ?_)
  · show T_o _ (m x_paper_ 7) _
    exact T_oe hP.2.1 (P_Lh xc)
  · show c_w ws _
    exact c_wt hc hP.2.2.1
  · show m x_paper_ 3 = _
    exact hP.2.2.2
  · rw [u3_m_ne (by decide) (by decide) (by decide) (by decide), cw_put_ne (by decide)]
  · show wd p = _
    rw [hp p a b, hnm, ht1, ← e46]
    rw [c_DE hP.2.2.1 (by omega) how hkd ⟨ht.1, by rw [e46]; exact htc⟩ ⟨a, b⟩, hP.2.2.2]
    rfl
theorem C_compare {d : Nat} {m : cw_M} {Q : Option cw_V → cw_M → Prop} {K : Int → Int} (hm : la_ok m) (hT : ∀ j, 0 ≤ j → j < 7 → m cw_TREES j = t_c j) (hK : K_r K) (hW : W_r m K) (hZ : Z_c m K) {fc rd p : Int} (h : ∀ M, la_ok M → V_s m M → Z_c M K → Q (some (vi (q_cmp K fc rd p))) M) : cw_C (d + 12) k_C_compare [vr x_, vi fc, vi rd, vi p] m Q := by
  have rk := R_Kr hK
  have hlw : m x_will_ 11 = K 49 := hW.2.2.2.2.2.2.2.2.2.2.1
  have k49 := hK.2.2.2.2.2.2.2.2.2.2.2.1
  refine la_go_C hm 54 [] ?_
  refine And.intro (fun (c21 : fc = (-1)) => ?_) (fun (c21 : ¬ (fc = (-1))) => ?_)
  · show cw_C _ _ [vr x_] (m) _
    refine C_sift hm hT hK.1 hW hZ.1 (fun (X : cw_M) (hX : la_ok X) (hS1 : S_s m X) (h18 : X x_ 18 = 0) (hc1 : S_c X K) => ⟨hX, ?_⟩)
    have hZX := Z_cS hZ hS1 hc1
    have hV := S_sV hS1
    have hWX := W_rV hW hV
    show cw_C _ _ [vi rd, vi ((R_K K).length : Int)] (X) _
    refine C_isBelow (fun (a22 : 0 ≤ rd) (a23 : rd < ((R_K K).length : Int)) => ⟨hX, ?_⟩) (fun (a24 : ¬ (0 ≤ rd ∧ rd < ((R_K K).length : Int))) => ⟨hX, ?_⟩)
    · refine br_f (show ¬ ((1 : Int) = 0) by decide) ?_
      show cw_C _ _ [vi p, vi 6] (X) _
      refine C_isBelow (fun (a25 : 0 ≤ p) (a26 : p < 6) => ⟨hX, ?_⟩) (fun (a27 : ¬ (0 ≤ p ∧ p < 6)) => ⟨hX, ?_⟩)
      · refine br_t (show (1 : Int) ≠ 0 by decide) ?_
        show cw_C _ _ [vr x_will_, vi fc] (X) _
        refine Wi_lawOf hX hWX hK.2.2.2.2.2.2.2.2.2.2.2.1 (by omega) (fun (T : Int) hTf _ => ⟨hX, ?_⟩)
        have eK : K_o K (cw_up K 50 fc) := fun i a _ => cw_up_ne a
        have hK2 : K_r (cw_up K 50 fc) := K_r50 hK (by omega)
        rw [← K_ol eK (by omega)] at hTf
        have hx0 : X x_will_terms_ 0 = cw_up K 50 fc 18 := hWX.2.2.2.2.2.1.1
        refine And.intro (show 0 ≤ 0 ∧ 0 < 4 by omega) ?_
        show cw_C _ _ [vr x_paper_, vr x_will_, vr x_forest_, vr T, vi (X x_will_terms_ 0), vi (X x_will_ 4)] (X) _
        refine Pa_takeK (K' := (cw_up K 50 fc)) hX hK hWX eK hK2 (fun i q => (hZX.2.1 i q).2) (by rw [cw_up_eq]; exact hTf) hx0 ⟨hWX.2.2.2.2.1.1, fun p a b => by rw [cw_up_ne (by omega)]; exact hWX.2.2.2.2.1.2 p a b⟩ (fun (Y : cw_M) (hY : la_ok Y) hPY hcY => ⟨hY, ?_⟩)
        have hlY : Y x_forest_list_ = X x_forest_list_ := hPY _ (by decide)
        have hlX := (hc1.2.2 h18).2.2 rd (by omega) (by omega)
        have tt := rk.2 rd (by omega) (by omega)
        have hWY := W_rV hWX (P_LV hPY)
        have hSY : S_c Y K := S_ce hc1 (hPY _ (by decide)) (hPY _ (by decide)) (hPY _ (by decide)) (hPY _ (by decide)) (by rw [hPY _ (by decide)])
        refine And.intro (show 0 ≤ rd ∧ rd < 132 by omega) ?_
        show cw_C _ _ [vr x_paper_, vi (Y x_forest_list_ rd)] (Y) _
        refine Pa_divP (K' := (cw_up K 50 fc)) hY hK hWY eK hK2 hSY (by rw [hPY _ (by decide)]; exact h18) hcY (by rw [hlY, hlX]; exact tt.1) (fun (Z : cw_M) (hZ2 : la_ok Z) hPZ hcZ _ hwZ => ⟨hZ2, ?_⟩)
        rw [hlY, hlX] at hwZ
        refine And.intro (show 0 ≤ p ∧ p < 6 by omega) ?_
        show Q (some (vi (Z x_paper_would_ p))) (Z)
        have e : q_cmp K fc rd p = Z x_paper_would_ p := by
          unfold q_cmp
          rw [if_pos (by omega)]
          unfold q_gets G_R
          rw [K_oR eK hK, if_pos (by omega), hwZ p (by omega) (by omega)]
        rw [← e]
        have hPX : ∀ c, c ∉ P_L → Z c = X c := fun c q => by rw [hPZ c q, hPY c q]
        refine h Z hZ2 (V_st hV (P_LV hPX)) (Z_ce hZX hPX (c_00 hcZ.2.2.1))
      · refine br_f (show ¬ ((0 : Int) ≠ 0) by decide) ?_
        show Q (some (vi (-1))) (X)
        have e : q_cmp K fc rd p = -1 := by
          unfold q_cmp
          rw [if_pos (by omega)]
          unfold q_gets
          rw [K_oR (K := K) (fun i a _ => cw_up_ne a) hK, if_neg (by omega)]
        rw [← e]
        exact h X hX hV hZX
    · refine br_t (show (0 : Int) = 0 by decide) ?_
      show Q (some (vi (-1))) (X)
      have e : q_cmp K fc rd p = -1 := by
        unfold q_cmp
        rw [if_pos (by omega)]
        unfold q_gets
        rw [K_oR (K := K) (fun i a _ => cw_up_ne a) hK, if_neg (by omega)]
      rw [← e]
      exact h X hX hV hZX
  · show cw_C _ _ [vi fc, vi (m x_will_ 11)] (m) _
    refine C_isBelow (fun (a28 : 0 ≤ fc) (a29 : fc < m x_will_ 11) => ⟨hm, ?_⟩) (fun (a30 : ¬ (0 ≤ fc ∧ fc < m x_will_ 11)) => ⟨hm, ?_⟩)
    · refine br_t (show (1 : Int) ≠ 0 by decide) ?_
      show cw_C _ _ [vr x_] (m) _
      refine C_sift hm hT hK.1 hW hZ.1 (fun (X : cw_M) (hX : la_ok X) (hS1 : S_s m X) (h18 : X x_ 18 = 0) (hc1 : S_c X K) => ⟨hX, ?_⟩)
      have hZX := Z_cS hZ hS1 hc1
      have hV := S_sV hS1
      have hWX := W_rV hW hV
      show cw_C _ _ [vi rd, vi ((R_K K).length : Int)] (X) _
      refine C_isBelow (fun (a31 : 0 ≤ rd) (a32 : rd < ((R_K K).length : Int)) => ⟨hX, ?_⟩) (fun (a33 : ¬ (0 ≤ rd ∧ rd < ((R_K K).length : Int))) => ⟨hX, ?_⟩)
      · refine br_f (show ¬ ((1 : Int) = 0) by decide) ?_
        show cw_C _ _ [vi p, vi 6] (X) _
        refine C_isBelow (fun (a34 : 0 ≤ p) (a35 : p < 6) => ⟨hX, ?_⟩) (fun (a36 : ¬ (0 ≤ p ∧ p < 6)) => ⟨hX, ?_⟩)
        · refine br_t (show (1 : Int) ≠ 0 by decide) ?_
          show cw_C _ _ [vr x_will_, vi fc] (X) _
          refine Wi_lawOf hX hWX hK.2.2.2.2.2.2.2.2.2.2.2.1 (by omega) (fun (T : Int) hTf _ => ⟨hX, ?_⟩)
          have eK : K_o K (cw_up K 50 fc) := fun i a _ => cw_up_ne a
          have hK2 : K_r (cw_up K 50 fc) := K_r50 hK (by omega)
          rw [← K_ol eK (by omega)] at hTf
          have hx0 : X x_will_terms_ 0 = cw_up K 50 fc 18 := hWX.2.2.2.2.2.1.1
          refine And.intro (show 0 ≤ 0 ∧ 0 < 4 by omega) ?_
          show cw_C _ _ [vr x_paper_, vr x_will_, vr x_forest_, vr T, vi (X x_will_terms_ 0), vi (X x_will_ 4)] (X) _
          refine Pa_takeK (K' := (cw_up K 50 fc)) hX hK hWX eK hK2 (fun i q => (hZX.2.1 i q).2) (by rw [cw_up_eq]; exact hTf) hx0 ⟨hWX.2.2.2.2.1.1, fun p a b => by rw [cw_up_ne (by omega)]; exact hWX.2.2.2.2.1.2 p a b⟩ (fun (Y : cw_M) (hY : la_ok Y) hPY hcY => ⟨hY, ?_⟩)
          have hlY : Y x_forest_list_ = X x_forest_list_ := hPY _ (by decide)
          have hlX := (hc1.2.2 h18).2.2 rd (by omega) (by omega)
          have tt := rk.2 rd (by omega) (by omega)
          have hWY := W_rV hWX (P_LV hPY)
          have hSY : S_c Y K := S_ce hc1 (hPY _ (by decide)) (hPY _ (by decide)) (hPY _ (by decide)) (hPY _ (by decide)) (by rw [hPY _ (by decide)])
          refine And.intro (show 0 ≤ rd ∧ rd < 132 by omega) ?_
          show cw_C _ _ [vr x_paper_, vi (Y x_forest_list_ rd)] (Y) _
          refine Pa_divP (K' := (cw_up K 50 fc)) hY hK hWY eK hK2 hSY (by rw [hPY _ (by decide)]; exact h18) hcY (by rw [hlY, hlX]; exact tt.1) (fun (Z : cw_M) (hZ2 : la_ok Z) hPZ hcZ _ hwZ => ⟨hZ2, ?_⟩)
          rw [hlY, hlX] at hwZ
          refine And.intro (show 0 ≤ p ∧ p < 6 by omega) ?_
          show Q (some (vi (Z x_paper_would_ p))) (Z)
          have e : q_cmp K fc rd p = Z x_paper_would_ p := by
            unfold q_cmp
            rw [if_pos (by omega)]
            unfold q_gets G_R
            rw [K_oR eK hK, if_pos (by omega), hwZ p (by omega) (by omega)]
          rw [← e]
          have hPX : ∀ c, c ∉ P_L → Z c = X c := fun c q => by rw [hPZ c q, hPY c q]
          refine h Z hZ2 (V_st hV (P_LV hPX)) (Z_ce hZX hPX (c_00 hcZ.2.2.1))
        · refine br_f (show ¬ ((0 : Int) ≠ 0) by decide) ?_
          show Q (some (vi (-1))) (X)
          have e : q_cmp K fc rd p = -1 := by
            unfold q_cmp
            rw [if_pos (by omega)]
            unfold q_gets
            rw [K_oR (K := K) (fun i a _ => cw_up_ne a) hK, if_neg (by omega)]
          rw [← e]
          exact h X hX hV hZX
      · refine br_t (show (0 : Int) = 0 by decide) ?_
        show Q (some (vi (-1))) (X)
        have e : q_cmp K fc rd p = -1 := by
          unfold q_cmp
          rw [if_pos (by omega)]
          unfold q_gets
          rw [K_oR (K := K) (fun i a _ => cw_up_ne a) hK, if_neg (by omega)]
        rw [← e]
        exact h X hX hV hZX
    · refine br_f (show ¬ ((0 : Int) ≠ 0) by decide) ?_
      show Q (some (vi (-1))) (m)
      have e : q_cmp K fc rd p = -1 := by unfold q_cmp; rw [if_neg (by omega)]
      rw [← e]
      exact h m hm V_sr hZ
