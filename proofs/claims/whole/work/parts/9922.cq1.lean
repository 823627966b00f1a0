/-! Questions, by the class (wip/whole/tools/m122.py). -/
/-- all that the class's questions need when readings are known -/
def Q_c (K : Int → Int) (M : cw_M) : Prop := (la_ok M ∧ K_r K) ∧ (W_r M K ∧ Z_f M K) ∧ ∀ i, 0 ≤ i → i < ((R_K K).length : Int) → M x_ledger_isKnown_ (t_g (R_K K) i) ≠ 0
theorem Z_fl {m : cw_M} {K : Int → Int} (h : Z_f m K) : ∀ i, 0 ≤ i → i < ((R_K K).length : Int) → m x_forest_list_ i = t_g (R_K K) i := (h.1.1.2.2 h.2.1).2.2
theorem Z_fg {m : cw_M} {K : Int → Int} {t p : Int} (h : Z_f m K) (ht : 0 ≤ t ∧ t < t_tm (K 46)) (hk : m x_ledger_isKnown_ t ≠ 0) (hp : 0 ≤ p ∧ p < 6) : m x_ledger_got_ (t * 6 + p) = G_K K t p := (h.1.2.2.2 h.2.2).2.2.2.2.2 t ht.1 ht.2 hk p hp.1 hp.2
theorem C_amount {d : Nat} {m : cw_M} {Q : Option cw_V → cw_M → Prop} {K : Int → Int} {r p : Int} (hm : la_ok m) (hK : K_r K) (hZ : Z_f m K) (hr : 0 ≤ r ∧ r < ((R_K K).length : Int)) (hp : 0 ≤ p ∧ p < 6) (hk : m x_ledger_isKnown_ (t_g (R_K K) r) ≠ 0) (h : Q (some (vi (G_R K r p))) m) : cw_C d k_C_amount [vr x_, vi r, vi p] m Q := by
  have hl := Z_fl hZ r hr.1 hr.2
  have rk := R_Kr hK
  have tt := rk.2 r hr.1 hr.2
  refine la_go_C hm 17 [] ?_
  refine And.intro (show 0 ≤ r ∧ r < 132 by omega) ?_
  refine And.intro (show -2147483648 ≤ (m x_forest_list_ r) * 6 ∧ (m x_forest_list_ r) * 6 < 2147483648 by omega) ?_
  refine And.intro (show -2147483648 ≤ ((m x_forest_list_ r) * 6) + p ∧ ((m x_forest_list_ r) * 6) + p < 2147483648 by omega) ?_
  refine And.intro (show 0 ≤ ((m x_forest_list_ r) * 6) + p ∧ ((m x_forest_list_ r) * 6) + p < 792 by omega) ?_
  show Q (some (vi (m x_ledger_got_ (((m x_forest_list_ r) * 6) + p)))) (m)
  rw [hl, Z_fg hZ tt.1 hk hp]
  exact h
theorem C_learnReadings {d : Nat} {m : cw_M} {Q : Option cw_V → cw_M → Prop} {K : Int → Int} (hm : la_ok m) (hT : ∀ j, 0 ≤ j → j < 7 → m cw_TREES j = t_c j) (hK : K_r K) (hW : W_r m K) (hZ : Z_c m K) (h : ∀ M, V_s m M → Q_c K M → Q (some (vi ((R_K K).length : Int))) M) : cw_C (d + 13) k_C_learnReadings [vr x_] m Q := by
  have rk := R_Kr hK
  have lp : ∀ (r : Nat) (k : Int) (X : cw_M), ((R_K K).length : Int) < k + r → (0 ≤ k ∧ k ≤ ((R_K K).length : Int)) → (la_ok X) → (V_s m X) → (Z_f X K) → (∀ i, 0 ≤ i → i < k → X x_ledger_isKnown_ (t_g (R_K K) i) ≠ 0) → cw_R (d + 13) k_C_learnReadings 7 [vr x_, vi ((R_K K).length : Int), vi k] [] X Q := by
    intro r
    induction r with
    | zero =>
      intro k X hr hk hX hV hZX hkn
      omega
    | succ r ih =>
      intro k X hr hk hX hV hZX hkn
      have hWX := W_rV hW hV
      have rk := R_Kr hK
      have hl := Z_fl hZX k hk.1
      have tt := rk.2 k hk.1
      refine la_go_R hX 16 [7] ?_
      refine And.intro (fun (c21 : ((R_K K).length : Int) ≤ k) => ?_) (fun (c21 : ¬ (((R_K K).length : Int) ≤ k)) => ?_)
      · show Q (some (vi ((R_K K).length : Int))) (X)
        exact h X hV ⟨⟨hX, hK⟩, ⟨hWX, hZX⟩, fun i a b => hkn i a (by omega)⟩
      · refine And.intro (show 0 ≤ k ∧ k < 132 by omega) ?_
        show cw_C _ _ [vr x_ledger_, vi (X x_forest_list_ k)] (X) _
        refine Le_know hX hK hWX hZX (by rw [hl (by omega)]; exact (tt (by omega)).1) (fun (Y : cw_M) (hY : la_ok Y) (hVY : V_s X Y) (hZY : Z_f Y K) (hNY : N_s X Y) hkY => ⟨hY, ?_⟩)
        rw [hl (by omega)] at hkY
        refine And.intro (show -2147483648 ≤ k + 1 ∧ k + 1 < 2147483648 by omega) ?_
        show cw_R _ _ 7 [vr x_, vi ((R_K K).length : Int), vi (k + 1)] [] (Y) _
        exact ih (k + 1) Y (by omega) (by omega) hY (V_st hV hVY) hZY (fun i a b => by
          by_cases q : i = k
          · rw [q]; exact hkY
          · exact hNY _ (hkn i a (by omega)))
  refine la_go_C hm 8 [7] ?_
  show cw_C _ _ [vr x_] (m) _
  refine C_freshen hm hT hK hW hZ (fun (X : cw_M) (hX : la_ok X) (hV : V_s m X) (hZc : Z_c X K) (h18 : X x_ 18 = 0) (h19 : X x_ 19 = 0) => ⟨hX, ?_⟩)
  have hWX := W_rV hW hV
  have hZX : Z_f X K := ⟨hZc, h18, h19⟩
  show cw_R _ _ 7 [vr x_, vi ((R_K K).length : Int), vi 0] [] (X) _
  exact lp ((R_K K).length + 1) 0 X (by omega) (by omega) hX hV hZX (fun i a b => by omega)
theorem Le_areAlike {d : Nat} {m : cw_M} {Q : Option cw_V → cw_M → Prop} {t u : Int} (hm : la_ok m) (ht : 0 ≤ t ∧ t < 132) (hu : 0 ≤ u ∧ u < 132) (h1 : (∀ p, 0 ≤ p → p < 6 → m x_ledger_got_ (t * 6 + p) = m x_ledger_got_ (u * 6 + p)) → Q (some (vi 1)) m) (h0 : ¬ (∀ p, 0 ≤ p → p < 6 → m x_ledger_got_ (t * 6 + p) = m x_ledger_got_ (u * 6 + p)) → Q (some (vi 0)) m) : cw_C d k_Le_areAlike [vr x_ledger_, vi t, vi u] m Q := by
  have lp : ∀ (r : Nat) (k : Int), 6 < k + r → (0 ≤ k ∧ k ≤ 6) → (∀ p, 0 ≤ p → p < k → m x_ledger_got_ (t * 6 + p) = m x_ledger_got_ (u * 6 + p)) → cw_R (d) k_Le_areAlike 2 [vr x_ledger_, vi t, vi u, vi k] [] m Q := by
    intro r
    induction r with
    | zero =>
      intro k hr hk ha
      omega
    | succ r ih =>
      intro k hr hk ha
      refine la_go_R hm 25 [2] ?_
      refine And.intro (fun (c21 : 6 ≤ k) => ?_) (fun (c21 : ¬ (6 ≤ k)) => ?_)
      · refine And.intro (Or.inr rfl) ?_
        show Q (some (vi 1)) (m)
        exact h1 (fun p a b => ha p a (by omega))
      · refine And.intro (show -2147483648 ≤ t * 6 ∧ t * 6 < 2147483648 by omega) ?_
        refine And.intro (show -2147483648 ≤ (t * 6) + k ∧ (t * 6) + k < 2147483648 by omega) ?_
        refine And.intro (show 0 ≤ (t * 6) + k ∧ (t * 6) + k < 792 by omega) ?_
        refine And.intro (show -2147483648 ≤ u * 6 ∧ u * 6 < 2147483648 by omega) ?_
        refine And.intro (show -2147483648 ≤ (u * 6) + k ∧ (u * 6) + k < 2147483648 by omega) ?_
        refine And.intro (show 0 ≤ (u * 6) + k ∧ (u * 6) + k < 792 by omega) ?_
        refine And.intro (fun (c22 : m x_ledger_got_ ((t * 6) + k) = m x_ledger_got_ ((u * 6) + k)) => ?_) (fun (c22 : ¬ (m x_ledger_got_ ((t * 6) + k) = m x_ledger_got_ ((u * 6) + k))) => ?_)
        · refine And.intro (show -2147483648 ≤ k + 1 ∧ k + 1 < 2147483648 by omega) ?_
          show cw_R _ _ 2 [vr x_ledger_, vi t, vi u, vi (k + 1)] [] (m) _
          exact ih (k + 1) (by omega) (by omega) (fun p a b => by
            by_cases q : p = k
            · rw [q]; omega
            · exact ha p a (by omega))
        · refine And.intro (Or.inl rfl) ?_
          show Q (some (vi 0)) (m)
          exact h0 (fun z => by have := z k hk.1 (by omega); omega)
  refine la_go_C hm 5 [2] ?_
  show cw_R _ _ 2 [vr x_ledger_, vi t, vi u, vi 0] [] (m) _
  exact lp 7 0 (by omega) (by omega) (fun p a b => by omega)
theorem Wi_hasJoin {d : Nat} {m : cw_M} {Q : Option cw_V → cw_M → Prop} {j : Int} (hm : la_ok m) (hn : 0 ≤ m x_will_ 0 ∧ m x_will_ 0 ≤ 7) (h1 : 0 ≤ j ∧ j < m x_will_ 0 - 1 → Q (some (vi 1)) m) (h0 : ¬ (0 ≤ j ∧ j < m x_will_ 0 - 1) → Q (some (vi 0)) m) : cw_C d k_Wi_hasJoin [vr x_will_, vi j] m Q := by
  refine la_go_C hm 14 [] ?_
  refine And.intro (fun (c21 : j < 0) => ?_) (fun (c21 : ¬ (j < 0)) => ?_)
  · refine And.intro (Or.inl rfl) ?_
    show Q (some (vi 0)) (m)
    exact h0 (by omega)
  · refine And.intro (show -2147483648 ≤ (m x_will_ 0) - 1 ∧ (m x_will_ 0) - 1 < 2147483648 by omega) ?_
    refine And.intro (fun (c22 : (m x_will_ 0) - 1 ≤ j) => ?_) (fun (c22 : ¬ ((m x_will_ 0) - 1 ≤ j)) => ?_)
    · refine And.intro (Or.inl rfl) ?_
      show Q (some (vi 0)) (m)
      exact h0 (by omega)
    · refine And.intro (Or.inr rfl) ?_
      show Q (some (vi 1)) (m)
      exact h1 (by omega)
theorem C_readings {d : Nat} {m : cw_M} {Q : Option cw_V → cw_M → Prop} {K : Int → Int} (hm : la_ok m) (hT : ∀ j, 0 ≤ j → j < 7 → m cw_TREES j = t_c j) (hK : K_r K) (hW : W_r m K) (hZ : Z_c m K) (h : ∀ M, la_ok M → V_s m M → Z_c M K → Q (some (vi (((R_K K).length : Int)))) M) : cw_C (d + 9) k_C_readings [vr x_] m Q := by
  refine la_go_C hm 6 [] ?_
  show cw_C _ _ [vr x_] (m) _
  refine C_sift hm hT hK.1 hW hZ.1 (fun (X : cw_M) (hX : la_ok X) (hS1 : S_s m X) (h18 : X x_ 18 = 0) (hc1 : S_c X K) => ⟨hX, ?_⟩)
  have hZX := Z_cS hZ hS1 hc1
  have hV := S_sV hS1
  have hWX := W_rV hW hV
  show Q (some (vi ((R_K K).length : Int))) (X)
  exact h X hX hV hZX
theorem C_depth {d : Nat} {m : cw_M} {Q : Option cw_V → cw_M → Prop} {K : Int → Int} (hm : la_ok m) (hT : ∀ j, 0 ≤ j → j < 7 → m cw_TREES j = t_c j) (hK : K_r K) (hW : W_r m K) (hZ : Z_c m K) {rd j : Int} (h : ∀ M, la_ok M → V_s m M → Z_c M K → Q (some (vi (q_dep K rd j))) M) : cw_C (d + 9) k_C_depth [vr x_, vi rd, vi j] m Q := by
  have rk := R_Kr hK
  have k46 := hK.1
  have hF : F_tr (K 46 - 1) = t_tm (K 46) := by
    unfold F_tr t_tm
    by_cases q : K 46 = 0
    · rw [if_pos (by omega), if_pos q]
    · rw [if_neg (by omega), if_neg q]
  refine la_go_C hm 27 [] ?_
  show cw_C _ _ [vr x_] (m) _
  refine C_sift hm hT hK.1 hW hZ.1 (fun (X : cw_M) (hX : la_ok X) (hS1 : S_s m X) (h18 : X x_ 18 = 0) (hc1 : S_c X K) => ⟨hX, ?_⟩)
  have hZX := Z_cS hZ hS1 hc1
  have hV := S_sV hS1
  have hWX := W_rV hW hV
  show cw_C _ _ [vi rd, vi ((R_K K).length : Int)] (X) _
  refine C_isBelow (fun (a21 : 0 ≤ rd) (a22 : rd < ((R_K K).length : Int)) => ⟨hX, ?_⟩) (fun (a23 : ¬ (0 ≤ rd ∧ rd < ((R_K K).length : Int))) => ⟨hX, ?_⟩)
  · refine br_f (show ¬ ((1 : Int) = 0) by decide) ?_
    show cw_C _ _ [vr x_will_, vi j] (X) _
    refine Wi_hasJoin hX (by rw [hWX.1]; exact hK.1) (fun (aj : 0 ≤ j ∧ j < X x_will_ 0 - 1) => ⟨hX, ?_⟩) (fun (aj : ¬ (0 ≤ j ∧ j < X x_will_ 0 - 1)) => ⟨hX, ?_⟩)
    · refine br_t (show (1 : Int) ≠ 0 by decide) ?_
      refine And.intro (show 0 ≤ rd ∧ rd < 132 by omega) ?_
      have z := hWX.1
      have hl := (hc1.2.2 h18).2.2 rd (by omega) (by omega)
      have tt := rk.2 rd (by omega) (by omega)
      refine And.intro (show -2147483648 ≤ (X x_forest_list_ rd) * 6 ∧ (X x_forest_list_ rd) * 6 < 2147483648 by omega) ?_
      refine And.intro (show -2147483648 ≤ ((X x_forest_list_ rd) * 6) + j ∧ ((X x_forest_list_ rd) * 6) + j < 2147483648 by omega) ?_
      refine And.intro (show 0 ≤ ((X x_forest_list_ rd) * 6) + j ∧ ((X x_forest_list_ rd) * 6) + j < 792 by omega) ?_
      show Q (some (vi (X x_forest_deep_ (((X x_forest_list_ rd) * 6) + j)))) (X)
      have z := hWX.1
      have e : q_dep K rd j = X x_forest_deep_ (X x_forest_list_ rd * 6 + j) := by
        unfold q_dep
        rw [if_pos (by omega), hl, show t_g (R_K K) rd * 6 + j = 6 * t_g (R_K K) rd + j by omega]
        have z2 := hc1.1.2.2.1 (t_g (R_K K) rd) j tt.1.1 (by rw [hc1.1.2.1, (hc1.2.2 h18).1, hF]; exact tt.1.2) aj.1 (by rw [(hc1.2.2 h18).1]; omega)
        rw [(hc1.2.2 h18).1] at z2
        exact z2.symm
      rw [← e]
      exact h X hX hV hZX
    · refine br_f (show ¬ ((0 : Int) ≠ 0) by decide) ?_
      show Q (some (vi (-1))) (X)
      have z := hWX.1
      have e : q_dep K rd j = -1 := by unfold q_dep; rw [if_neg (by omega)]
      rw [← e]
      exact h X hX hV hZX
  · refine br_t (show (0 : Int) = 0 by decide) ?_
    show Q (some (vi (-1))) (X)
    have z := hWX.1
    have e : q_dep K rd j = -1 := by unfold q_dep; rw [if_neg (by omega)]
    rw [← e]
    exact h X hX hV hZX
