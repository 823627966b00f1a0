/-! The ledger, by the class (wip/whole/tools/m120.py). -/
/-- the ledger tells what is kept -/
def L_c (m : cw_M) (K : Int → Int) : Prop := (m x_ledger_paper_ 5 = x_forest_ ∧ m x_ledger_paper_ 6 = x_will_) ∧ T_o m (m x_ledger_paper_ 7) (l_fo K (K 50)) ∧ c_w (m x_ledger_paper_sums_words_) (c_0 (K 18) (K 44)) ∧ m x_ledger_paper_ 3 = F_K K ∧ m x_ledger_paper_ 2 = m_B (l_br K (K 50) (K 18)) 6 ∧ ∀ t, 0 ≤ t → t < t_tm (K 46) → m x_ledger_isKnown_ t ≠ 0 → ∀ p, 0 ≤ p → p < 6 → m x_ledger_got_ (t * 6 + p) = G_K K t p
/-- words that no law asks for -/
def Z_w (m : cw_M) : Prop := ∀ i, (i < 0 ∨ 7 < i) → m x_ledger_paper_sums_words_ i = 0 ∧ m x_paper_sums_words_ i = 0
/-- all caches of the class -/
def Z_c (m : cw_M) (K : Int → Int) : Prop := S_c m K ∧ Z_w m ∧ (m x_ 19 = 0 ∨ m x_ 19 = 1) ∧ (m x_ 19 = 0 → L_c m K)
theorem c_w0 {w : Int → Int} {yr md : Int} (h : ∀ i, (i < 0 ∨ 7 < i) → w i = 0) : c_w (cw_up (cw_up w 6 yr) 7 md) (c_0 yr md) := fun i q => by
  unfold c_0
  by_cases e7 : i = 7
  · rw [e7, cw_up_eq]; rfl
  rw [cw_up_ne e7]
  by_cases e6 : i = 6
  · rw [e6, cw_up_eq]; rfl
  rw [cw_up_ne e6, if_neg e6, if_neg e7]
  exact h i (by omega)
theorem c_00 {w : Int → Int} {yr md : Int} (h : c_w w (c_0 yr md)) : ∀ i, (i < 0 ∨ 7 < i) → w i = 0 := fun i q => by
  rw [h i (by omega)]; unfold c_0; rw [if_neg (by omega), if_neg (by omega)]
theorem c_0b {w : Int → Int} {yr md : Int} (h : c_w w (c_0 yr md)) (hy : 0 ≤ yr ∧ yr ≤ 1000000) (hm : 0 ≤ md ∧ md ≤ 9) : ∀ i, 6 ≤ i → i < 17 → -1000000 ≤ w i ∧ w i ≤ 1000000 := fun i a b => by
  rw [h i (by omega)]; unfold c_0
  (repeat' split) <;> omega
theorem l_fo1 {K : Int → Int} : l_fo K (-1) = [] := by unfold l_fo; rw [if_pos rfl]
theorem l_fo2 {K : Int → Int} {f : Int} (h : 0 ≤ f) : l_fo K f = l_ks K f := by unfold l_fo; rw [if_neg (by omega)]
theorem F_Kr {K : Int → Int} : F_K K = l_fit (fun p => K (12 + p)) (l_br K (K 50) (K 18)) 6 := rfl
theorem Wi_lawOf {d : Nat} {m : cw_M} {Q : Option cw_V → cw_M → Prop} {K : Int → Int} {fc : Int} (hm : la_ok m) (hW : W_r m K) (h49 : 0 ≤ K 49 ∧ K 49 ≤ 6) (hfc : -1 ≤ fc ∧ fc < K 49) (h : ∀ T, T_o m T (l_fo K fc) → Q (some (vr T)) m) : cw_C (d + 1) k_Wi_lawOf [vr x_will_, vi fc] m Q := by
  have hlw : m x_will_ 11 = K 49 := hW.2.2.2.2.2.2.2.2.2.2.1
  have hla : ∀ i, 0 ≤ i → i < K 49 → T_l m (m x_will_lawAt_ i) (l_ks K i) := hW.2.2.2.2.2.2.2.2.2.2.2.2
  refine la_go_C hm 14 [] ?_
  show cw_C _ _ [vi fc, vi (m x_will_ 11)] (m) _
  refine C_isBelow (fun (a21 : 0 ≤ fc) (a22 : fc < m x_will_ 11) => ⟨hm, ?_⟩) (fun (a23 : ¬ (0 ≤ fc ∧ fc < m x_will_ 11)) => ⟨hm, ?_⟩)
  · refine br_f (show ¬ ((1 : Int) = 0) by decide) ?_
    refine And.intro (show 0 ≤ fc ∧ fc < 6 by omega) ?_
    show Q (some (vr (m x_will_lawAt_ fc))) (m)
    refine h _ (Or.inr ?_)
    rw [l_fo2 (by omega)]
    exact hla fc (by omega) (by omega)
  · refine br_t (show (0 : Int) = 0 by decide) ?_
    show Q (some (vr 0)) (m)
    refine h _ (Or.inl ⟨rfl, ?_⟩)
    rw [show fc = -1 by omega, l_fo1]
