/-! The class's caches: the forest and the ledger (wip/whole/tools/m119.py). -/
/-- a will of the class, and what is kept -/
def W_q (nm lv jd td lw fc : Int) (ow kd mk tr hd of mu la : Int → Int) (m : cw_M) (K : Int → Int) : Prop := nm = K 46 ∧ (∀ i, 0 ≤ i → i < 7 → ow i = K (19 + i)) ∧ (∀ j, 0 ≤ j → j < 6 → kd j = K (6 + j)) ∧ (∀ j, 0 ≤ j → j < 6 → mk j = K j) ∧ ((0 ≤ lv ∧ lv < 64) ∧ ∀ p, 0 ≤ p → p < 6 → cw_iand (cw_ishr lv p) 1 = K (12 + p)) ∧ (tr 0 = K 18 ∧ tr 1 = K 43 ∧ tr 2 = K 44 ∧ tr 3 = K 45) ∧ jd = K 47 ∧ (∀ i, 0 ≤ i → i < 5 → hd i = K (26 + i)) ∧ td = K 48 ∧ (∀ i, 0 ≤ i → i < 6 → of i = K (31 + 2 * i) ∧ mu i = K (32 + 2 * i)) ∧ lw = K 49 ∧ fc = K 50 ∧ (∀ i, 0 ≤ i → i < K 49 → T_l m (la i) (l_ks K i))
def W_r (m : cw_M) (K : Int → Int) : Prop := W_q (m x_will_ 0) (m x_will_ 4) (m x_will_ 6) (m x_will_ 8) (m x_will_ 11) (m x_will_ 13) (m x_will_owner_) (m x_will_kinds_) (m x_will_marks_) (m x_will_terms_) (m x_will_held_) (m x_will_toldOf_) (m x_will_toldMuch_) (m x_will_lawAt_) m K
/-- cells of the class that are caches, or paper -/
def X_C : List Int := [x_forest_, x_forest_deep_, x_forest_above_, x_forest_list_, x_ledger_got_, x_ledger_isKnown_, x_ledger_paper_, x_ledger_paper_would_, x_ledger_paper_sums_words_, x_ledger_paper_sums_stack_, x_paper_, x_paper_would_, x_paper_first_, x_paper_sums_words_, x_paper_sums_stack_, x_fitting_, x_chances_]
def X_P : List Int := [x_settler_, x_settler_trial_, x_settler_wrong_] ++ X_C
/-- the same but for caches -/
def V_s (m M : cw_M) : Prop := (∀ c, c ∉ X_C → c ≠ x_ → M c = m c) ∧ ∀ j, j ≠ 18 → j ≠ 19 → M x_ j = m x_ j
theorem V_sr {m : cw_M} : V_s m m := ⟨fun _ _ _ => rfl, fun _ _ _ => rfl⟩
theorem V_st {m m1 m2 : cw_M} (h : V_s m m1) (h2 : V_s m1 m2) : V_s m m2 := ⟨fun c a b => by rw [h2.1 c a b, h.1 c a b], fun j a b => by rw [h2.2 j a b, h.2 j a b]⟩
/-- the same but for caches and what settles -/
def V_p (m M : cw_M) : Prop := (∀ c, c ∉ X_P → c ≠ x_ → M c = m c) ∧ ∀ j, j ≠ 18 → j ≠ 19 → M x_ j = m x_ j
theorem V_sp {m M : cw_M} (h : V_s m M) : V_p m M := ⟨fun c a b => h.1 c (fun q => a (List.mem_append_right _ q)) b, h.2⟩
theorem V_pr {m : cw_M} : V_p m m := ⟨fun _ _ _ => rfl, fun _ _ _ => rfl⟩
theorem V_pt {m m1 m2 : cw_M} (h : V_p m m1) (h2 : V_p m1 m2) : V_p m m2 := ⟨fun c a b => by rw [h2.1 c a b, h.1 c a b], fun j a b => by rw [h2.2 j a b, h.2 j a b]⟩
theorem V_h {m M : cw_M} (h : V_p m M) : ∀ c, h_c c → M c = m c := fun c q => h.1 c (fun z => by have := (show ∀ x ∈ X_P, ¬ 130023424 ≤ x by decide) c z; exact this q) (fun e => by rw [e] at q; exact absurd q (by unfold h_c; decide))
theorem W_qe {nm lv jd td lw fc : Int} {ow kd mk tr hd of mu la : Int → Int} {m M : cw_M} {K : Int → Int} (h : W_q nm lv jd td lw fc ow kd mk tr hd of mu la m K) (hM : ∀ c, h_c c → M c = m c) : W_q nm lv jd td lw fc ow kd mk tr hd of mu la M K := by
  obtain ⟨h1, h2, h3, h4, h5, h6, h7, h8, h9, ha, hb, hc, hd⟩ := h
  exact ⟨h1, h2, h3, h4, h5, h6, h7, h8, h9, ha, hb, hc, fun i a b => T_le (hd i a b) hM⟩
theorem W_rP {m M : cw_M} {K : Int → Int} (h : W_r m K) (hV : V_p m M) : W_r M K := by
  have n : ∀ c, c ∉ X_P → c ≠ x_ → M c = m c := hV.1
  unfold W_r at h ⊢
  rw [n x_will_ (by decide) (by decide), n x_will_owner_ (by decide) (by decide), n x_will_kinds_ (by decide) (by decide), n x_will_marks_ (by decide) (by decide), n x_will_terms_ (by decide) (by decide), n x_will_held_ (by decide) (by decide), n x_will_toldOf_ (by decide) (by decide), n x_will_toldMuch_ (by decide) (by decide), n x_will_lawAt_ (by decide) (by decide)]
  exact W_qe h (V_h hV)
theorem W_rV {m M : cw_M} {K : Int → Int} (h : W_r m K) (hV : V_s m M) : W_r M K := W_rP h (V_sp hV)
/-- the forest stands as the class says it does -/
def S_c (m : cw_M) (K : Int → Int) : Prop := F_ok (m x_forest_ 5) (m x_forest_ 0) (m x_forest_deep_) (m x_forest_above_) ∧ (m x_ 18 = 0 ∨ m x_ 18 = 1) ∧ (m x_ 18 = 0 → m x_forest_ 5 = K 46 - 1 ∧ m x_forest_ 4 = ((R_K K).length : Int) ∧ ∀ i, 0 ≤ i → i < ((R_K K).length : Int) → m x_forest_list_ i = t_g (R_K K) i)
theorem s_lr {mk K : Int → Int} (hK : 0 ≤ K 46 ∧ K 46 ≤ 7) (h : ∀ j, 0 ≤ j → j < 6 → mk j = K j) : s_l mk (K 46 - 1) 192 = R_K K := by
  have e : F_tr (K 46 - 1) = t_tm (K 46) := by
    unfold F_tr t_tm
    by_cases q : K 46 = 0
    · rw [if_pos (by omega), if_pos q]
    · rw [if_neg (by omega), if_neg q]
  have b := r_ll (mk := mk) hK
  unfold s_l R_K
  rw [← r_lc (mk := mk) hK h]
  unfold r_l
  rw [e, show min 192 (t_tm (K 46)) = t_tm (K 46) by omega]
/-- the same but for the forest -/
def S_s (m M : cw_M) : Prop := (∀ c, c ≠ x_forest_ → c ≠ x_forest_deep_ → c ≠ x_forest_above_ → c ≠ x_forest_list_ → c ≠ x_ → M c = m c) ∧ ∀ j, j ≠ 18 → M x_ j = m x_ j
theorem S_sr {m : cw_M} : S_s m m := ⟨fun _ _ _ _ _ _ => rfl, fun _ _ => rfl⟩
theorem S_sV {m M : cw_M} (h : S_s m M) : V_s m M := ⟨fun c a b => h.1 c (U_n a (by decide)) (U_n a (by decide)) (U_n a (by decide)) (U_n a (by decide)) b, fun j a _ => h.2 j a⟩
theorem S_sh {m M : cw_M} (h : S_s m M) : ∀ c, h_c c → M c = m c := V_h (V_sp (S_sV h))
theorem f_m_s {m : cw_M} : f_m m (m x_forest_deep_) (m x_forest_above_) (m x_forest_list_) (m x_forest_ 0) (m x_forest_ 4) (m x_forest_ 5) = m := f_m_self
theorem Fo_growS {d : Nat} {m : cw_M} {Q : Option cw_V → cw_M → Prop} (hm : la_ok m) (hT : ∀ j, 0 ≤ j → j < 7 → m cw_TREES j = t_c j) {w : Int} (hw : -1 ≤ w ∧ w ≤ 6) (hF0 : F_ok (m x_forest_ 5) (m x_forest_ 0) (m x_forest_deep_) (m x_forest_above_)) (hQ : ∀ de ab, F_ok w (F_tr w) de ab → Q none (f_m m de ab (m x_forest_list_) (F_tr w) (m x_forest_ 4) w)) : cw_C (d + 7) k_Fo_grow [vr x_forest_, vi w] m Q := by
  have e := f_m_s (m := m)
  refine la_go_C0 e.symm ?_
  exact Fo_grow hm hT hw hF0 hQ
theorem C_sift {d : Nat} {m : cw_M} {Q : Option cw_V → cw_M → Prop} {K : Int → Int} (hm : la_ok m) (hT : ∀ j, 0 ≤ j → j < 7 → m cw_TREES j = t_c j) (hK0 : 0 ≤ K 46 ∧ K 46 ≤ 7) (hW : W_r m K) (hS : S_c m K) (h : ∀ M, la_ok M → S_s m M → M x_ 18 = 0 → S_c M K → Q (some (vi ((R_K K).length : Int))) M) : cw_C (d + 8) k_C_sift [vr x_] m Q := by
  have hnm : m x_will_ 0 = K 46 := hW.1
  have hmk : ∀ j, 0 ≤ j → j < 6 → m x_will_marks_ j = K j := hW.2.2.2.1
  have hKn : -1 ≤ m x_will_ 0 - 1 ∧ m x_will_ 0 - 1 ≤ 6 := by omega
  refine la_go_C hm 27 [] ?_
  refine And.intro (fun (c21 : m x_ 18 = 0) => ?_) (fun (c21 : ¬ (m x_ 18 = 0)) => ?_)
  · show Q (some (vi (m x_forest_ 4))) (m)
    have z := hS.2.2 (by have := hS.2.1; omega)
    rw [z.2.1]
    exact h m hm S_sr (by have := hS.2.1; omega) hS
  · refine And.intro (show -2147483648 ≤ (m x_will_ 0) - 1 ∧ (m x_will_ 0) - 1 < 2147483648 by omega) ?_
    show cw_C _ _ [vr x_forest_, vi ((m x_will_ 0) - 1)] (m) _
    refine Fo_growS hm hT hKn hS.1 (fun (de2 ab2 : Int → Int) (hF2 : F_ok (m x_will_ 0 - 1) (F_tr (m x_will_ 0 - 1)) de2 ab2) => ⟨(f_m_ok hm), ?_⟩)
    show cw_C _ _ [vr x_forest_, vr x_will_marks_] (f_m m de2 ab2 (m x_forest_list_) (F_tr (m x_will_ 0 - 1)) (m x_forest_ 4) (m x_will_ 0 - 1)) _
    refine Fo_sift hm hKn hF2 (fun (li2 : Int → Int) (hli : ∀ i, 0 ≤ i → i < ((s_l (m x_will_marks_) (m x_will_ 0 - 1) 192).length : Int) → li2 i = t_g (s_l (m x_will_marks_) (m x_will_ 0 - 1) 192) i) => ⟨(f_m_ok hm), ?_⟩)
    refine And.intro (Or.inl rfl) ?_
    have hm22 : la_ok (cw_put (f_m m de2 ab2 li2 (F_tr (m x_will_ 0 - 1)) ((s_l (m x_will_marks_) (m x_will_ 0 - 1) 192).length : Int) (m x_will_ 0 - 1)) x_ 18 0) := la_put (f_m_ok hm) (by decide) (Or.inl rfl)
    show Q (some (vi ((s_l (m x_will_marks_) (m x_will_ 0 - 1) 192).length : Int))) (cw_put (f_m m de2 ab2 li2 (F_tr (m x_will_ 0 - 1)) ((s_l (m x_will_marks_) (m x_will_ 0 - 1) 192).length : Int) (m x_will_ 0 - 1)) x_ 18 0)
    have eL := s_lr (mk := m x_will_marks_) hK0 hmk
    rw [← hnm] at eL
    rw [eL]
    rw [eL] at hli
    refine h _ (la_put (f_m_ok hm) (by decide) (Or.inl rfl)) ⟨fun c a b e z q => ?_, fun j a => ?_⟩ rfl ⟨?_, Or.inl rfl, fun _ => ⟨?_, rfl, hli⟩⟩
    · rw [cw_put_ne q, f_m_ne b e z a]
    · rw [cw_put_off a, f_m_ne (by decide) (by decide) (by decide) (by decide)]
    · exact hF2
    · show m x_will_ 0 - 1 = K 46 - 1
      rw [hnm]
