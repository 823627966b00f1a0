/-! Orders, wholly or not at all, by the class (wip/whole/tools/m171.py). -/
/-- cells that hold what was before -/
def B_L : List Int := [x_before_, x_before_owner_, x_before_kinds_, x_before_marks_, x_before_terms_, x_before_held_, x_before_toldOf_, x_before_toldMuch_, x_before_lawAt_, x_logBefore_, x_logBefore_what_, x_logBefore_where_, x_logBefore_was_]
theorem O_Rn {X Y : cw_M} {K L : Int → Int} {un : Int} (hR : O_R X K L un) (hY : la_ok Y) (n : ∀ c, c ∉ B_L → Y c = X c) : O_R Y K L un := by
  obtain ⟨hX, ⟨hK, hW, hZ, hE⟩, hG⟩ := hR
  have bl : ∀ y ∈ B_L, y < 130023424 := by decide
  have hh : ∀ c, h_c c → Y c = X c := fun c q => n c (fun z => by have := bl c z; unfold h_c at q; omega)
  refine ⟨hY, ⟨hK, W_mr (by rw [n x_will_ (by decide)]) (by rw [n x_will_ (by decide)]) (by rw [n x_will_ (by decide)]) (by rw [n x_will_ (by decide)]) (by rw [n x_will_ (by decide)]) (by rw [n x_will_ (by decide)]) (n _ (by decide)) (n _ (by decide)) (n _ (by decide)) (n _ (by decide)) (n _ (by decide)) (n _ (by decide)) (n _ (by decide)) (n _ (by decide)) (W_qe hW hh), ⟨S_ce hZ.1 (n _ (by decide)) (n _ (by decide)) (n _ (by decide)) (n _ (by decide)) (by rw [n x_ (by decide)]), fun i q => ?_, ?_, fun q => ?_⟩, ?_⟩, ?_⟩
  · rw [n x_ledger_paper_sums_words_ (by decide), n x_paper_sums_words_ (by decide)]; exact hZ.2.1 i q
  · rw [n x_ (by decide)]; exact hZ.2.2.1
  · rw [n x_ (by decide)] at q
    exact L_ce (hZ.2.2.2 q) (n _ (by decide)) (n _ (by decide)) (n _ (by decide)) (n _ (by decide)) hh (n _ (by decide))
  · unfold E_s at hE ⊢
    rw [n x_settler_ (by decide), n x_settler_trial_ (by decide)]
    exact hE
  · rw [n x_log_ (by decide), n x_log_what_ (by decide), n x_log_where_ (by decide), n x_log_was_ (by decide)]
    exact hG
theorem cf_Or : ∀ k ∈ cf_K, (33554432 ≤ cf_O k ∧ cf_O k < m_) ∧ (cw_ln (cf_O k) = cf_n k ∧ (if k = 12 then cw_tg (cf_O k) = 44 else cw_tg (cf_O k) = 40)) ∧ cf_O k ≠ x_will_ ∧ cf_O k ≠ x_before_ ∧ cf_O k ∈ B_L := by decide
theorem cf_Oi : ∀ k ∈ cf_K, ∀ k' ∈ cf_K, (k ≠ k' → cf_O k ≠ cf_O k') ∧ cf_O k ≠ cf_W k' ∧ cf_W k ≠ cf_O k' := by decide
theorem cf_hB {m : cw_M} (hm : la_ok m) : cf_h m x_before_ x_will_ cf_O cf_W ∧ cf_h m x_will_ x_before_ cf_W cf_O := by
  refine ⟨⟨⟨by decide, by decide, by unfold cw_own; decide, by decide⟩, fun k hk => ?_, fun k hk k' hk' => ⟨(cf_Oi k hk k' hk').2.2, (cf_Oi k hk k' hk').1⟩⟩, ⟨⟨by decide, by decide, by unfold cw_own; decide, by decide⟩, fun k hk => ?_, fun k hk k' hk' => ⟨(cf_Oi k hk k' hk').2.1, cf_Wi k hk k' hk'⟩⟩⟩
  · have a := cf_Wr k hk
    have b := cf_Or k hk
    refine ⟨⟨(cf_lW hm k hk).2, (cf_lW hm k hk).1⟩, ⟨b.2.2.2.1, b.2.2.1, a.2.2.2⟩, ⟨b.1.1, a.1.1⟩, by omega, ?_⟩
    by_cases e : k = 12
    · rw [if_pos e]; rw [if_pos e] at a b; exact ⟨b.2.1.2, a.2.1.2⟩
    · rw [if_neg e]; rw [if_neg e] at a b; exact ⟨b.2.1.2, a.2.1.2⟩
  · have a := cf_Wr k hk
    have b := cf_Or k hk
    refine ⟨⟨(cf_lW hm k hk).1, (cf_lW hm k hk).2⟩, ⟨a.2.2.1, a.2.2.2, b.2.2.1⟩, ⟨a.1.1, b.1.1⟩, by omega, ?_⟩
    by_cases e : k = 12
    · rw [if_pos e]; rw [if_pos e] at a b; exact ⟨a.2.1.2, b.2.1.2⟩
    · rw [if_neg e]; rw [if_neg e] at a b; exact ⟨a.2.1.2, b.2.1.2⟩
theorem cf_okO {m X : cw_M} (hm : la_ok m) (hZ : cf_Z m x_before_ x_will_ cf_O cf_W X) : la_ok X := cf_ok hm hZ (fun k hk => ⟨by have a := (cf_Or k hk).2.1.2; split at a <;> omega, by have a := (cf_Or k hk).1; omega⟩) (by decide) (by decide)
theorem cf_okW {m X : cw_M} {S : Int} {B : Int → Int} (hm : la_ok m) (hZ : cf_Z m x_will_ S cf_W B X) : la_ok X := cf_ok hm hZ (fun k hk => ⟨by have a := (cf_Wr k hk).2.1.2; split at a <;> omega, by have a := (cf_Wr k hk).1; omega⟩) (by decide) (by decide)
/-- the log is copied -/
def lb_m (m : cw_M) : cw_M := cw_cpy (cw_cpy (cw_cpy (cw_put m x_logBefore_ 0 (m x_log_ 0)) x_log_what_ 0 x_logBefore_what_ 0 16) x_log_where_ 0 x_logBefore_where_ 0 16) x_log_was_ 0 x_logBefore_was_ 0 16
def ll_m (m : cw_M) : cw_M := cw_cpy (cw_cpy (cw_cpy (cw_put m x_log_ 0 (m x_logBefore_ 0)) x_logBefore_what_ 0 x_log_what_ 0 16) x_logBefore_where_ 0 x_log_where_ 0 16) x_logBefore_was_ 0 x_log_was_ 0 16
theorem lb_ok {m : cw_M} (hm : la_ok m) : la_ok (lb_m m) := la_cpy (la_cpy (la_cpy (la_put hm (by decide) (Or.inl rfl)) rfl) rfl) rfl
theorem ll_ok {m : cw_M} (hm : la_ok m) : la_ok (ll_m m) := la_cpy (la_cpy (la_cpy (la_put hm (by decide) (Or.inl rfl)) rfl) rfl) rfl
theorem lb_ne {m : cw_M} {c : Int} (h : c ∉ B_L) : lb_m m c = m c := by
  unfold lb_m; rw [cw_cpy_ne (U_n h (by decide)), cw_cpy_ne (U_n h (by decide)), cw_cpy_ne (U_n h (by decide)), cw_put_ne (U_n h (by decide))]
theorem lb_nw {m : cw_M} {c : Int} (h : c ∉ [x_logBefore_, x_logBefore_what_, x_logBefore_where_, x_logBefore_was_]) : lb_m m c = m c := by
  unfold lb_m; rw [cw_cpy_ne (U_n h (by decide)), cw_cpy_ne (U_n h (by decide)), cw_cpy_ne (U_n h (by decide)), cw_put_ne (U_n h (by decide))]
theorem ll_ne {m : cw_M} {c : Int} (h : c ∉ [x_log_, x_log_what_, x_log_where_, x_log_was_]) : ll_m m c = m c := by
  unfold ll_m; rw [cw_cpy_ne (U_n h (by decide)), cw_cpy_ne (U_n h (by decide)), cw_cpy_ne (U_n h (by decide)), cw_put_ne (U_n h (by decide))]
theorem cp_r {m : cw_M} {s d i : Int} (h : 0 ≤ i ∧ i < 16) : cw_cpy m s 0 d 0 16 d i = m s i := by
  rw [cw_cpy_row, cw_row_eq]
  show (if 0 ≤ i ∧ i < 0 + 16 then m s (0 + (i - 0)) else _) = _
  rw [if_pos (by omega)]; congr 1; omega
theorem lb_v {m : cw_M} {i : Int} (h : 0 ≤ i ∧ i < 16) : lb_m m x_logBefore_ 0 = m x_log_ 0 ∧ lb_m m x_logBefore_what_ i = m x_log_what_ i ∧ lb_m m x_logBefore_where_ i = m x_log_where_ i ∧ lb_m m x_logBefore_was_ i = m x_log_was_ i := by
  unfold lb_m
  refine ⟨?_, ?_, ?_, ?_⟩
  · rw [cw_cpy_ne (by decide), cw_cpy_ne (by decide), cw_cpy_ne (by decide), cw_put_eq]
  · rw [cw_cpy_ne (by decide), cw_cpy_ne (by decide), cp_r h, cw_put_ne (by decide)]
  · rw [cw_cpy_ne (by decide), cp_r h, cw_cpy_ne (by decide), cw_put_ne (by decide)]
  · rw [cp_r h, cw_cpy_ne (by decide), cw_cpy_ne (by decide), cw_put_ne (by decide)]
theorem ll_v {m : cw_M} {i : Int} (h : 0 ≤ i ∧ i < 16) : ll_m m x_log_ 0 = m x_logBefore_ 0 ∧ ll_m m x_log_what_ i = m x_logBefore_what_ i ∧ ll_m m x_log_where_ i = m x_logBefore_where_ i ∧ ll_m m x_log_was_ i = m x_logBefore_was_ i := by
  unfold ll_m
  refine ⟨?_, ?_, ?_, ?_⟩
  · rw [cw_cpy_ne (by decide), cw_cpy_ne (by decide), cw_cpy_ne (by decide), cw_put_eq]
  · rw [cw_cpy_ne (by decide), cw_cpy_ne (by decide), cp_r h, cw_put_ne (by decide)]
  · rw [cw_cpy_ne (by decide), cp_r h, cw_cpy_ne (by decide), cw_put_ne (by decide)]
  · rw [cp_r h, cw_cpy_ne (by decide), cw_cpy_ne (by decide), cw_put_ne (by decide)]
/-- all was put back -/
def O_K (M F : cw_M) (K : Int → Int) (k : Int) : Prop := la_ok F ∧ (∀ c, c ∉ O_D → c ∉ B_L → c ∉ [x_orderSums_words_, x_orderSums_stack_] → c ∉ [x_will_owner_, x_will_held_, x_will_toldOf_, x_will_toldMuch_, x_will_lawAt_] → F c = M c) ∧ (F x_ 15 = k ∧ F x_ 18 = 1 ∧ F x_ 19 = 1 ∧ ∀ j, j ≠ 15 → j ≠ 18 → j ≠ 19 → F x_ j = M x_ j) ∧ (W_r F K ∧ (∀ i, 0 ≤ i → i < 6 → F x_will_lawAt_ i = M x_will_lawAt_ i) ∧ F x_settler_ 0 = -1) ∧ (F_ok (F x_forest_ 5) (F x_forest_ 0) (F x_forest_deep_) (F x_forest_above_)) ∧ F x_log_ 0 = M x_log_ 0 ∧ ∀ i, 0 ≤ i → i < 16 → F x_log_what_ i = M x_log_what_ i ∧ F x_log_where_ i = M x_log_where_ i ∧ F x_log_was_ i = M x_log_was_ i
theorem Lo_copyB {d : Nat} {m : cw_M} {Q : Option cw_V → cw_M → Prop} (hm : la_ok m) (h : Q none (lb_m m)) : cw_C d k_Lo_copyFrom [vr x_logBefore_, vr x_log_] m Q := by
  refine la_go_C hm 32 [] ?_
  have hm21 : la_ok (cw_put m x_logBefore_ 0 (m x_log_ 0)) := la_put hm (by decide) (Or.inl rfl)
  refine And.intro (show (0 ≤ 0 ∧ 0 ≤ 0 ∧ 0 ≤ 16) ∧ 0 + 16 ≤ 16 ∧ 0 + 16 ≤ 16 by omega) ?_
  have hm22 : la_ok (cw_cpy (cw_put m x_logBefore_ 0 (m x_log_ 0)) x_log_what_ 0 x_logBefore_what_ 0 16) := la_cpy hm21 rfl
  refine And.intro (show (0 ≤ 0 ∧ 0 ≤ 0 ∧ 0 ≤ 16) ∧ 0 + 16 ≤ 16 ∧ 0 + 16 ≤ 16 by omega) ?_
  have hm23 : la_ok (cw_cpy (cw_cpy (cw_put m x_logBefore_ 0 (m x_log_ 0)) x_log_what_ 0 x_logBefore_what_ 0 16) x_log_where_ 0 x_logBefore_where_ 0 16) := la_cpy hm22 rfl
  refine And.intro (show (0 ≤ 0 ∧ 0 ≤ 0 ∧ 0 ≤ 16) ∧ 0 + 16 ≤ 16 ∧ 0 + 16 ≤ 16 by omega) ?_
  have hm24 : la_ok (cw_cpy (cw_cpy (cw_cpy (cw_put m x_logBefore_ 0 (m x_log_ 0)) x_log_what_ 0 x_logBefore_what_ 0 16) x_log_where_ 0 x_logBefore_where_ 0 16) x_log_was_ 0 x_logBefore_was_ 0 16) := la_cpy hm23 rfl
  show Q none (cw_cpy (cw_cpy (cw_cpy (cw_put m x_logBefore_ 0 (m x_log_ 0)) x_log_what_ 0 x_logBefore_what_ 0 16) x_log_where_ 0 x_logBefore_where_ 0 16) x_log_was_ 0 x_logBefore_was_ 0 16)
  exact h
theorem Lo_copyL {d : Nat} {m : cw_M} {Q : Option cw_V → cw_M → Prop} (hm : la_ok m) (h : Q none (ll_m m)) : cw_C d k_Lo_copyFrom [vr x_log_, vr x_logBefore_] m Q := by
  refine la_go_C hm 32 [] ?_
  have hm21 : la_ok (cw_put m x_log_ 0 (m x_logBefore_ 0)) := la_put hm (by decide) (Or.inl rfl)
  refine And.intro (show (0 ≤ 0 ∧ 0 ≤ 0 ∧ 0 ≤ 16) ∧ 0 + 16 ≤ 16 ∧ 0 + 16 ≤ 16 by omega) ?_
  have hm22 : la_ok (cw_cpy (cw_put m x_log_ 0 (m x_logBefore_ 0)) x_logBefore_what_ 0 x_log_what_ 0 16) := la_cpy hm21 rfl
  refine And.intro (show (0 ≤ 0 ∧ 0 ≤ 0 ∧ 0 ≤ 16) ∧ 0 + 16 ≤ 16 ∧ 0 + 16 ≤ 16 by omega) ?_
  have hm23 : la_ok (cw_cpy (cw_cpy (cw_put m x_log_ 0 (m x_logBefore_ 0)) x_logBefore_what_ 0 x_log_what_ 0 16) x_logBefore_where_ 0 x_log_where_ 0 16) := la_cpy hm22 rfl
  refine And.intro (show (0 ≤ 0 ∧ 0 ≤ 0 ∧ 0 ≤ 16) ∧ 0 + 16 ≤ 16 ∧ 0 + 16 ≤ 16 by omega) ?_
  have hm24 : la_ok (cw_cpy (cw_cpy (cw_cpy (cw_put m x_log_ 0 (m x_logBefore_ 0)) x_logBefore_what_ 0 x_log_what_ 0 16) x_logBefore_where_ 0 x_log_where_ 0 16) x_logBefore_was_ 0 x_log_was_ 0 16) := la_cpy hm23 rfl
  show Q none (cw_cpy (cw_cpy (cw_cpy (cw_put m x_log_ 0 (m x_logBefore_ 0)) x_logBefore_what_ 0 x_log_what_ 0 16) x_logBefore_where_ 0 x_log_where_ 0 16) x_logBefore_was_ 0 x_log_was_ 0 16)
  exact h
theorem C_orders {d : Nat} {m : cw_M} {Q : Option cw_V → cw_M → Prop} {K L0 : Int → Int} {u0 tk : Int} (hm : la_ok m) (hr : c_fb m) (hX : X_h (cw_put m x_ 15 (-1)) tk) (hT : ∀ j, 0 ≤ j → j < 7 → m cw_TREES j = t_c j) (hc9 : m cw_TERM 0 = 999) (hRM : ∀ M, la_ok M → X_p (cw_put m x_ 15 (-1)) M (-1) → O_R M K L0 u0) (hvM : ∀ M, la_ok M → X_p (cw_put m x_ 15 (-1)) M (-1) → ∀ i, 0 ≤ i → i < 6 → M (cf_W 12) i = 0 ∨ cw_tg (M (cf_W 12) i) = 8) (her : ∀ er M, la_ok M → X_p (cw_put m x_ 15 (-1)) M (x_P (cw_put m x_ 15 (-1)) er) → p_all (x_c (cw_put m x_ 15 (-1))) (x_v (cw_put m x_ 15 (-1))) true tk = .error er → Q (some (vi (-6))) (cr_m M (-6) 4)) (hok : ∀ Ks s M X, la_ok M → X_p (cw_put m x_ 15 (-1)) M (-1) → p_all (x_c (cw_put m x_ 15 (-1))) (x_v (cw_put m x_ 15 (-1))) true tk = .ok Ks → X_t true M Ks → o_l Ks 0 (K, [], 0, -1) = .ok s → (∀ c, c ∉ O_D → c ∉ B_L → c ∉ [x_orderSums_words_, x_orderSums_stack_] → X c = M c) → (∀ j, j ≠ 18 → j ≠ 19 → X x_ j = lb_m M x_ j) → (∀ j, j ≠ 4 → X x_will_ j = lb_m M x_will_ j) → O_R X s.1 (d_L s.2.1 L0 u0).1 (d_L s.2.1 L0 u0).2 → (0 ≤ s.2.2.1 ∧ s.2.2.1 ≤ 20 * (Ks.length : Int)) → Q (some (vi s.2.2.1)) (cw_put X x_ 16 0)) (hfa : ∀ Ks k M F, la_ok M → X_p (cw_put m x_ 15 (-1)) M (-1) → p_all (x_c (cw_put m x_ 15 (-1))) (x_v (cw_put m x_ 15 (-1))) true tk = .ok Ks → X_t true M Ks → o_l Ks 0 (K, [], 0, -1) = .error k → (0 ≤ k ∧ k ≤ 11) → O_K M F K k → Q (some (vi (-3))) (cr_m F (-3) 2)) : cw_C (d + 42) k_C_orders [vr x_] m Q := by
  refine la_go_C hm 46 [] ?_
  have hm21 : la_ok (cw_put m x_ 15 (-1)) := la_put hm (by decide) (Or.inl rfl)
  show cw_C _ _ [vr x_reader_, vi 0] (cw_put m x_ 15 (-1)) _
  have ok0 : la_ok (cw_put m x_ 15 (-1)) := la_put hm (by decide) (Or.inl rfl)
  refine Re_parseT (m := (cw_put m x_ 15 (-1))) ok0 hX (fun (Ks : List p_K) (M : cw_M) (hM : la_ok M) hXp hpa hXt => ⟨hM, ?_⟩) (fun (er : Int) (M : cw_M) (hM : la_ok M) hXp hpa => ⟨hM, ?_⟩)
  · refine br_t (show (1 : Int) ≠ 0 by decide) ?_
    show cw_C _ _ [vr x_before_, vr x_will_] (M) _
    refine Wi_copyFrom (cf_hB hM).1 (hvM M hM hXp) (fun (M1 : cw_M) (hZ1 : cf_Z M x_before_ x_will_ cf_O cf_W M1) => ⟨(cf_okO hM hZ1), ?_⟩)
    show cw_C _ _ [vr x_logBefore_, vr x_log_] (M1) _
    refine Lo_copyB (cf_okO hM hZ1) ⟨(lb_ok (cf_okO hM hZ1)), ?_⟩
    show cw_C _ _ [vr x_, vr x_reader_text_] (lb_m M1) _
    have ok2 : la_ok (lb_m M1) := lb_ok (cf_okO hM hZ1)
    have b1 : ∀ c, c ∉ B_L → M1 c = M c := fun c q => hZ1.1 c (U_n q (by decide)) (fun k hk z => q (by rw [z]; exact (cf_Or k hk).2.2.2.2))
    have b2 : ∀ c, c ∉ B_L → lb_m M1 c = M c := fun c q => by rw [lb_ne q, b1 c q]
    have r2 : O_R (lb_m M1) K L0 u0 := O_Rn (hRM M hM hXp) ok2 b2
    have t2 : X_t true (lb_m M1) Ks := by
      unfold X_t at hXt ⊢
      rw [b2 x_reader_text_code_ (by decide), b2 x_reader_text_ (by decide), b2 x_reader_text_head_ (by decide), b2 x_reader_text_first_ (by decide), b2 x_reader_text_second_ (by decide), b2 x_reader_text_test_ (by decide), b2 x_reader_text_repeats_ (by decide)]
      exact hXt
    have hT2 : ∀ j, 0 ≤ j → j < 7 → lb_m M1 cw_TREES j = t_c j := fun j a b => by rw [b2 _ (by decide), X_pn hXp (by decide), cw_put_ne (by decide)]; exact hT j a b
    have h92 : lb_m M1 cw_TERM 0 = 999 := by rw [b2 _ (by decide), X_pn hXp (by decide), cw_put_ne (by decide)]; exact hc9
    refine C_runOrders r2 hT2 h92 t2 (p_allh hpa) (fun (s : o_S) (X : cw_M) es gX rX hdn => ⟨rX.1, ?_⟩) (fun (k : Int) (X : cw_M) K1 L1 u1 ek hk11 gX rX => ⟨(la_put rX.1 (by decide) (Or.inl rfl)), ?_⟩)
    · refine br_t (show s.2.2.1 ≠ (-1) by omega) ?_
      show cw_C _ _ [vr x_, vi s.2.2.1] (X) _
      refine C_accept rX.1 ⟨(la_put rX.1 (by decide) (Or.inl rfl)), ?_⟩
      show Q (some (vi s.2.2.1)) (cw_put X x_ 16 0)
      refine hok Ks s M X hM hXp hpa hXt es ?_ (fun j a b => by rw [gX.2.1 j a b, b2 x_ (by decide), lb_ne (by decide)]) (fun j a => by rw [gX.2.2 j a, b2 x_will_ (by decide), lb_ne (by decide)]) rX hdn
      intro c a b d
      rw [gX.1 c a (U_n d (by decide)) (U_n d (by decide)), b2 c b]
    · have okX : la_ok X := rX.1
      have okF0 : la_ok (cw_put X x_ 15 k) := la_put okX (by decide) (Or.inl rfl)
      have xb : ∀ c, c ∈ B_L → cw_put X x_ 15 k c = lb_m M1 c := fun c q => by
        have z := (show ∀ t ∈ B_L, t ∉ O_D ∧ t ≠ x_orderSums_words_ ∧ t ≠ x_orderSums_stack_ ∧ t ≠ x_ by decide) c q
        rw [cw_put_ne z.2.2.2, gX.1 c z.1 z.2.1 z.2.2.1]
      have wb : ∀ kk ∈ cf_K, ∀ i, 0 ≤ i → i < cf_n kk → cw_put X x_ 15 k (cf_O kk) i = M (cf_W kk) i := fun kk hk i a b => by
        rw [xb _ (cf_Or kk hk).2.2.2.2, lb_nw ((show ∀ t ∈ cf_K, cf_O t ∉ [x_logBefore_, x_logBefore_what_, x_logBefore_where_, x_logBefore_was_] by decide) kk hk), hZ1.2.2 kk hk i, if_pos ⟨a, b⟩]
      have fb : ∀ j, j ∈ [(13 : Int), 11, 8, 6, 4, 0] → cw_put X x_ 15 k x_before_ j = M x_will_ j := fun j hj => by rw [xb x_before_ (by decide), lb_nw (by decide), hZ1.2.1 j, if_pos hj]
      have hv2 : ∀ i, 0 ≤ i → i < 6 → cw_put X x_ 15 k (cf_O 12) i = 0 ∨ cw_tg (cw_put X x_ 15 k (cf_O 12) i) = 8 := fun i a b => by rw [wb 12 (by decide) i a b]; exact hvM M hM hXp i a b
      refine br_f (show ¬ ((-1 : Int) ≠ (-1)) by decide) ?_
      show cw_C _ _ [vr x_will_, vr x_before_] (cw_put X x_ 15 k) _
      refine Wi_copyFrom (cf_hB okF0).2 hv2 (fun (F1 : cw_M) (hZ2 : cf_Z (cw_put X x_ 15 k) x_will_ x_before_ cf_W cf_O F1) => ⟨(cf_okW okF0 hZ2), ?_⟩)
      show cw_C _ _ [vr x_log_, vr x_logBefore_] (F1) _
      refine Lo_copyL (cf_okW okF0 hZ2) ⟨(ll_ok (cf_okW okF0 hZ2)), ?_⟩
      show cw_C _ _ [vr x_] (ll_m F1) _
      refine C_rewritten (ll_ok (cf_okW okF0 hZ2)) ⟨(la_put (la_put (la_put (ll_ok (cf_okW okF0 hZ2)) (by decide) (Or.inl rfl)) (by decide) (Or.inl rfl)) (by decide) (Or.inl rfl)), ?_⟩
      have hrF : c_fb F1 := fun i a b => by rw [hZ2.1 x_refusals_ (by decide) (by decide), cw_put_ne (by decide), gX.1 _ (by decide) (by decide) (by decide), b2 _ (by decide), X_pn hXp (by decide), cw_put_ne (by decide)]; exact hr i a b
      have hrF : c_fb (ll_m F1) := fun i a b => by rw [ll_ne (by decide)]; exact hrF i a b
      show cw_C _ _ [vr x_, vi (-3)] (cw_put (cw_put (cw_put (ll_m F1) x_ 18 1) x_ 19 1) x_settler_ 0 (-1)) _
      refine C_refuse3 (la_put (la_put (la_put (ll_ok (cf_okW okF0 hZ2)) (by decide) (Or.inl rfl)) (by decide) (Or.inl rfl)) (by decide) (Or.inl rfl)) (hrF 2 (by decide) (by decide)) ⟨(cr_ok (la_put (la_put (la_put (ll_ok (cf_okW okF0 hZ2)) (by decide) (Or.inl rfl)) (by decide) (Or.inl rfl)) (by decide) (Or.inl rfl))), ?_⟩
      show Q (some (vi (-3))) (cr_m (cw_put (cw_put (cw_put (ll_m F1) x_ 18 1) x_ 19 1) x_settler_ 0 (-1)) (-3) 2)
      refine hfa Ks k M _ hM hXp hpa hXt ek hk11 ?_
      have fX : ∀ c, c ≠ x_will_ → (∀ kk ∈ cf_K, c ≠ cf_W kk) → F1 c = cw_put X x_ 15 k c := hZ2.1
      have fl : ∀ c, c ∉ [x_log_, x_log_what_, x_log_where_, x_log_was_] → c ≠ x_ → c ≠ x_settler_ → (cw_put (cw_put (cw_put (ll_m F1) x_ 18 1) x_ 19 1) x_settler_ 0 (-1)) c = F1 c := fun c a b e => by rw [cw_put_ne e, cw_put_ne b, cw_put_ne b, ll_ne a]
      have flx : ∀ j, j ≠ 18 → j ≠ 19 → (cw_put (cw_put (cw_put (ll_m F1) x_ 18 1) x_ 19 1) x_settler_ 0 (-1)) x_ j = F1 x_ j := fun j a b => by rw [cw_put_ne (by decide), cw_put_off b, cw_put_off a, ll_ne (by decide)]
      have f1x : F1 x_ = cw_put X x_ 15 k x_ := fX x_ (by decide) (by decide)
      have hWF : W_r F1 K := cf_Wr2 (K := K) hZ2 r2.2.1.1.2.2.2.2.2.2.2.2.2.2.2.1.2 (by
        have hWM := (hRM M hM hXp).2.1.2.1
        rw [fb 0 (by decide), fb 4 (by decide), fb 6 (by decide), fb 8 (by decide), fb 11 (by decide), fb 13 (by decide)]
        have hh : ∀ c, h_c c → cw_put X x_ 15 k c = M c := fun c q => by
          have z : ∀ t ∈ O_D, t < 130023424 := by decide
          have z2 : ∀ t ∈ B_L, t < 130023424 := by decide
          have z3 : x_orderSums_words_ < 130023424 ∧ x_orderSums_stack_ < 130023424 ∧ x_ < 130023424 := by decide
          unfold h_c at q
          rw [cw_put_ne (by omega), gX.1 c (fun y => by have := z c y; omega) (by omega) (by omega), b2 c (fun y => by have := z2 c y; omega)]
        exact W_qe (W_qc hWM (wb 1 (by decide)) (wb 2 (by decide)) (wb 3 (by decide)) (wb 5 (by decide)) (wb 7 (by decide)) (wb 9 (by decide)) (wb 10 (by decide)) (wb 12 (by decide)) r2.2.1.1.2.2.2.2.2.2.2.2.2.2.2.1.2) hh)
      have hhF : ∀ c, h_c c → (cw_put (cw_put (cw_put (ll_m F1) x_ 18 1) x_ 19 1) x_settler_ 0 (-1)) c = F1 c := fun c q => by
        have z : x_ < 130023424 ∧ x_settler_ < 130023424 ∧ x_log_ < 130023424 ∧ x_log_what_ < 130023424 ∧ x_log_where_ < 130023424 ∧ x_log_was_ < 130023424 := by decide
        unfold h_c at q
        rw [cw_put_ne (by omega), cw_put_ne (by omega), cw_put_ne (by omega), ll_m, cw_cpy_ne (by omega), cw_cpy_ne (by omega), cw_cpy_ne (by omega), cw_put_ne (by omega)]
      refine ⟨la_put (la_put (la_put (ll_ok (cf_okW okF0 hZ2)) (by decide) (Or.inl rfl)) (by decide) (Or.inl rfl)) (by decide) (Or.inl rfl), fun c a b d e => ?_, ⟨?_, rfl, rfl, fun j a b d => ?_⟩, ⟨?_, fun i a b => ?_, rfl⟩, ?_, ?_, fun i a b => ⟨?_, ?_, ?_⟩⟩
      · have nx := U_n a (show x_ ∈ O_D by decide)
        rw [fl c (O_lg a) nx (U_n a (by decide)), fX c (U_n a (by decide)) (fun kk hk z => by
          have y := (show ∀ t ∈ cf_K, cf_W t ∈ O_D ∨ cf_W t ∈ [x_will_owner_, x_will_held_, x_will_toldOf_, x_will_toldMuch_, x_will_lawAt_] by decide) kk hk
          rw [← z] at y
          rcases y with y | y
          · exact a y
          · exact e y), cw_put_ne nx, gX.1 c a (U_n d (by decide)) (U_n d (by decide)), b2 c b]
      · rw [flx 15 (by decide) (by decide), f1x, cw_put_eq]
      · rw [flx j b d, f1x, cw_put_off a, gX.2.1 j b d, b2 x_ (by decide)]
      · exact W_mr (show ll_m F1 x_will_ 0 = F1 x_will_ 0 by rw [ll_ne (by decide)]) (show ll_m F1 x_will_ 4 = F1 x_will_ 4 by rw [ll_ne (by decide)]) (show ll_m F1 x_will_ 6 = F1 x_will_ 6 by rw [ll_ne (by decide)]) (show ll_m F1 x_will_ 8 = F1 x_will_ 8 by rw [ll_ne (by decide)]) (show ll_m F1 x_will_ 11 = F1 x_will_ 11 by rw [ll_ne (by decide)]) (show ll_m F1 x_will_ 13 = F1 x_will_ 13 by rw [ll_ne (by decide)]) (fl _ (by decide) (by decide) (by decide)) (fl _ (by decide) (by decide) (by decide)) (fl _ (by decide) (by decide) (by decide)) (fl _ (by decide) (by decide) (by decide)) (fl _ (by decide) (by decide) (by decide)) (fl _ (by decide) (by decide) (by decide)) (fl _ (by decide) (by decide) (by decide)) (fl _ (by decide) (by decide) (by decide)) (W_qe hWF hhF)
      · rw [fl x_will_lawAt_ (by decide) (by decide) (by decide)]
        have z := hZ2.2.2 12 (by decide) i
        rw [if_pos ⟨a, b⟩, wb 12 (by decide) i a b] at z
        exact z
      · have z := rX.2.1.2.2.1.1.1
        rw [fl x_forest_ (by decide) (by decide) (by decide), fl x_forest_deep_ (by decide) (by decide) (by decide), fl x_forest_above_ (by decide) (by decide) (by decide), fX x_forest_ (by decide) (by decide), fX x_forest_deep_ (by decide) (by decide), fX x_forest_above_ (by decide) (by decide), cw_put_ne (by decide), cw_put_ne (by decide), cw_put_ne (by decide)]
        exact z
      · show ll_m F1 x_log_ 0 = _
        rw [(ll_v (i := 0) (by decide)).1, fX x_logBefore_ (by decide) (by decide), xb x_logBefore_ (by decide), (lb_v (i := 0) (by decide)).1, b1 x_log_ (by decide)]
      · show ll_m F1 x_log_what_ i = _
        rw [(ll_v ⟨a, b⟩).2.1, fX x_logBefore_what_ (by decide) (by decide), xb x_logBefore_what_ (by decide), (lb_v ⟨a, b⟩).2.1, b1 x_log_what_ (by decide)]
      · show ll_m F1 x_log_where_ i = _
        rw [(ll_v ⟨a, b⟩).2.2.1, fX x_logBefore_where_ (by decide) (by decide), xb x_logBefore_where_ (by decide), (lb_v ⟨a, b⟩).2.2.1, b1 x_log_where_ (by decide)]
      · show ll_m F1 x_log_was_ i = _
        rw [(ll_v ⟨a, b⟩).2.2.2, fX x_logBefore_was_ (by decide) (by decide), xb x_logBefore_was_ (by decide), (lb_v ⟨a, b⟩).2.2.2, b1 x_log_was_ (by decide)]
  · have hrM : c_fb M := fun i a b => by rw [X_pn hXp (by decide), cw_put_ne (by decide)]; exact hr i a b
    refine br_f (show ¬ ((0 : Int) ≠ 0) by decide) ?_
    show cw_C _ _ [vr x_, vi (-6)] (M) _
    refine C_refuse6 hM (hrM 4 (by decide) (by decide)) ⟨(cr_ok hM), ?_⟩
    show Q (some (vi (-6))) (cr_m M (-6) 4)
    exact her er M hM hXp hpa
