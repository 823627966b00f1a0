/-! Orders, by both (wip/whole/tools/m172.py). -/
theorem J_st {n sc : Int} {S : Int → Int} {m : cw_M} {v : Int} (hs : sc < 33554432) (hI : J_I n sc S m) : J_I n sc S (cw_put (cw_put m x_ 15 v) m_ 45 v) := by
  obtain ⟨⟨h1, h2⟩, hA, hB, hC, hN⟩ := hI
  have hmm : (33554432 : Int) ≤ m_ := by decide
  have hm := h1
  have hK := hA.1
  have hW := hA.2.1
  have hD : D_s m (cw_put m x_ 15 v) := (D_sp D_sr (by decide))
  refine J_up (by omega) (la_put (la_put h1 (by decide) (Or.inl rfl)) (by decide) (Or.inl rfl)) (F_mp (by decide)) rfl (D_sk hD h2) ⟨hK, ?_, ?_, ?_⟩ (by have z := J_Bd hD hB; exact z) ⟨hC.1, ⟨hC.2.1.1, hC.2.1.2.1, rfl, hC.2.1.2.2.2⟩, hC.2.2.1, hC.2.2.2.1, hC.2.2.2.2.1, ?_⟩ (D_sN hs hD hN)
  · exact W_mr rfl rfl rfl rfl rfl rfl rfl rfl rfl rfl rfl rfl rfl rfl (W_qe (hW) (D_sh hD))
  · exact D_s3 hD hA.2.2.1 rfl rfl rfl K_pr (fun _ _ _ => rfl) hK.1
  · exact E_s2 hA.2.2.2 rfl rfl K_pr (fun _ _ _ => rfl) hK.1
  · exact j_Hd hD rfl rfl hC.2.2.2.2.2
theorem X_pm {m M : cw_M} {fa v : Int} (h : X_p m M fa) : X_p (cw_put m m_ 45 v) (cw_put M m_ 45 v) fa := by
  refine ⟨fun c a1 a2 a3 a4 a5 a6 a7 a8 => ?_, h.2.1, h.2.2⟩
  have e := h.1 c a1 a2 a3 a4 a5 a6 a7 a8
  funext j
  unfold cw_put
  rw [e]
theorem j_Gc {n : Int} {wt wh ws wt' wh' ws' : Int → Int} {un : Int} {L L' K K' : Int → Int} (h : j_G n wt wh ws un L K) (hw : ∀ i, 0 ≤ i → i < 16 → wt' i = wt i ∧ wh' i = wh i ∧ ws' i = ws i) (hL : ∀ i, 0 ≤ i → i < 320 → L' i = L i) (hK : ∀ x, 0 ≤ x → x < 19 → K' x = K x) : j_G n wt' wh' ws' un L' K' := by
  have hb := h.1
  refine ⟨h.1, fun i a b => ?_⟩
  obtain ⟨q1, q2, q3⟩ := h.2 i a b
  obtain ⟨e1, e2, e3⟩ := hw i a (by omega)
  rw [e1, e2, e3]
  refine ⟨q1, by rw [hL _ (by omega) (by omega)]; exact q2, fun x c d => ?_⟩
  rw [hL _ (by omega) (by omega), q3 x c d]
  by_cases z : x = g_ix (wt i) (wh i)
  · rw [if_pos z, if_pos z]
  · rw [if_neg z, if_neg z]
    by_cases y : i + 1 < n
    · rw [if_pos y, if_pos y, hL _ (by omega) (by omega)]
    · rw [if_neg y, if_neg y, hK x c d]
/-- the text of orders lies behind the laws -/
theorem k_l6 {K cd vl : Int → Int} {tk : Int} (hk : 0 ≤ tk ∧ tk ≤ 400) : K_q K (k_lay K 6 tk cd vl tk) := fun i a b c => by
  unfold k_lay
  rw [if_neg (by omega), if_neg (by omega), if_neg (by omega)]
theorem k_p6 {K cd vl : Int → Int} {tk : Int} (hK : K_r K) (hk : 0 ≤ tk ∧ tk ≤ 400) : K_p K (k_lay K 6 tk cd vl tk) ∧ ∀ i, 0 ≤ i → i < 57 → k_lay K 6 tk cd vl tk i = K i := by
  have q := k_l6 (K := K) (cd := cd) (vl := vl) hk
  have e : ∀ i, 0 ≤ i → i < 57 → k_lay K 6 tk cd vl tk i = K i := fun i a b => (q i a (by omega) (by omega)).symm
  have k9 := hK.2.2.2.2.2.2.2.2.2.2.2.1
  have k50 := hK.2.2.2.2.2.2.2.2.2.2.2.2.1
  have hL := hK.2.2.2.2.2.2.2.2.2.2.2.2.2.2.2
  refine ⟨⟨fun i a b => e i (by omega) (by omega), e 43 (by decide) (by decide), e 44 (by decide) (by decide), e 46 (by decide) (by decide), e 50 (by decide) (by decide), ?_, by rw [e 49 (by decide) (by decide)]; exact Int.le_refl _⟩, e⟩
  rw [e 50 (by decide) (by decide)]
  unfold l_fo
  by_cases z : K 50 = -1
  · rw [if_pos z, if_pos z]
  · rw [if_neg z, if_neg z]
    exact (K_qL q ⟨by omega, by omega⟩ (hL (K 50) (by omega) k50.2).1.2).2.2.symm
theorem cr_45 {F : cw_M} {k i v : Int} : cw_put (cr_m F k i) m_ 45 v = cr_m (cw_put F m_ 45 v) k i := by
  unfold cr_m
  rw [cw_pc (c := x_refusals_) (c' := m_) (by decide), cw_pc (c := x_) (c' := m_) (by decide)]
  rfl
theorem cr_44 {F : cw_M} {k i v : Int} : cw_put (cr_m F k i) m_ 44 v = cr_m (cw_put F m_ 44 v) k i := by
  unfold cr_m
  rw [cw_pc (c := x_refusals_) (c' := m_) (by decide), cw_pc (c := x_) (c' := m_) (by decide)]
  rfl
theorem cr_st {F : cw_M} {k i un : Int} {K L : Int → Int} : st_m (cr_m F k i) K L un = cr_m (st_m F K L un) k i := by
  unfold st_m
  rw [← cr_44]
  unfold ml_m kr_m cr_m
  rw [cw_put_rowc (c := m_left0_) (c' := x_) (by decide), cw_put_rowc (c := m_kept_) (c' := x_) (by decide), cw_put_rowc (c := m_left0_) (c' := x_refusals_) (by decide), cw_put_rowc (c := m_kept_) (c' := x_refusals_) (by decide)]
  rfl
theorem st_F {a : cw_M} {K L : Int → Int} {un : Int} : F_m a (st_m a K L un) := F_mt (F_mt (F_mw (by decide)) (F_mw (by decide))) (F_mp (by decide))
theorem st_ok2 {a : cw_M} {K L : Int → Int} {un : Int} (h : la_ok a) : la_ok (st_m a K L un) := la_put (ml_ok (kr_ok h)) (by decide) (Or.inl rfl)
theorem rd_F {a : cw_M} {fa : Int} : F_m a (rd_m a fa) := F_mt (F_mp (by decide)) (F_mp (by decide))
theorem rd_ok2 {a : cw_M} {fa : Int} (h : la_ok a) : la_ok (rd_m a fa) := la_put (la_put h (by decide) (Or.inl rfl)) (by decide) (Or.inl rfl)
theorem J_ordok {n sc : Int} {S : Int → Int} {m M X : cw_M} {s : o_S} {L : Int → Int} {un : Int} (hn : n < 600) (hs : sc < 33554432) (hI : J_I n sc S m) (hXp : X_p (cw_put m x_ 15 (-1)) M (-1)) (fr : ∀ c, c ∉ O_D → c ∉ B_L → c ∉ [x_orderSums_words_, x_orderSums_stack_] → X c = M c) (fx : ∀ j, j ≠ 18 → j ≠ 19 → X x_ j = lb_m M x_ j) (fw : ∀ j, j ≠ 4 → X x_will_ j = lb_m M x_will_ j) (rX : O_R X s.1 L un) : J_I (n + 1) sc S (gd_m (st_m (rd_m (cw_put (cw_put X x_ 16 0) m_ 45 (-1)) (-1)) s.1 L un)) := by
  obtain ⟨⟨h1, h2⟩, hA, hB, hC, hN⟩ := hI
  have hmm : (33554432 : Int) ≤ m_ := by decide
  obtain ⟨okX, ⟨rK, rW, rZ, rE⟩, rG⟩ := rX
  have hDM : D_s m M := D_st (show D_s m (cw_put m x_ 15 (-1)) from (D_sp D_sr (by decide))) (X_pD hXp)
  have xc : ∀ c, c ∉ O_D → c ∉ B_L → c ∉ [x_orderSums_words_, x_orderSums_stack_] → c ∉ X_L → X c = m c := fun c a b d e => by
    rw [fr c a b d, X_pn hXp e, cw_put_ne (U_n a (by decide))]
  have big : ∀ y ∈ O_D ++ B_L ++ [x_orderSums_words_, x_orderSums_stack_] ++ X_L, 33554432 ≤ y ∧ y < m_ := by decide
  have xm : ∀ c, (c < 33554432 ∨ m_ ≤ c) → X c = m c := fun c q => by
    have z : c ∉ O_D ++ B_L ++ [x_orderSums_words_, x_orderSums_stack_] ++ X_L := fun y => by have := big c y; omega
    exact xc c (fun y => z (List.mem_append_left _ (List.mem_append_left _ (List.mem_append_left _ y)))) (fun y => z (List.mem_append_left _ (List.mem_append_left _ (List.mem_append_right _ y)))) (fun y => z (List.mem_append_left _ (List.mem_append_right _ y))) (fun y => z (List.mem_append_right _ y))
  have hD : D_s X (cw_put X x_ 16 0) := (D_sp D_sr (by decide))
  have am : ∀ c, m_ ≤ c → (cw_put X x_ 16 0) c = m c := fun c q => by rw [D_sm hD q, xm c (Or.inr q)]
  have xh : ∀ c, h_c c → X c = m c := by
    intro c q
    have z : m_ < 130023424 := by decide
    unfold h_c at q
    exact xm c (Or.inr (by omega))
  have xf : ∀ j, j ≠ 15 → j ≠ 18 → j ≠ 19 → X x_ j = m x_ j := fun j a b c => by rw [fx j b c, lb_ne (by decide), X_pn hXp (by decide), cw_put_off a]
  have x15 : X x_ 15 = -1 := by rw [fx 15 (by decide) (by decide), lb_ne (by decide), X_pn hXp (by decide), cw_put_eq]
  have k9 : s.1 49 = m m_kept_ 49 := by rw [← rW.2.2.2.2.2.2.2.2.2.2.1, ← hA.2.1.2.2.2.2.2.2.2.2.2.2.1, fw 11 (by decide), lb_ne (by decide), X_pn hXp (by decide), cw_put_ne (by decide)]
  have okA : la_ok (cw_put X x_ 16 0) := la_put okX (by decide) (Or.inl rfl)
  have hkX : la_k X := ⟨fun c x y z => by rw [xm c (Or.inl y)]; exact h2.1 c x y z, fun j x y => by rw [xm m_catalan_ (Or.inr (by decide))]; exact h2.2 j x y⟩
  have hFm : F_m (cw_put X x_ 16 0) (gd_m (st_m (rd_m (cw_put (cw_put X x_ 16 0) m_ 45 (-1)) (-1)) s.1 L un)) := F_mt (F_mp (by decide)) (F_mt rd_F (F_mt st_F gd_F))
  have hNX : J_N n sc S X := by
    unfold J_N at hN ⊢
    rw [xm sc (Or.inl hs), xm (-1) (Or.inl (by decide))]
    exact hN
  refine J_up (by omega) (gd_ok (st_ok2 (rd_ok2 (la_put okA (by decide) (Or.inl rfl))))) hFm rfl (D_sk hD hkX) ⟨rK, ?_, ?_, ?_⟩ ?_ ⟨?_, ⟨rfl, ?_, ?_, ?_⟩, ⟨?_, ?_, fun i a b => ?_⟩, ?_, ?_, ?_⟩ (J_Nm hn (D_sN hs hD hNX))
  · exact W_mr rfl rfl rfl rfl rfl rfl rfl rfl rfl rfl rfl rfl rfl rfl (W_qe rW (D_sh hD))
  · exact D_s3 hD rZ rfl rfl rfl K_pr (fun _ _ _ => rfl) rK.1
  · exact E_s2 rE rfl rfl K_pr (fun _ _ _ => rfl) rK.1
  · show k_tab (X m_words_) 0 k_WL ∧ ∀ k, 0 ≤ k → k < 7 → 0 ≤ X m_refused_ k ∧ X m_refused_ k ≤ n + 1
    rw [xm m_words_ (Or.inr (by decide)), xm m_refused_ (Or.inr (by decide))]
    exact J_Bm hB
  · show j_R (X x_refusals_) (X m_refused_); rw [xc x_refusals_ (by decide) (by decide) (by decide) (by decide), xm m_refused_ (Or.inr (by decide))]; exact hC.1
  · show X x_ 14 = X m_ 6; rw [xf 14 (by decide) (by decide) (by decide), xm m_ (Or.inr (by decide))]; exact hC.2.1.2.1
  · show X x_ 15 = -1; exact x15
  · show X x_reader_ 2 = -1; rw [fr x_reader_ (by decide) (by decide) (by decide)]; exact hXp.2.2
  · show X x_reader_ 1 = 0; rw [fr x_reader_ (by decide) (by decide) (by decide)]; exact hXp.2.1
  · show 0 ≤ X x_reader_ 1 ∧ X x_reader_ 1 ≤ 400; rw [fr x_reader_ (by decide) (by decide) (by decide), hXp.2.1]; decide
  · have b2 : i < X x_reader_ 1 := b
    rw [fr x_reader_ (by decide) (by decide) (by decide), hXp.2.1] at b2
    omega
  · show j_D (X x_ 17) (X m_ 53) (X m_drawnMoved_); rw [xf 17 (by decide) (by decide) (by decide), xm m_ (Or.inr (by decide)), xm m_drawnMoved_ (Or.inr (by decide))]; exact hC.2.2.2.1
  · exact rG
  · show j_H (cw_put X x_ 16 0) s.1 (X m_hasImage_) (X m_images_); rw [xm m_hasImage_ (Or.inr (by decide)), xm m_images_ (Or.inr (by decide))]
    have z1 := j_He xh (xm (-1) (Or.inl (by decide))) (xc x_images_ (by decide) (by decide) (by decide) (by decide)) (xc x_will_lawAt_ (by decide) (by decide) (by decide) (by decide)) hC.2.2.2.2.2
    exact j_Hd hD k9 rfl z1
theorem J_ordno {n sc : Int} {S : Int → Int} {m M F : cw_M} {Kl L : Int → Int} {k : Int} (hs : sc < 33554432) (hI : J_I n sc S m) (hXp : X_p (cw_put m x_ 15 (-1)) M (-1)) (hKr : K_r Kl) (hK57 : ∀ i, 0 ≤ i → i < 57 → Kl i = m m_kept_ i) (hL : ∀ i, 0 ≤ i → i < 320 → L i = m m_left0_ i) (hF : O_K M F Kl k) : J_I n sc S (cw_put (st_m (rd_m (cw_put F m_ 45 (-1)) (-1)) Kl L (m m_ 44)) m_ 45 k) := by
  obtain ⟨⟨h1, h2⟩, hA, hB, hC, hN⟩ := hI
  have hmm : (33554432 : Int) ≤ m_ := by decide
  have k9 := hKr.2.2.2.2.2.2.2.2.2.2.2.1
  obtain ⟨okF, fr, ⟨f15, f18, f19, fx⟩, ⟨fW, fl, fs⟩, ff, fg, fgr⟩ := hF
  have xc : ∀ c, c ∉ O_D → c ∉ B_L → c ∉ [x_orderSums_words_, x_orderSums_stack_] → c ∉ [x_will_owner_, x_will_held_, x_will_toldOf_, x_will_toldMuch_, x_will_lawAt_] → c ∉ X_L → F c = m c := fun c a b d e g => by
    rw [fr c a b d e, X_pn hXp g, cw_put_ne (U_n a (by decide))]
  have big : ∀ y ∈ O_D ++ B_L ++ [x_orderSums_words_, x_orderSums_stack_] ++ [x_will_owner_, x_will_held_, x_will_toldOf_, x_will_toldMuch_, x_will_lawAt_] ++ X_L, 33554432 ≤ y ∧ y < m_ := by decide
  have xm : ∀ c, (c < 33554432 ∨ m_ ≤ c) → F c = m c := fun c q => by
    have z : c ∉ O_D ++ B_L ++ [x_orderSums_words_, x_orderSums_stack_] ++ [x_will_owner_, x_will_held_, x_will_toldOf_, x_will_toldMuch_, x_will_lawAt_] ++ X_L := fun y => by have := big c y; omega
    exact xc c (fun y => z (List.mem_append_left _ (List.mem_append_left _ (List.mem_append_left _ (List.mem_append_left _ y))))) (fun y => z (List.mem_append_left _ (List.mem_append_left _ (List.mem_append_left _ (List.mem_append_right _ y))))) (fun y => z (List.mem_append_left _ (List.mem_append_left _ (List.mem_append_right _ y)))) (fun y => z (List.mem_append_left _ (List.mem_append_right _ y))) (fun y => z (List.mem_append_right _ y))
  have xh : ∀ c, h_c c → F c = m c := by
    intro c q
    have z : m_ < 130023424 := by decide
    unfold h_c at q
    exact xm c (Or.inr (by omega))
  have xf : ∀ j, j ≠ 15 → j ≠ 18 → j ≠ 19 → F x_ j = m x_ j := fun j a b c => by rw [fx j a b c, X_pn hXp (by decide), cw_put_off a]
  have hkF : la_k F := ⟨fun c x y z => by rw [xm c (Or.inl y)]; exact h2.1 c x y z, fun j x y => by rw [xm m_catalan_ (Or.inr (by decide))]; exact h2.2 j x y⟩
  have hFm : F_m F (cw_put (st_m (rd_m (cw_put F m_ 45 (-1)) (-1)) Kl L (m m_ 44)) m_ 45 k) := F_mt (F_mp (by decide)) (F_mt rd_F (F_mt st_F (F_mp (by decide))))
  have em := xm m_ (Or.inr (by decide))
  have hNF : J_N n sc S F := by
    unfold J_N at hN ⊢
    rw [xm sc (Or.inl hs), xm (-1) (Or.inl (by decide))]
    exact hN
  have mx : ∀ c, c ∉ X_L → c ≠ x_ → M c = m c := fun c a b => by rw [X_pn hXp a, cw_put_ne b]
  refine J_up (by omega) (la_put (st_ok2 (rd_ok2 (la_put okF (by decide) (Or.inl rfl)))) (by decide) (Or.inl rfl)) hFm rfl hkF ⟨hKr, fW, ?_, E_s1 fs⟩ ?_ ⟨?_, ⟨?_, ?_, f15, ?_⟩, ⟨?_, ?_, fun i a b => ?_⟩, ?_, ?_, ?_⟩ hNF
  · refine ⟨⟨ff, Or.inr f18, fun q => absurd (q.symm.trans f18) (by decide)⟩, fun i q => ?_, Or.inr f19, fun q => absurd (q.symm.trans f19) (by decide)⟩
    rw [xc x_ledger_paper_sums_words_ (by decide) (by decide) (by decide) (by decide) (by decide), xc x_paper_sums_words_ (by decide) (by decide) (by decide) (by decide) (by decide)]
    exact hA.2.2.1.2.1 i q
  · show k_tab (F m_words_) 0 k_WL ∧ ∀ k, 0 ≤ k → k < 7 → 0 ≤ F m_refused_ k ∧ F m_refused_ k ≤ n
    rw [xm m_words_ (Or.inr (by decide)), xm m_refused_ (Or.inr (by decide))]
    exact hB
  · show j_R (F x_refusals_) (F m_refused_); rw [xc x_refusals_ (by decide) (by decide) (by decide) (by decide) (by decide), xm m_refused_ (Or.inr (by decide))]; exact hC.1
  · show F x_ 16 = F m_ 0; rw [xf 16 (by decide) (by decide) (by decide), em]; exact hC.2.1.1
  · show F x_ 14 = F m_ 6; rw [xf 14 (by decide) (by decide) (by decide), em]; exact hC.2.1.2.1
  · show F x_reader_ 2 = -1; rw [fr x_reader_ (by decide) (by decide) (by decide) (by decide)]; exact hXp.2.2
  · show F x_reader_ 1 = 0; rw [fr x_reader_ (by decide) (by decide) (by decide) (by decide)]; exact hXp.2.1
  · show 0 ≤ F x_reader_ 1 ∧ F x_reader_ 1 ≤ 400; rw [fr x_reader_ (by decide) (by decide) (by decide) (by decide), hXp.2.1]; decide
  · have b2 : i < F x_reader_ 1 := b
    rw [fr x_reader_ (by decide) (by decide) (by decide) (by decide), hXp.2.1] at b2
    omega
  · show j_D (F x_ 17) (F m_ 53) (F m_drawnMoved_); rw [xf 17 (by decide) (by decide) (by decide), em, xm m_drawnMoved_ (Or.inr (by decide))]; exact hC.2.2.2.1
  · show j_G (F x_log_ 0) (F x_log_what_) (F x_log_where_) (F x_log_was_) (m m_ 44) L Kl
    rw [fg, mx x_log_ (by decide) (by decide)]
    exact j_Gc hC.2.2.2.2.1 (fun i a b => by
      obtain ⟨z1, z2, z3⟩ := fgr i a b
      rw [z1, z2, z3, mx x_log_what_ (by decide) (by decide), mx x_log_where_ (by decide) (by decide), mx x_log_was_ (by decide) (by decide)]
      exact ⟨rfl, rfl, rfl⟩) hL (fun x a b => hK57 x a (by omega))
  · show j_H F Kl (F m_hasImage_) (F m_images_); rw [xm m_hasImage_ (Or.inr (by decide)), xm m_images_ (Or.inr (by decide))]
    obtain ⟨c0, c1, hd, i0, i1, ht, hv⟩ := hC.2.2.2.2.2
    have ex := xc x_images_ (by decide) (by decide) (by decide) (by decide) (by decide)
    have eN := xm (-1) (Or.inl (by decide))
    have el : ∀ i, 0 ≤ i → i < 6 → F x_will_lawAt_ i = m x_will_lawAt_ i := fun i a b => by rw [fl i a b, mx x_will_lawAt_ (by decide) (by decide)]
    refine ⟨c0, c1, hd, by rw [ex]; exact j_ie xh eN i0, by rw [ex]; exact j_ie xh eN i1, fun i x y => ?_, fun i x y => ?_⟩
    · rw [el i x (by omega)]
      rw [hK57 49 (by decide) (by decide)] at y
      exact j_te xh eN (ht i x y)
    · rw [el i x y]; exact hv i x y
theorem J_orders {n sc : Int} {S : Int → Int} (hn : n < 600) (hs : sc < 33554432) : J_P n sc S vi 200 k_C_orders k_M_orders [] := by
  intro m hI
  have hm := hI.1.1
  have hk := hI.1.2
  have hK := hI.2.1.1
  have hW := hI.2.1.2.1
  have hZ := hI.2.1.2.2.1
  have hE := hI.2.1.2.2.2
  have hB := hI.2.2.1
  have hC := hI.2.2.2.1
  have hr := J_rfb hn hB
  have hf := J_cfb hn hB hC
  have hT := hC.2.2.1
  have eT : m x_reader_ 1 = m m_ 13 := hT.1
  have hun := hC.2.2.2.2.1.1
  obtain ⟨tk, hKn⟩ := K_n0 (b := m x_reader_bytes_) (n := m x_reader_ 1) hT.2.1.1
  have hD0 : D_s m (cw_put m x_ 15 (-1)) := (D_sp D_sr (by decide))
  have hXh : X_h (cw_put m x_ 15 (-1)) tk := ⟨D_sk hD0 hk, hT.2.1, fun i a b => (hT.2.2 i a b).1, hKn⟩
  have ht13 : 0 ≤ m m_ 13 ∧ m m_ 13 ≤ 400 := by have := hT.2.1; omega
  have hpx : ∀ r, p_all (x_c (cw_put m x_ 15 (-1))) (x_v (cw_put m x_ 15 (-1))) true tk = r → p_all (k_C (m x_reader_bytes_) (m m_ 13)) (k_V (m x_reader_bytes_) (m m_ 13)) true tk = r := fun r q => by rw [← eT]; exact q
  rw [eT] at hKn
  have tl : 0 ≤ tk ∧ tk ≤ 400 := by have := hKn.1; omega
  have hb0 : ∀ i, 0 ≤ i → i < m m_ 13 → (0 ≤ m x_reader_bytes_ i ∧ m x_reader_bytes_ i ≤ 255) ∧ m m_tape_ i = cw_i2b (m x_reader_bytes_ i) := fun i a b => hT.2.2 i a (by omega)
  have kl := k_p6 (K := m m_kept_) (cd := k_C (m x_reader_bytes_) (m m_ 13)) (vl := k_V (m x_reader_bytes_) (m m_ 13)) hK tl
  have kr : K_r (k_lay (m m_kept_) 6 tk (k_C (m x_reader_bytes_) (m m_ 13)) (k_V (m x_reader_bytes_) (m m_ 13)) tk) := K_r6 hK tl
  have kq := k_l6 (K := m m_kept_) (cd := k_C (m x_reader_bytes_) (m m_ 13)) (vl := k_V (m x_reader_bytes_) (m m_ 13)) tl
  have hv : j_v (m x_will_lawAt_) := by
    obtain ⟨c0, c1, hd, i0, i1, ht, hv⟩ := hC.2.2.2.2.2
    exact hv
  have mx : ∀ M fa, X_p (cw_put m x_ 15 (-1)) M fa → ∀ c, c ∉ X_L → c ≠ x_ → M c = m c := fun M fa h c a b => by rw [X_pn h a, cw_put_ne b]
  refine C_orders (K := (k_lay (m m_kept_) 6 tk (k_C (m x_reader_bytes_) (m m_ 13)) (k_V (m x_reader_bytes_) (m m_ 13)) tk)) (L0 := m m_left0_) (u0 := m m_ 44) hm hf hXh (la_kT hk) (la_kM hk).1 (fun M hM hXp => ?_) (fun M hM hXp i a b => ?_) (fun er M hM hXp hpa => ⟨cr_ok hM, ?_, ⟨_, rfl⟩, ?_⟩) (fun Ks s M X hM hXp hpa hXt es fr fx fw rX hdn => ⟨la_put rX.1 (by decide) (Or.inl rfl), ?_, ⟨_, rfl⟩, ?_⟩) (fun Ks k M F hM hXp hpa hXt ekk hk11 hF => ⟨cr_ok hF.1, ?_, ⟨_, rfl⟩, ?_⟩)
  · have hD : D_s m M := D_st hD0 (X_pD hXp)
    have n := mx M _ hXp
    have ex : ∀ j, j ≠ 15 → M x_ j = m x_ j := fun j q => by rw [X_pn hXp (by decide), cw_put_off q]
    refine ⟨hM, ⟨kr, W_mr (by rw [n x_will_ (by decide) (by decide)]) (by rw [n x_will_ (by decide) (by decide)]) (by rw [n x_will_ (by decide) (by decide)]) (by rw [n x_will_ (by decide) (by decide)]) (by rw [n x_will_ (by decide) (by decide)]) (by rw [n x_will_ (by decide) (by decide)]) (n _ (by decide) (by decide)) (n _ (by decide) (by decide)) (n _ (by decide) (by decide)) (n _ (by decide) (by decide)) (n _ (by decide) (by decide)) (n _ (by decide) (by decide)) (n _ (by decide) (by decide)) (n _ (by decide) (by decide)) (W_qe (W_qq hW hK kq) (D_sh hD)), D_s3 hD hZ (ex 18 (by decide)) (ex 19 (by decide)) (n _ (by decide) (by decide)) kl.1 (fun i a b => kl.2 i a (by omega)) hK.1, E_s2 hE (n _ (by decide) (by decide)) (n _ (by decide) (by decide)) kl.1 (fun i a b => kl.2 i a (by omega)) hK.1⟩, ?_⟩
    rw [n x_log_ (by decide) (by decide), n x_log_what_ (by decide) (by decide), n x_log_where_ (by decide) (by decide), n x_log_was_ (by decide) (by decide)]
    exact j_GK hC.2.2.2.2.1 (fun x a b => kl.2 x a (by omega))
  · show M x_will_lawAt_ i = 0 ∨ cw_tg (M x_will_lawAt_ i) = 8
    rw [mx M _ hXp _ (by decide) (by decide)]
    exact hv i a b
  · exact J_sd hs hI (D_st hD0 (D_st (X_pD hXp) cr_D))
  · have hD : D_s m (cr_m M (-6) 4) := D_st hD0 (D_st (X_pD hXp) cr_D)
    have xm := fun c (q : m_ ≤ c) => D_sm hD q
    have em := xm m_ (by decide)
    have ek := xm m_kept_ (by decide)
    refine M_orders (b := m x_reader_bytes_) (cr_ok hM) (J_rfb hn (J_Bd hD hB)) (by rw [xm m_words_ (by decide)]; exact hB.1) (la_kC (D_sk hD hk)) (by rw [ek]; exact hK) (by rw [em]; omega) (by rw [em]; exact ht13) (fun i a b => by rw [em] at b; rw [xm m_tape_ (by decide)]; exact hb0 i a b) (fun tk' e y z b hb hU => ⟨rfl, ?_⟩) (fun tk' Ks s' y z => ?_) (fun tk' Ks k y z => ?_)
    · rw [em] at y z hU
      have et := K_n1 y hKn
      subst et
      have e1 := hpx _ hpa
      rw [z] at e1
      injection e1 with e2
      subst e2
      have w := J_r6 hn hs (J_rd hs (J_st (v := -1) hs hI) (la_put hM (by decide) (Or.inl rfl)) (X_pm (v := -1) hXp))
      rw [← cr_rd, ← cr_45] at w
      refine J_UU hs w hb ?_
      have ef : k_P (m x_reader_bytes_) (m m_ 13) e = x_P (cw_put m x_ 15 (-1)) e := by rw [← eT]; try rfl
      rw [ef] at hU
      exact hU
    · exfalso
      rw [em] at y z
      have et := K_n1 y hKn
      subst et
      have e1 := hpx _ hpa
      rw [z] at e1
      cases e1
    · exfalso
      rw [em] at y z
      have et := K_n1 y hKn
      subst et
      have e1 := hpx _ hpa
      rw [z] at e1
      cases e1
  · have z1 : (cw_put X x_ 16 0) sc = X sc := cw_put_ne (fun e => by rw [e] at hs; revert hs; decide)
    have big : ∀ y ∈ O_D ++ B_L ++ [x_orderSums_words_, x_orderSums_stack_], 33554432 ≤ y := by decide
    have z : sc ∉ O_D ++ B_L ++ [x_orderSums_words_, x_orderSums_stack_] := fun y => by have := big sc y; omega
    rw [z1, fr sc (fun y => z (List.mem_append_left _ (List.mem_append_left _ y))) (fun y => z (List.mem_append_left _ (List.mem_append_right _ y))) (fun y => z (List.mem_append_right _ y))]
    exact J_sd hs hI (D_st hD0 (X_pD hXp))
  · have am : ∀ c, m_ ≤ c → (cw_put X x_ 16 0) c = m c := fun c q => by
      have big : ∀ y ∈ O_D ++ B_L ++ [x_orderSums_words_, x_orderSums_stack_] ++ X_L, y < m_ := by decide
      have z : c ∉ O_D ++ B_L ++ [x_orderSums_words_, x_orderSums_stack_] ++ X_L := fun y => by have := big c y; omega
      have xl : x_ < m_ := by decide
      rw [cw_put_ne (by omega), fr c (fun y => z (List.mem_append_left _ (List.mem_append_left _ (List.mem_append_left _ y)))) (fun y => z (List.mem_append_left _ (List.mem_append_left _ (List.mem_append_right _ y)))) (fun y => z (List.mem_append_left _ (List.mem_append_right _ y))), mx M _ hXp c (fun y => z (List.mem_append_right _ y)) (by omega)]
    have em := am m_ (by decide)
    have ek := am m_kept_ (by decide)
    have hBA : J_B n (cw_put X x_ 16 0) := by
      unfold J_B at hB ⊢
      rw [am m_words_ (by decide), am m_refused_ (by decide)]
      exact hB
    refine M_orders (b := m x_reader_bytes_) (la_put rX.1 (by decide) (Or.inl rfl)) (J_rfb hn hBA) hBA.1 (fun j a b => by rw [am m_catalan_ (by decide)]; exact la_kC hk j a b) (by rw [ek]; exact hK) (by rw [em]; omega) (by rw [em]; exact ht13) (fun i a b => by rw [em] at b; rw [am m_tape_ (by decide)]; exact hb0 i a b) (fun tk' e y z => ?_) (fun tk' Ks' s' y z w _ _ b hb hU => ?_) (fun tk' Ks' k' y z w => ?_)
    · exfalso
      rw [em] at y z
      have et := K_n1 y hKn
      subst et
      have e1 := hpx _ hpa
      rw [z] at e1
      cases e1
    · rw [em] at y z w
      rw [ek] at w
      have et := K_n1 y hKn
      subst et
      have e1 := hpx _ hpa
      rw [z] at e1
      injection e1 with e2
      subst e2
      rw [w] at es
      injection es with es
      subst es
      refine ⟨rfl, ?_⟩
      rw [em, am m_left0_ (by decide)] at hU
      exact J_UU hs (J_ordok hn hs hI hXp fr fx fw rX) hb hU
    · exfalso
      rw [em] at y z w
      rw [ek] at w
      have et := K_n1 y hKn
      subst et
      have e1 := hpx _ hpa
      rw [z] at e1
      injection e1 with e2
      subst e2
      rw [w] at es
      cases es
  · have big : ∀ y ∈ O_D ++ B_L ++ [x_orderSums_words_, x_orderSums_stack_] ++ [x_will_owner_, x_will_held_, x_will_toldOf_, x_will_toldMuch_, x_will_lawAt_], 33554432 ≤ y := by decide
    have z : sc ∉ O_D ++ B_L ++ [x_orderSums_words_, x_orderSums_stack_] ++ [x_will_owner_, x_will_held_, x_will_toldOf_, x_will_toldMuch_, x_will_lawAt_] := fun y => by have := big sc y; omega
    rw [cr_D sc (Or.inr (Or.inl hs)), hF.2.1 sc (fun y => z (List.mem_append_left _ (List.mem_append_left _ (List.mem_append_left _ y)))) (fun y => z (List.mem_append_left _ (List.mem_append_left _ (List.mem_append_right _ y)))) (fun y => z (List.mem_append_left _ (List.mem_append_right _ y))) (fun y => z (List.mem_append_right _ y))]
    exact J_sd hs hI (D_st hD0 (X_pD hXp))
  · have fm : ∀ c, m_ ≤ c → F c = m c := fun c q => by
      have big : ∀ y ∈ O_D ++ B_L ++ [x_orderSums_words_, x_orderSums_stack_] ++ [x_will_owner_, x_will_held_, x_will_toldOf_, x_will_toldMuch_, x_will_lawAt_] ++ X_L, y < m_ := by decide
      have z : c ∉ O_D ++ B_L ++ [x_orderSums_words_, x_orderSums_stack_] ++ [x_will_owner_, x_will_held_, x_will_toldOf_, x_will_toldMuch_, x_will_lawAt_] ++ X_L := fun y => by have := big c y; omega
      have xl : x_ < m_ := by decide
      rw [hF.2.1 c (fun y => z (List.mem_append_left _ (List.mem_append_left _ (List.mem_append_left _ (List.mem_append_left _ y))))) (fun y => z (List.mem_append_left _ (List.mem_append_left _ (List.mem_append_left _ (List.mem_append_right _ y))))) (fun y => z (List.mem_append_left _ (List.mem_append_left _ (List.mem_append_right _ y)))) (fun y => z (List.mem_append_left _ (List.mem_append_right _ y))), mx M _ hXp c (fun y => z (List.mem_append_right _ y)) (by omega)]
    have am : ∀ c, m_ ≤ c → cr_m F (-3) 2 c = m c := fun c q => by rw [D_sm cr_D q, fm c q]
    have em := am m_ (by decide)
    have ek := am m_kept_ (by decide)
    have hBA : J_B n (cr_m F (-3) 2) := by
      unfold J_B at hB ⊢
      rw [am m_words_ (by decide), am m_refused_ (by decide)]
      exact hB
    refine M_orders (b := m x_reader_bytes_) (cr_ok hF.1) (J_rfb hn hBA) hBA.1 (fun j a b => by rw [am m_catalan_ (by decide)]; exact la_kC hk j a b) (by rw [ek]; exact hK) (by rw [em]; omega) (by rw [em]; exact ht13) (fun i a b => by rw [em] at b; rw [am m_tape_ (by decide)]; exact hb0 i a b) (fun tk' e y z => ?_) (fun tk' Ks' s' y z w => ?_) (fun tk' Ks' k' y z w _ b L hL hb hU => ?_)
    · exfalso
      rw [em] at y z
      have et := K_n1 y hKn
      subst et
      have e1 := hpx _ hpa
      rw [z] at e1
      cases e1
    · exfalso
      rw [em] at y z w
      rw [ek] at w
      have et := K_n1 y hKn
      subst et
      have e1 := hpx _ hpa
      rw [z] at e1
      injection e1 with e2
      subst e2
      rw [w] at ekk
      cases ekk
    · rw [em] at y z w
      rw [ek] at w
      have et := K_n1 y hKn
      subst et
      have e1 := hpx _ hpa
      rw [z] at e1
      injection e1 with e2
      subst e2
      rw [w] at ekk
      injection ekk with ekk
      subst ekk
      refine ⟨rfl, ?_⟩
      rw [em, ek] at hU
      have v := J_r3 hn hs (J_ordno (L := L) hs hI hXp kr kl.2 (fun i a b => by rw [hL i a b, am m_left0_ (by decide)]) hF)
      rw [← cr_45, ← cr_st, ← cr_rd, ← cr_45] at v
      exact J_UU hs v hb hU
