/-! Marks, undone deeds, of both (wip/whole/tools/m155.py). -/
theorem S_c1 {m a : cw_M} {K K' : Int → Int} (h : D_s m a) (hS : S_c m K) (h18 : a x_ 18 = 1) : S_c a K' := by
  refine ⟨?_, Or.inr h18, fun q => absurd (q.symm.trans h18) (by decide)⟩
  rw [h x_forest_ (Or.inl (by decide)), h x_forest_deep_ (Or.inl (by decide)), h x_forest_above_ (Or.inl (by decide))]; exact hS.1
theorem j_Gp {n : Int} {wt wh ws : Int → Int} {un : Int} {L K : Int → Int} (h : j_G n wt wh ws un L K) (hn : 0 < n) : j_G (n - 1) wt wh ws (un - 1) L (cw_up K (g_ix (wt (n - 1)) (wh (n - 1))) (ws (n - 1))) := by
  obtain ⟨⟨e0, e1, e2⟩, h3⟩ := h
  subst e0
  refine ⟨⟨rfl, by omega, by omega⟩, fun i a b => ?_⟩
  obtain ⟨q1, q2, q3⟩ := h3 i a (by omega)
  obtain ⟨p1, p2, p3⟩ := h3 (n - 1) (by omega) (by omega)
  refine ⟨q1, q2, fun x c d => ?_⟩
  rw [q3 x c d]
  by_cases z : x = g_ix (wt i) (wh i)
  · rw [if_pos z, if_pos z]
  · rw [if_neg z, if_neg z, if_pos (by omega)]
    by_cases y : i + 1 < n - 1
    · rw [if_pos y]
    · rw [if_neg y, show i + 1 = n - 1 by omega, p3 x c d, if_neg (show ¬ n - 1 + 1 < n by omega)]
      rfl
theorem j_Gk {n : Int} {wt wh ws : Int → Int} {un : Int} {L K : Int → Int} (h : j_G n wt wh ws un L K) (hn : 0 < n) : t_w K 0 0 19 (fun x => L (20 * (un - 1) + x)) = cw_up K (g_ix (wt (n - 1)) (wh (n - 1))) (ws (n - 1)) := by
  obtain ⟨⟨e0, e1, e2⟩, h3⟩ := h
  subst e0
  obtain ⟨p1, p2, p3⟩ := h3 (n - 1) (by omega) (by omega)
  have r := g_ixr p1.2.1 p1.1.1
  funext i
  unfold t_w
  by_cases q : 0 ≤ i ∧ i < 19
  · rw [if_pos (by omega), Int.sub_zero]
    show L (20 * (n - 1) + i) = _
    rw [p3 i q.1 q.2, if_neg (show ¬ n - 1 + 1 < n by omega)]
    rfl
  · rw [if_neg (by omega), cw_up_ne (by omega)]
theorem J_k4 {n sc : Int} {S : Int → Int} {m a : cw_M} {K' : Int → Int} {u : Int} (hn : n < 600) (hs : sc < 33554432) (hI : J_I n sc S m) (ha : la_ok a) (hD : D_s m a) (hA : J_A a K') (hR : a x_refusals_ = m x_refusals_) (h16 : a x_ 16 = 0) (h14 : a x_ 14 = m x_ 14) (h15 : a x_ 15 = m x_ 15) (h17 : a x_ 17 = m x_ 17) (hrd : a x_reader_ = m x_reader_) (hby : a x_reader_bytes_ = m x_reader_bytes_) (hlog : j_G (a x_log_ 0) (a x_log_what_) (a x_log_where_) (a x_log_was_) u (m m_left0_) K') (hH : j_H a K' (m m_hasImage_) (m m_images_)) : J_I (n + 1) sc S (gd_m (kr_m (cw_put a m_ 44 u) K')) := by
  obtain ⟨⟨h1, h2⟩, -, hB, hC, hN⟩ := hI
  have hm : (33554432 : Int) ≤ m_ := by decide
  obtain ⟨r, s, t, dd, -, -⟩ := hC
  have k := fun c (q : m_ ≤ c) => D_sm hD q
  have hF : F_m a (gd_m (kr_m (cw_put a m_ 44 u) K')) := F_mt (F_mp (by decide)) (F_mt kr_F gd_F)
  refine J_up (by omega) (gd_ok (kr_ok (la_put ha (by decide) (Or.inl rfl)))) hF rfl (D_sk hD h2) hA (by have z := J_Bm (J_Bd hD hB); exact z) ⟨?_, ⟨?_, ?_, ?_, ?_⟩, ?_, ?_, ?_, ?_⟩ (J_Nm hn (D_sN hs hD hN))
  · rw [hR]; show j_R _ (a m_refused_); rw [k m_refused_ (by decide)]; exact r
  · rw [h16]; rfl
  · rw [h14]; show _ = a m_ 6; rw [k m_ (by decide)]; exact s.2.1
  · rw [h15]; show _ = a m_ 45; rw [k m_ (by decide)]; exact s.2.2.1
  · rw [hrd]; show _ = a m_ 14; rw [k m_ (by decide)]; exact s.2.2.2
  · rw [hrd, hby]; show j_T _ _ (a m_ 13) (a m_tape_); rw [k m_ (by decide), k m_tape_ (by decide)]; exact t
  · rw [h17]; show j_D _ (a m_ 53) (a m_drawnMoved_); rw [k m_ (by decide), k m_drawnMoved_ (by decide)]; exact dd
  · show j_G _ _ _ _ u (a m_left0_) K'; rw [k m_left0_ (by decide)]; exact hlog
  · show j_H a K' (a m_hasImage_) (a m_images_); rw [k m_hasImage_ (by decide), k m_images_ (by decide)]; exact hH
theorem C_doMark {d : Nat} {m : cw_M} {Q : Option cw_V → cw_M → Prop} {K : Int → Int} (hm : la_ok m) (hT : ∀ j, 0 ≤ j → j < 7 → m cw_TREES j = t_c j) (hK : K_r K) (hW : W_r m K) (hZ : Z_c m K) (hs : 0 ≤ m x_log_ 0 ∧ m x_log_ 0 ≤ 16) {j x : Int} (h1 : ¬ (0 ≤ x ∧ x ≤ 3) → Q (some (vi (-1))) m) (h2 : ((0 ≤ x ∧ x ≤ 3) ∧ ¬ (0 ≤ j ∧ j < m x_will_ 0 - 1)) → Q (some (vi (-2))) m) (h3 : ((0 ≤ x ∧ x ≤ 3) ∧ (0 ≤ j ∧ j < m x_will_ 0 - 1) ∧ m x_will_marks_ j = x) → Q (some (vi (-3))) m) (hok : ((0 ≤ x ∧ x ≤ 3) ∧ (0 ≤ j ∧ j < m x_will_ 0 - 1) ∧ m x_will_marks_ j ≠ x) → ∀ X, la_ok X → S_s (cw_put (cw_put (cw_put (lg m 0 j (m x_will_marks_ j)) x_will_marks_ j x) x_ 18 1) x_settler_ 0 (-1)) X → X x_ 18 = 0 → S_c X (cw_up K j x) → Q (some (vi ((R_K (cw_up K j x)).length : Int))) X) : cw_C (d + 9) k_C_doMark [vr x_, vi j, vi x] m Q := by
  have wn : m x_will_ 0 = K 46 := hW.1
  have k46 := hK.1
  refine la_go_C hm 46 [] ?_
  refine And.intro (fun (c21 : x < 0) => ?_) (fun (c21 : ¬ (x < 0)) => ?_)
  · show Q (some (vi (-1))) (m)
    exact h1 (by omega)
  · refine And.intro (fun (c22 : x ≤ 3) => ?_) (fun (c22 : ¬ (x ≤ 3)) => ?_)
    · show cw_C _ _ [vr x_will_, vi j] (m) _
      refine Wi_hasJoin hm (by omega) (fun (aj : 0 ≤ j ∧ j < m x_will_ 0 - 1) => ⟨hm, ?_⟩) (fun (aj : ¬ (0 ≤ j ∧ j < m x_will_ 0 - 1)) => ⟨hm, ?_⟩)
      · refine br_t (show (1 : Int) ≠ 0 by decide) ?_
        refine And.intro (show 0 ≤ j ∧ j < 6 by omega) ?_
        refine And.intro (fun (c23 : m x_will_marks_ j ≠ x) => ?_) (fun (c23 : ¬ (m x_will_marks_ j ≠ x)) => ?_)
        · refine And.intro (show 0 ≤ j ∧ j < 6 by omega) ?_
          show cw_C _ _ [vr x_log_, vi 0, vi j, vi (m x_will_marks_ j)] (m) _
          refine Lo_noteQ hm hs ⟨(lg_ok hm), ?_⟩
          refine And.intro (show 0 ≤ j ∧ j < 6 by omega) ?_
          have hm24 : la_ok (cw_put (lg m 0 j (m x_will_marks_ j)) x_will_marks_ j x) := la_put (lg_ok hm) (by decide) (Or.inr (by decide))
          refine And.intro (Or.inr rfl) ?_
          have hm25 : la_ok (cw_put (cw_put (lg m 0 j (m x_will_marks_ j)) x_will_marks_ j x) x_ 18 1) := la_put hm24 (by decide) (Or.inl rfl)
          have hm26 : la_ok (cw_put (cw_put (cw_put (lg m 0 j (m x_will_marks_ j)) x_will_marks_ j x) x_ 18 1) x_settler_ 0 (-1)) := la_put hm25 (by decide) (Or.inl rfl)
          show cw_C _ _ [vr x_] (cw_put (cw_put (cw_put (lg m 0 j (m x_will_marks_ j)) x_will_marks_ j x) x_ 18 1) x_settler_ 0 (-1)) _
          have hD : D_s m (cw_put (cw_put (cw_put (lg m 0 j (m x_will_marks_ j)) x_will_marks_ j x) x_ 18 1) x_settler_ 0 (-1)) := D_st lg_D (D_sp (D_sp (D_sp D_sr (by decide)) (by decide)) (by decide))
          have hWY : W_r (cw_put (cw_put (cw_put (lg m 0 j (m x_will_marks_ j)) x_will_marks_ j x) x_ 18 1) x_settler_ 0 (-1)) (cw_up K j x) := W_mr (show lg m 0 j (m x_will_marks_ j) x_will_ 0 = m x_will_ 0 by rw [lg_ne (by decide)]) (show lg m 0 j (m x_will_marks_ j) x_will_ 4 = m x_will_ 4 by rw [lg_ne (by decide)]) (show lg m 0 j (m x_will_marks_ j) x_will_ 6 = m x_will_ 6 by rw [lg_ne (by decide)]) (show lg m 0 j (m x_will_marks_ j) x_will_ 8 = m x_will_ 8 by rw [lg_ne (by decide)]) (show lg m 0 j (m x_will_marks_ j) x_will_ 11 = m x_will_ 11 by rw [lg_ne (by decide)]) (show lg m 0 j (m x_will_marks_ j) x_will_ 13 = m x_will_ 13 by rw [lg_ne (by decide)]) (show lg m 0 j (m x_will_marks_ j) x_will_owner_ = m x_will_owner_ from lg_ne (by decide)) (show lg m 0 j (m x_will_marks_ j) x_will_kinds_ = m x_will_kinds_ from lg_ne (by decide)) (show _ = cw_up (m x_will_marks_) j x by rw [cw_put_ne (by decide), cw_put_ne (by decide), cw_put_r, lg_ne (by decide)]) (show lg m 0 j (m x_will_marks_ j) x_will_terms_ = m x_will_terms_ from lg_ne (by decide)) (show lg m 0 j (m x_will_marks_ j) x_will_held_ = m x_will_held_ from lg_ne (by decide)) (show lg m 0 j (m x_will_marks_ j) x_will_toldOf_ = m x_will_toldOf_ from lg_ne (by decide)) (show lg m 0 j (m x_will_marks_ j) x_will_toldMuch_ = m x_will_toldMuch_ from lg_ne (by decide)) (show lg m 0 j (m x_will_marks_ j) x_will_lawAt_ = m x_will_lawAt_ from lg_ne (by decide)) (W_qe (q_mk (by omega) hW) (D_sh hD))
          refine C_sift (K := (cw_up K j x)) (la_put (la_put (la_put (lg_ok hm) (by decide) (Or.inr (by decide))) (by decide) (Or.inl rfl)) (by decide) (Or.inl rfl)) (fun i a b => by rw [hD cw_TREES (Or.inr (Or.inl (by decide)))]; exact hT i a b) (by rw [cw_up_ne (by omega)]; exact hK.1) hWY (S_c1 hD hZ.1 rfl) (fun (X : cw_M) (hX : la_ok X) (hS1 : S_s (cw_put (cw_put (cw_put (lg m 0 j (m x_will_marks_ j)) x_will_marks_ j x) x_ 18 1) x_settler_ 0 (-1)) X) (h18 : X x_ 18 = 0) (hc1 : S_c X (cw_up K j x)) => ⟨hX, ?_⟩)
          show Q (some (vi ((R_K (cw_up K j x)).length : Int))) (X)
          exact hok (by omega) X hX hS1 h18 hc1
        · show Q (some (vi (-3))) (m)
          exact h3 (by omega)
      · refine br_f (show ¬ ((0 : Int) ≠ 0) by decide) ?_
        show Q (some (vi (-2))) (m)
        exact h2 (by omega)
    · show Q (some (vi (-1))) (m)
      exact h1 (by omega)
theorem C_mark {d : Nat} {m : cw_M} {Q : Option cw_V → cw_M → Prop} {K : Int → Int} (hm : la_ok m) (hT : ∀ j, 0 ≤ j → j < 7 → m cw_TREES j = t_c j) (hK : K_r K) (hW : W_r m K) (hZ : Z_c m K) (hr : c_fb m) (hs : 0 ≤ m x_log_ 0 ∧ m x_log_ 0 ≤ 16) {j x : Int} (h1 : ¬ (0 ≤ x ∧ x ≤ 3) → Q (some (vi (-1))) (cr_m m (-1) 0)) (h2 : ((0 ≤ x ∧ x ≤ 3) ∧ ¬ (0 ≤ j ∧ j < m x_will_ 0 - 1)) → Q (some (vi (-2))) (cr_m m (-2) 1)) (h3 : ((0 ≤ x ∧ x ≤ 3) ∧ (0 ≤ j ∧ j < m x_will_ 0 - 1) ∧ m x_will_marks_ j = x) → Q (some (vi (-3))) (cr_m m (-3) 2)) (hok : ((0 ≤ x ∧ x ≤ 3) ∧ (0 ≤ j ∧ j < m x_will_ 0 - 1) ∧ m x_will_marks_ j ≠ x) → ∀ X, la_ok X → S_s (cw_put (cw_put (cw_put (lg m 0 j (m x_will_marks_ j)) x_will_marks_ j x) x_ 18 1) x_settler_ 0 (-1)) X → X x_ 18 = 0 → S_c X (cw_up K j x) → Q (some (vi ((R_K (cw_up K j x)).length : Int))) (cw_put X x_ 16 0)) : cw_C (d + 10) k_C_mark [vr x_, vi j, vi x] m Q := by
  refine la_go_C hm 15 [] ?_
  show cw_C _ _ [vr x_, vi j, vi x] (m) _
  refine C_doMark hm hT hK hW hZ hs (fun a1 => ⟨hm, ?_⟩) (fun a1 => ⟨hm, ?_⟩) (fun a1 => ⟨hm, ?_⟩) (fun a1 (X : cw_M) (hX : la_ok X) (hS1 : S_s (cw_put (cw_put (cw_put (lg m 0 j (m x_will_marks_ j)) x_will_marks_ j x) x_ 18 1) x_settler_ 0 (-1)) X) (h18 : X x_ 18 = 0) (hc1 : S_c X (cw_up K j x)) => ⟨hX, ?_⟩)
  · refine br_f (show ¬ ((0 : Int) ≤ (-1)) by decide) ?_
    show cw_C _ _ [vr x_, vi (-1)] (m) _
    refine C_refuse1 hm (hr 0 (by decide) (by decide)) ⟨(cr_ok hm), ?_⟩
    show Q (some (vi (-1))) (cr_m m (-1) 0)
    exact h1 a1
  · refine br_f (show ¬ ((0 : Int) ≤ (-2)) by decide) ?_
    show cw_C _ _ [vr x_, vi (-2)] (m) _
    refine C_refuse2 hm (hr 1 (by decide) (by decide)) ⟨(cr_ok hm), ?_⟩
    show Q (some (vi (-2))) (cr_m m (-2) 1)
    exact h2 a1
  · refine br_f (show ¬ ((0 : Int) ≤ (-3)) by decide) ?_
    show cw_C _ _ [vr x_, vi (-3)] (m) _
    refine C_refuse3 hm (hr 2 (by decide) (by decide)) ⟨(cr_ok hm), ?_⟩
    show Q (some (vi (-3))) (cr_m m (-3) 2)
    exact h3 a1
  · refine And.intro (fun (c21 : 0 ≤ ((R_K (cw_up K j x)).length : Int)) => ?_) (fun (c21 : ¬ (0 ≤ ((R_K (cw_up K j x)).length : Int))) => ?_)
    · show cw_C _ _ [vr x_, vi ((R_K (cw_up K j x)).length : Int)] (X) _
      refine C_accept hX ⟨(la_put hX (by decide) (Or.inl rfl)), ?_⟩
      show Q (some (vi ((R_K (cw_up K j x)).length : Int))) (cw_put X x_ 16 0)
      exact hok a1 X hX hS1 h18 hc1
    · show cw_C _ _ [vr x_, vi ((R_K (cw_up K j x)).length : Int)] (X) _
      refine (by exfalso; omega) 
theorem J_mark {n sc : Int} {S : Int → Int} (hn : n < 600) (hs : sc < 33554432) {j x : Int} : J_P n sc S vi 200 k_C_mark k_M_mark [vi j, vi x] := by
  intro m hI
  have hm := hI.1.1
  have hk := hI.1.2
  have hK := hI.2.1.1
  have hW := hI.2.1.2.1
  have hZ := hI.2.1.2.2.1
  have hE := hI.2.1.2.2.2
  have hB := hI.2.2.1
  have hC := hI.2.2.2.1
  have hr := J_rfb hn hB
  have hf := J_cfb hn hB hC
  have hun := hC.2.2.2.2.1.1
  have k46 := hK.1
  have hmm : (33554432 : Int) ≤ m_ := by decide
  have e0 : m x_will_ 0 = m m_kept_ 46 := hW.1
  have emk := hW.2.2.2.1
  have kk := hK.2.1
  refine C_mark hm (la_kT hk) hK hW hZ hf (by omega) (fun q => ⟨cr_ok hm, J_sd hs hI cr_D, ⟨_, rfl⟩, ?_⟩) (fun q => ⟨cr_ok hm, J_sd hs hI cr_D, ⟨_, rfl⟩, ?_⟩) (fun q => ⟨cr_ok hm, J_sd hs hI cr_D, ⟨_, rfl⟩, ?_⟩) (fun q X hX hS1 h18 hc1 => ⟨la_put hX (by decide) (Or.inl rfl), ?_, ⟨_, rfl⟩, ?_⟩)
  · have e : mk_c (m m_kept_) j x = -1 := by unfold mk_c; rw [if_pos q]
    refine M_mark (cr_ok hm) (la_kC (D_sk cr_D hk)) k46 (J_rfb hn (J_Bd cr_D hB)) (show 0 ≤ m m_ 44 ∧ m m_ 44 ≤ 16 by omega) (fun y => absurd (e.symm.trans y) (by decide)) (fun _ => ?_)
    show (some (vi (mk_c (m m_kept_) j x)) = _) ∧ J_I (n + 1) sc S (rf_m (cr_m m (-1) 0) (mk_c (m m_kept_) j x))
    rw [e]; exact ⟨rfl, J_r1 hn hs hI⟩
  · have e : mk_c (m m_kept_) j x = -2 := by unfold mk_c; rw [if_neg (by omega), if_pos (by omega)]
    refine M_mark (cr_ok hm) (la_kC (D_sk cr_D hk)) k46 (J_rfb hn (J_Bd cr_D hB)) (show 0 ≤ m m_ 44 ∧ m m_ 44 ≤ 16 by omega) (fun y => absurd (e.symm.trans y) (by decide)) (fun _ => ?_)
    show (some (vi (mk_c (m m_kept_) j x)) = _) ∧ J_I (n + 1) sc S (rf_m (cr_m m (-2) 1) (mk_c (m m_kept_) j x))
    rw [e]; exact ⟨rfl, J_r2 hn hs hI⟩
  · have e : mk_c (m m_kept_) j x = -3 := by unfold mk_c; rw [if_neg (by omega), if_neg (by omega), if_pos (by rw [← emk j q.2.1.1 (by omega)]; exact q.2.2)]
    refine M_mark (cr_ok hm) (la_kC (D_sk cr_D hk)) k46 (J_rfb hn (J_Bd cr_D hB)) (show 0 ≤ m m_ 44 ∧ m m_ 44 ≤ 16 by omega) (fun y => absurd (e.symm.trans y) (by decide)) (fun _ => ?_)
    show (some (vi (mk_c (m m_kept_) j x)) = _) ∧ J_I (n + 1) sc S (rf_m (cr_m m (-3) 2) (mk_c (m m_kept_) j x))
    rw [e]; exact ⟨rfl, J_r3 hn hs hI⟩
  · have hDY : D_s m (cw_put (cw_put (cw_put (lg m 0 j (m x_will_marks_ j)) x_will_marks_ j x) x_ 18 1) x_settler_ 0 (-1)) := D_st lg_D (D_sp (D_sp (D_sp D_sr (by decide)) (by decide)) (by decide))
    rw [(show D_s X (cw_put X x_ 16 0) from (D_sp D_sr (by decide))) sc (Or.inr (Or.inl hs)), hS1.1 sc (by intro z; rw [z] at hs; revert hs; decide) (by intro z; rw [z] at hs; revert hs; decide) (by intro z; rw [z] at hs; revert hs; decide) (by intro z; rw [z] at hs; revert hs; decide) (by intro z; rw [z] at hs; revert hs; decide)] <;> exact J_sd hs hI hDY
  · have hDY : D_s m (cw_put (cw_put (cw_put (lg m 0 j (m x_will_marks_ j)) x_will_marks_ j x) x_ 18 1) x_settler_ 0 (-1)) := D_st lg_D (D_sp (D_sp (D_sp D_sr (by decide)) (by decide)) (by decide))
    have hDA : D_s X (cw_put X x_ 16 0) := (D_sp D_sr (by decide))
    have hV := S_sV hS1
    have hV2 := V_sp hV
    have xm := fun c (z : m_ ≤ c) => (V_pk hV2 c (Or.inr z)).trans (D_sm hDY z)
    have ej := emk j q.2.1.1 (by omega)
    have e : mk_c (m m_kept_) j x = 0 := by unfold mk_c; rw [if_neg (by omega), if_neg (by omega), if_neg (by rw [← ej]; exact q.2.2)]
    have ek : (cw_put X x_ 16 0) m_kept_ = m m_kept_ := (D_sm hDA (by decide)).trans (xm _ (by decide))
    have em : (cw_put X x_ 16 0) m_ = m m_ := (D_sm hDA (by decide)).trans (xm _ (by decide))
    have el : (cw_put X x_ 16 0) m_left0_ = m m_left0_ := (D_sm hDA (by decide)).trans (xm _ (by decide))
    have hkX : la_k X := V_pl hV2 (D_sk hDY hk)
    have hkA : la_k (cw_put X x_ 16 0) := D_sk hDA hkX
    have hBX : J_B n X := by
      unfold J_B at hB ⊢
      rw [xm m_words_ (by decide), xm m_refused_ (by decide)]
      exact hB
    have okA : la_ok (cw_put X x_ 16 0) := la_put hX (by decide) (Or.inl rfl)
    have kp : K_p (m m_kept_) (cw_up (m m_kept_) j x) := ⟨fun i a b => cw_up_ne (by omega), cw_up_ne (by omega), cw_up_ne (by omega), cw_up_ne (by omega), cw_up_ne (by omega), by rw [cw_up_ne (show (50 : Int) ≠ j by omega)]; exact l_foU (by omega) hK.2.2.2.2.2.2.2.2.2.2.2.2.1.1, by rw [cw_up_ne (show (49 : Int) ≠ j by omega)]; exact Int.le_refl _⟩
    have hDs : ∀ c, c ∉ [x_forest_, x_forest_deep_, x_forest_above_, x_forest_list_, x_] → X c = (cw_put (cw_put (cw_put (lg m 0 j (m x_will_marks_ j)) x_will_marks_ j x) x_ 18 1) x_settler_ 0 (-1)) c := fun c a => hS1.1 c (U_n a (by decide)) (U_n a (by decide)) (U_n a (by decide)) (U_n a (by decide)) (U_n a (by decide))
    have ln : ∀ c, c ∉ [x_log_, x_log_what_, x_log_where_, x_log_was_] → c ∉ [x_will_marks_, x_, x_settler_] → (cw_put (cw_put (cw_put (lg m 0 j (m x_will_marks_ j)) x_will_marks_ j x) x_ 18 1) x_settler_ 0 (-1)) c = m c := fun c a b => by
      rw [cw_put_ne (U_n b (by decide)), cw_put_ne (U_n b (by decide)), cw_put_ne (U_n b (by decide)), lg_ne a]
    have hWY : W_r (cw_put (cw_put (cw_put (lg m 0 j (m x_will_marks_ j)) x_will_marks_ j x) x_ 18 1) x_settler_ 0 (-1)) (cw_up (m m_kept_) j x) := by
      have hD := hDY
      exact W_mr (show lg m 0 j (m x_will_marks_ j) x_will_ 0 = m x_will_ 0 by rw [lg_ne (by decide)]) (show lg m 0 j (m x_will_marks_ j) x_will_ 4 = m x_will_ 4 by rw [lg_ne (by decide)]) (show lg m 0 j (m x_will_marks_ j) x_will_ 6 = m x_will_ 6 by rw [lg_ne (by decide)]) (show lg m 0 j (m x_will_marks_ j) x_will_ 8 = m x_will_ 8 by rw [lg_ne (by decide)]) (show lg m 0 j (m x_will_marks_ j) x_will_ 11 = m x_will_ 11 by rw [lg_ne (by decide)]) (show lg m 0 j (m x_will_marks_ j) x_will_ 13 = m x_will_ 13 by rw [lg_ne (by decide)]) (show lg m 0 j (m x_will_marks_ j) x_will_owner_ = m x_will_owner_ from lg_ne (by decide)) (show lg m 0 j (m x_will_marks_ j) x_will_kinds_ = m x_will_kinds_ from lg_ne (by decide)) (show _ = cw_up (m x_will_marks_) j x by rw [cw_put_ne (by decide), cw_put_ne (by decide), cw_put_r, lg_ne (by decide)]) (show lg m 0 j (m x_will_marks_ j) x_will_terms_ = m x_will_terms_ from lg_ne (by decide)) (show lg m 0 j (m x_will_marks_ j) x_will_held_ = m x_will_held_ from lg_ne (by decide)) (show lg m 0 j (m x_will_marks_ j) x_will_toldOf_ = m x_will_toldOf_ from lg_ne (by decide)) (show lg m 0 j (m x_will_marks_ j) x_will_toldMuch_ = m x_will_toldMuch_ from lg_ne (by decide)) (show lg m 0 j (m x_will_marks_ j) x_will_lawAt_ = m x_will_lawAt_ from lg_ne (by decide)) (W_qe (q_mk (by omega) hW) (D_sh hD))
    have hWX : W_r X (cw_up (m m_kept_) j x) := W_rV hWY hV
    have hL : lg m 0 j (m x_will_marks_ j) x_ = m x_ := lg_ne (by decide)
    have xf : ∀ i, i ≠ 18 → X x_ i = m x_ i := fun i z => by
      rw [hS1.2 i z, cw_put_ne (by decide), cw_put_off z, cw_put_ne (by decide), hL]
    have hZX : Z_c X (cw_up (m m_kept_) j x) := by
      refine ⟨hc1, fun i z => ?_, ?_, fun z => ?_⟩
      · rw [hDs _ (by decide), hDs _ (by decide), ln _ (by decide) (by decide), ln _ (by decide) (by decide)]; exact hZ.2.1 i z
      · rw [xf 19 (by decide)]; exact hZ.2.2.1
      · rw [xf 19 (by decide)] at z
        exact L_ce (L_cK (hZ.2.2.2 z) kp hK.1) (by rw [hDs _ (by decide), ln _ (by decide) (by decide)]) (by rw [hDs _ (by decide), ln _ (by decide) (by decide)]) (by rw [hDs _ (by decide), ln _ (by decide) (by decide)]) (by rw [hDs _ (by decide), ln _ (by decide) (by decide)]) (fun c y => (V_h hV2 c y).trans (D_sh hDY c y)) (by rw [hDs _ (by decide), ln _ (by decide) (by decide)])
    refine M_mark okA (la_kC hkA) (by rw [ek]; exact k46) (J_rfb hn (J_Bd hDA hBX)) (by rw [em]; omega) (fun _ b hb hS => ?_) (fun y => ?_)
    · rw [ek] at hS ⊢
      refine ⟨rfl, ?_⟩
      have hU := U_sS hS
      have hF : F_m (cw_put X x_ 16 0) (gd_m b) := F_mt (F_mt kp_F (F_mt kr_F (F_mU hU))) gd_F
      have bc : ∀ c, c ∉ U_C → c ≠ m_ → gd_m b c = kr_m (kp_m (cw_put X x_ 16 0) 0) (cw_up (m m_kept_) j x) c := fun c u v => by
        show cw_put b m_ 0 0 c = _
        rw [cw_put_ne v, hU.1 c u v]
      have bf : ∀ i, i ∉ U_F → i ≠ 0 → gd_m b m_ i = kr_m (kp_m (cw_put X x_ 16 0) 0) (cw_up (m m_kept_) j x) m_ i := fun i u v => by
        show cw_put b m_ 0 0 m_ i = _
        rw [cw_put_off v, hU.2 i u]
      refine J_up (by omega) (gd_ok hb) hF ?_ hkA ⟨?_, ?_, ?_, ?_⟩ ?_ ⟨?_, ⟨rfl, ?_, ?_, ?_⟩, ?_, ?_, ?_, ?_⟩ (J_Nm hn (D_sN hs hDA (J_NV hs hV2 (D_sN hs hDY hI.2.2.2.2))))
      · rw [bc _ (by decide) (by decide)]; rfl
      · rw [bc _ (by decide) (by decide)]; show K_r (cw_up (m m_kept_) j x); exact K_rV hK (by unfold K_v; omega)
      · rw [bc _ (by decide) (by decide)]; exact W_mr rfl rfl rfl rfl rfl rfl rfl rfl rfl rfl rfl rfl rfl rfl (W_qe hWX (D_sh hDA))
      · rw [bc _ (by decide) (by decide)]; exact D_s3 hDA hZX rfl rfl rfl K_pr (fun _ _ _ => rfl) (by show 0 ≤ (cw_up (m m_kept_) j x) 46 ∧ (cw_up (m m_kept_) j x) 46 ≤ 7; rw [cw_up_ne (by omega)]; exact hK.1)
      · refine E_s1 ?_
        show X x_settler_ 0 = -1
        rw [hDs _ (by decide)]; rfl
      · unfold J_B
        rw [bc _ (by decide) (by decide), bc _ (by decide) (by decide)]
        have z := J_Bm hBX
        exact z
      · rw [bc _ (by decide) (by decide)]
        show j_R (X x_refusals_) (X m_refused_)
        rw [hDs x_refusals_ (by decide), ln x_refusals_ (by decide) (by decide), xm m_refused_ (by decide)]; exact hC.1
      · rw [bf _ (by decide) (by decide)]
        show X x_ 14 = X m_ 6
        rw [xf 14 (by decide), xm m_ (by decide)]; exact hC.2.1.2.1
      · rw [bf _ (by decide) (by decide)]
        show X x_ 15 = X m_ 45
        rw [xf 15 (by decide), xm m_ (by decide)]; exact hC.2.1.2.2.1
      · rw [bf _ (by decide) (by decide)]
        show X x_reader_ 2 = X m_ 14
        rw [hDs x_reader_ (by decide), ln x_reader_ (by decide) (by decide), xm m_ (by decide)]; exact hC.2.1.2.2.2
      · rw [bf 13 (by decide) (by decide), bc m_tape_ (by decide) (by decide)]
        show j_T (X x_reader_ 1) (X x_reader_bytes_) (X m_ 13) (X m_tape_)
        rw [hDs x_reader_ (by decide), ln x_reader_ (by decide) (by decide), hDs x_reader_bytes_ (by decide), ln x_reader_bytes_ (by decide) (by decide), xm m_ (by decide), xm m_tape_ (by decide)]; exact hC.2.2.1
      · rw [bf 53 (by decide) (by decide), bc m_drawnMoved_ (by decide) (by decide)]
        show j_D (X x_ 17) (X m_ 53) (X m_drawnMoved_)
        rw [xf 17 (by decide), xm m_ (by decide), xm m_drawnMoved_ (by decide)]; exact hC.2.2.2.1
      · rw [bf 44 (by decide) (by decide), bc m_left0_ (by decide) (by decide), bc m_kept_ (by decide) (by decide)]
        show j_G (X x_log_ 0) (X x_log_what_) (X x_log_where_) (X x_log_was_) (kp_n ((cw_put X x_ 16 0) m_ 44) + 1) (kp_l ((cw_put X x_ 16 0) m_left0_) ((cw_put X x_ 16 0) m_ 44) ((cw_put X x_ 16 0) m_kept_) 0) (cw_up (m m_kept_) j x)
        rw [em, el, ek, hDs x_log_ (by decide), hDs x_log_what_ (by decide), hDs x_log_where_ (by decide), hDs x_log_was_ (by decide)]
        have z := lg_G (de := 0) (pl := j) (ol := m x_will_marks_ j) (v := x) hC.2.2.2.2.1 ej (by decide) (fun _ => ⟨q.2.1.1, by omega⟩) (fun z => absurd z (by decide)) (by have z := kk j q.2.1.1 (by omega); show K_u j (m m_kept_ j); unfold K_u; omega)
        exact z
      · rw [bc m_kept_ (by decide) (by decide), bc m_hasImage_ (by decide) (by decide), bc m_images_ (by decide) (by decide)]
        show j_H (cw_put X x_ 16 0) (cw_up (m m_kept_) j x) (X m_hasImage_) (X m_images_)
        rw [xm m_hasImage_ (by decide), xm m_images_ (by decide)]
        have z1 := j_Hd hDY (show (cw_up (m m_kept_) j x) 49 = m m_kept_ 49 from cw_up_ne (by omega)) (ln _ (by decide) (by decide)) hC.2.2.2.2.2
        have z2 := j_He (V_h hV2) (V_pk hV2 (-1) (Or.inl (by decide))) (hDs x_images_ (by decide)) (hDs x_will_lawAt_ (by decide)) z1
        exact j_Hd hDA rfl rfl z2
    · rw [ek, e] at y; exact absurd y (by decide)
theorem C_undo {d : Nat} {m : cw_M} {Q : Option cw_V → cw_M → Prop} (hm : la_ok m) (hr : c_fb m) (hs : 0 ≤ m x_log_ 0 ∧ m x_log_ 0 ≤ 16) (hw : 0 < m x_log_ 0 → (0 ≤ (m x_log_what_ (m x_log_ 0 - 1)) ∧ (m x_log_what_ (m x_log_ 0 - 1)) ≤ 3) ∧ ((m x_log_what_ (m x_log_ 0 - 1)) ≤ 2 → 0 ≤ (m x_log_where_ (m x_log_ 0 - 1)) ∧ (m x_log_where_ (m x_log_ 0 - 1)) < 6)) (h3 : m x_log_ 0 = 0 → Q (some (vi (-3))) (cr_m m (-3) 2)) (k0 : 0 < m x_log_ 0 → (m x_log_what_ (m x_log_ 0 - 1)) = 0 → Q (some (vi (m x_log_what_ (m x_log_ 0 - 1)))) (cw_put (cw_put (cw_put (cw_put (cw_put (cw_put m x_log_ 0 (m x_log_ 0 - 1)) x_will_marks_ (m x_log_where_ (m x_log_ 0 - 1)) (m x_log_was_ (m x_log_ 0 - 1))) x_ 18 1) x_ 19 1) x_settler_ 0 (-1)) x_ 16 0)) (k1 : 0 < m x_log_ 0 → (m x_log_what_ (m x_log_ 0 - 1)) = 1 → Q (some (vi (m x_log_what_ (m x_log_ 0 - 1)))) (cw_put (cw_put (cw_put (cw_put (cw_put (cw_put m x_log_ 0 (m x_log_ 0 - 1)) x_will_kinds_ (m x_log_where_ (m x_log_ 0 - 1)) (m x_log_was_ (m x_log_ 0 - 1))) x_ 18 1) x_ 19 1) x_settler_ 0 (-1)) x_ 16 0)) (k2 : 0 < m x_log_ 0 → (m x_log_what_ (m x_log_ 0 - 1)) = 2 → Q (some (vi (m x_log_what_ (m x_log_ 0 - 1)))) (cw_put (cw_put (cw_put (cw_put (cw_put (cw_put m x_log_ 0 (m x_log_ 0 - 1)) x_will_ 4 (cw_ior (m x_will_ 4) (cw_ishl 1 (m x_log_where_ (m x_log_ 0 - 1))))) x_ 18 1) x_ 19 1) x_settler_ 0 (-1)) x_ 16 0)) (k3 : 0 < m x_log_ 0 → (m x_log_what_ (m x_log_ 0 - 1)) = 3 → Q (some (vi (m x_log_what_ (m x_log_ 0 - 1)))) (cw_put (cw_put (cw_put (cw_put (cw_put (cw_put m x_log_ 0 (m x_log_ 0 - 1)) x_will_terms_ 0 (m x_log_was_ (m x_log_ 0 - 1))) x_ 18 1) x_ 19 1) x_settler_ 0 (-1)) x_ 16 0)) : cw_C (d + 2) k_C_undo [vr x_] m Q := by
  refine la_go_C hm 30 [57] ?_
  refine And.intro (fun (c21 : 0 < m x_log_ 0) => ?_) (fun (c21 : ¬ (0 < m x_log_ 0)) => ?_)
  · refine And.intro (show -2147483648 ≤ (m x_log_ 0) - 1 ∧ (m x_log_ 0) - 1 < 2147483648 by omega) ?_
    have hm22 : la_ok (cw_put m x_log_ 0 ((m x_log_ 0) - 1)) := la_put hm (by decide) (Or.inl rfl)
    refine And.intro (show 0 ≤ (m x_log_ 0) - 1 ∧ (m x_log_ 0) - 1 < 16 by omega) ?_
    refine And.intro (show 0 ≤ (m x_log_ 0) - 1 ∧ (m x_log_ 0) - 1 < 16 by omega) ?_
    refine la_ts rfl ?_
    show cw_R _ _ (cw_ts 57 87 0 2 #[27, 48, 69] (m x_log_what_ (m x_log_ 0 - 1))) _ _ _ _
    by_cases k23 : m x_log_what_ ((m x_log_ 0) - 1) = 0
    · rw [k23]
      show cw_R _ _ 84 _ _ _ _
      refine la_go_R hm22 24 [57] ?_
      refine And.intro (show 0 ≤ (m x_log_ 0) - 1 ∧ (m x_log_ 0) - 1 < 16 by omega) ?_
      refine And.intro (show 0 ≤ m x_log_where_ ((m x_log_ 0) - 1) ∧ m x_log_where_ ((m x_log_ 0) - 1) < 6 by omega) ?_
      have hm24 : la_ok (cw_put (cw_put m x_log_ 0 ((m x_log_ 0) - 1)) x_will_marks_ (m x_log_where_ ((m x_log_ 0) - 1)) (m x_log_was_ ((m x_log_ 0) - 1))) := la_put hm22 (by decide) (Or.inr (by decide))
      show cw_C _ _ [vr x_] (cw_put (cw_put m x_log_ 0 ((m x_log_ 0) - 1)) x_will_marks_ (m x_log_where_ ((m x_log_ 0) - 1)) (m x_log_was_ ((m x_log_ 0) - 1))) _
      refine C_rewritten hm24 ⟨(la_put (la_put (la_put hm24 (by decide) (Or.inl rfl)) (by decide) (Or.inl rfl)) (by decide) (Or.inl rfl)), ?_⟩
      refine And.intro (show 0 ≤ (m x_log_ 0) - 1 ∧ (m x_log_ 0) - 1 < 16 by omega) ?_
      show cw_C _ _ [vr x_, vi ((cw_put (cw_put (cw_put (cw_put (cw_put m x_log_ 0 ((m x_log_ 0) - 1)) x_will_marks_ (m x_log_where_ ((m x_log_ 0) - 1)) (m x_log_was_ ((m x_log_ 0) - 1))) x_ 18 1) x_ 19 1) x_settler_ 0 (-1)) x_log_what_ ((m x_log_ 0) - 1))] (cw_put (cw_put (cw_put (cw_put (cw_put m x_log_ 0 ((m x_log_ 0) - 1)) x_will_marks_ (m x_log_where_ ((m x_log_ 0) - 1)) (m x_log_was_ ((m x_log_ 0) - 1))) x_ 18 1) x_ 19 1) x_settler_ 0 (-1)) _
      refine C_accept (la_put (la_put (la_put hm24 (by decide) (Or.inl rfl)) (by decide) (Or.inl rfl)) (by decide) (Or.inl rfl)) ⟨(la_put (la_put (la_put (la_put hm24 (by decide) (Or.inl rfl)) (by decide) (Or.inl rfl)) (by decide) (Or.inl rfl)) (by decide) (Or.inl rfl)), ?_⟩
      show Q (some (vi ((cw_put (cw_put (cw_put (cw_put (cw_put m x_log_ 0 ((m x_log_ 0) - 1)) x_will_marks_ (m x_log_where_ ((m x_log_ 0) - 1)) (m x_log_was_ ((m x_log_ 0) - 1))) x_ 18 1) x_ 19 1) x_settler_ 0 (-1)) x_log_what_ ((m x_log_ 0) - 1)))) (cw_put (cw_put (cw_put (cw_put (cw_put (cw_put m x_log_ 0 ((m x_log_ 0) - 1)) x_will_marks_ (m x_log_where_ ((m x_log_ 0) - 1)) (m x_log_was_ ((m x_log_ 0) - 1))) x_ 18 1) x_ 19 1) x_settler_ 0 (-1)) x_ 16 0)
      exact k0 (by omega) (by omega)
    by_cases k25 : m x_log_what_ ((m x_log_ 0) - 1) = 1
    · rw [k25]
      show cw_R _ _ 105 _ _ _ _
      refine la_go_R hm22 24 [57] ?_
      refine And.intro (show 0 ≤ (m x_log_ 0) - 1 ∧ (m x_log_ 0) - 1 < 16 by omega) ?_
      refine And.intro (show 0 ≤ m x_log_where_ ((m x_log_ 0) - 1) ∧ m x_log_where_ ((m x_log_ 0) - 1) < 6 by omega) ?_
      have hm26 : la_ok (cw_put (cw_put m x_log_ 0 ((m x_log_ 0) - 1)) x_will_kinds_ (m x_log_where_ ((m x_log_ 0) - 1)) (m x_log_was_ ((m x_log_ 0) - 1))) := la_put hm22 (by decide) (Or.inr (by decide))
      show cw_C _ _ [vr x_] (cw_put (cw_put m x_log_ 0 ((m x_log_ 0) - 1)) x_will_kinds_ (m x_log_where_ ((m x_log_ 0) - 1)) (m x_log_was_ ((m x_log_ 0) - 1))) _
      refine C_rewritten hm26 ⟨(la_put (la_put (la_put hm26 (by decide) (Or.inl rfl)) (by decide) (Or.inl rfl)) (by decide) (Or.inl rfl)), ?_⟩
      refine And.intro (show 0 ≤ (m x_log_ 0) - 1 ∧ (m x_log_ 0) - 1 < 16 by omega) ?_
      show cw_C _ _ [vr x_, vi ((cw_put (cw_put (cw_put (cw_put (cw_put m x_log_ 0 ((m x_log_ 0) - 1)) x_will_kinds_ (m x_log_where_ ((m x_log_ 0) - 1)) (m x_log_was_ ((m x_log_ 0) - 1))) x_ 18 1) x_ 19 1) x_settler_ 0 (-1)) x_log_what_ ((m x_log_ 0) - 1))] (cw_put (cw_put (cw_put (cw_put (cw_put m x_log_ 0 ((m x_log_ 0) - 1)) x_will_kinds_ (m x_log_where_ ((m x_log_ 0) - 1)) (m x_log_was_ ((m x_log_ 0) - 1))) x_ 18 1) x_ 19 1) x_settler_ 0 (-1)) _
      refine C_accept (la_put (la_put (la_put hm26 (by decide) (Or.inl rfl)) (by decide) (Or.inl rfl)) (by decide) (Or.inl rfl)) ⟨(la_put (la_put (la_put (la_put hm26 (by decide) (Or.inl rfl)) (by decide) (Or.inl rfl)) (by decide) (Or.inl rfl)) (by decide) (Or.inl rfl)), ?_⟩
      show Q (some (vi ((cw_put (cw_put (cw_put (cw_put (cw_put m x_log_ 0 ((m x_log_ 0) - 1)) x_will_kinds_ (m x_log_where_ ((m x_log_ 0) - 1)) (m x_log_was_ ((m x_log_ 0) - 1))) x_ 18 1) x_ 19 1) x_settler_ 0 (-1)) x_log_what_ ((m x_log_ 0) - 1)))) (cw_put (cw_put (cw_put (cw_put (cw_put (cw_put m x_log_ 0 ((m x_log_ 0) - 1)) x_will_kinds_ (m x_log_where_ ((m x_log_ 0) - 1)) (m x_log_was_ ((m x_log_ 0) - 1))) x_ 18 1) x_ 19 1) x_settler_ 0 (-1)) x_ 16 0)
      exact k1 (by omega) (by omega)
    by_cases k27 : m x_log_what_ ((m x_log_ 0) - 1) = 2
    · rw [k27]
      show cw_R _ _ 126 _ _ _ _
      refine la_go_R hm22 23 [57] ?_
      have hm28 : la_ok (cw_put (cw_put m x_log_ 0 ((m x_log_ 0) - 1)) x_will_ 4 (cw_ior (m x_will_ 4) (cw_ishl 1 (m x_log_where_ ((m x_log_ 0) - 1))))) := la_put hm22 (by decide) (Or.inl rfl)
      show cw_C _ _ [vr x_] (cw_put (cw_put m x_log_ 0 ((m x_log_ 0) - 1)) x_will_ 4 (cw_ior (m x_will_ 4) (cw_ishl 1 (m x_log_where_ ((m x_log_ 0) - 1))))) _
      refine C_rewritten hm28 ⟨(la_put (la_put (la_put hm28 (by decide) (Or.inl rfl)) (by decide) (Or.inl rfl)) (by decide) (Or.inl rfl)), ?_⟩
      refine And.intro (show 0 ≤ (m x_log_ 0) - 1 ∧ (m x_log_ 0) - 1 < 16 by omega) ?_
      show cw_C _ _ [vr x_, vi ((cw_put (cw_put (cw_put (cw_put (cw_put m x_log_ 0 ((m x_log_ 0) - 1)) x_will_ 4 (cw_ior (m x_will_ 4) (cw_ishl 1 (m x_log_where_ ((m x_log_ 0) - 1))))) x_ 18 1) x_ 19 1) x_settler_ 0 (-1)) x_log_what_ ((m x_log_ 0) - 1))] (cw_put (cw_put (cw_put (cw_put (cw_put m x_log_ 0 ((m x_log_ 0) - 1)) x_will_ 4 (cw_ior (m x_will_ 4) (cw_ishl 1 (m x_log_where_ ((m x_log_ 0) - 1))))) x_ 18 1) x_ 19 1) x_settler_ 0 (-1)) _
      refine C_accept (la_put (la_put (la_put hm28 (by decide) (Or.inl rfl)) (by decide) (Or.inl rfl)) (by decide) (Or.inl rfl)) ⟨(la_put (la_put (la_put (la_put hm28 (by decide) (Or.inl rfl)) (by decide) (Or.inl rfl)) (by decide) (Or.inl rfl)) (by decide) (Or.inl rfl)), ?_⟩
      show Q (some (vi ((cw_put (cw_put (cw_put (cw_put (cw_put m x_log_ 0 ((m x_log_ 0) - 1)) x_will_ 4 (cw_ior (m x_will_ 4) (cw_ishl 1 (m x_log_where_ ((m x_log_ 0) - 1))))) x_ 18 1) x_ 19 1) x_settler_ 0 (-1)) x_log_what_ ((m x_log_ 0) - 1)))) (cw_put (cw_put (cw_put (cw_put (cw_put (cw_put m x_log_ 0 ((m x_log_ 0) - 1)) x_will_ 4 (cw_ior (m x_will_ 4) (cw_ishl 1 (m x_log_where_ ((m x_log_ 0) - 1))))) x_ 18 1) x_ 19 1) x_settler_ 0 (-1)) x_ 16 0)
      exact k2 (by omega) (by omega)
    rw [la_tsd (by omega)]
    show cw_R _ _ 144 _ _ _ _
    refine la_go_R hm22 23 [57] ?_
    refine And.intro (show 0 ≤ (m x_log_ 0) - 1 ∧ (m x_log_ 0) - 1 < 16 by omega) ?_
    refine And.intro (show 0 ≤ 0 ∧ 0 < 4 by omega) ?_
    have hm29 : la_ok (cw_put (cw_put m x_log_ 0 ((m x_log_ 0) - 1)) x_will_terms_ 0 (m x_log_was_ ((m x_log_ 0) - 1))) := la_put hm22 (by decide) (Or.inr (by decide))
    show cw_C _ _ [vr x_] (cw_put (cw_put m x_log_ 0 ((m x_log_ 0) - 1)) x_will_terms_ 0 (m x_log_was_ ((m x_log_ 0) - 1))) _
    refine C_rewritten hm29 ⟨(la_put (la_put (la_put hm29 (by decide) (Or.inl rfl)) (by decide) (Or.inl rfl)) (by decide) (Or.inl rfl)), ?_⟩
    refine And.intro (show 0 ≤ (m x_log_ 0) - 1 ∧ (m x_log_ 0) - 1 < 16 by omega) ?_
    show cw_C _ _ [vr x_, vi ((cw_put (cw_put (cw_put (cw_put (cw_put m x_log_ 0 ((m x_log_ 0) - 1)) x_will_terms_ 0 (m x_log_was_ ((m x_log_ 0) - 1))) x_ 18 1) x_ 19 1) x_settler_ 0 (-1)) x_log_what_ ((m x_log_ 0) - 1))] (cw_put (cw_put (cw_put (cw_put (cw_put m x_log_ 0 ((m x_log_ 0) - 1)) x_will_terms_ 0 (m x_log_was_ ((m x_log_ 0) - 1))) x_ 18 1) x_ 19 1) x_settler_ 0 (-1)) _
    refine C_accept (la_put (la_put (la_put hm29 (by decide) (Or.inl rfl)) (by decide) (Or.inl rfl)) (by decide) (Or.inl rfl)) ⟨(la_put (la_put (la_put (la_put hm29 (by decide) (Or.inl rfl)) (by decide) (Or.inl rfl)) (by decide) (Or.inl rfl)) (by decide) (Or.inl rfl)), ?_⟩
    show Q (some (vi ((cw_put (cw_put (cw_put (cw_put (cw_put m x_log_ 0 ((m x_log_ 0) - 1)) x_will_terms_ 0 (m x_log_was_ ((m x_log_ 0) - 1))) x_ 18 1) x_ 19 1) x_settler_ 0 (-1)) x_log_what_ ((m x_log_ 0) - 1)))) (cw_put (cw_put (cw_put (cw_put (cw_put (cw_put m x_log_ 0 ((m x_log_ 0) - 1)) x_will_terms_ 0 (m x_log_was_ ((m x_log_ 0) - 1))) x_ 18 1) x_ 19 1) x_settler_ 0 (-1)) x_ 16 0)
    exact k3 (by omega) (by omega)
  · show cw_C _ _ [vr x_, vi (-3)] (m) _
    refine C_refuse3 hm (hr 2 (by decide) (by decide)) ⟨(cr_ok hm), ?_⟩
    show Q (some (vi (-3))) (cr_m m (-3) 2)
    exact h3 (by omega)
theorem J_undo {n sc : Int} {S : Int → Int} (hn : n < 600) (hs : sc < 33554432) : J_P n sc S vi 200 k_C_undo k_M_undo [] := by
  intro m hI
  have hm := hI.1.1
  have hk := hI.1.2
  have hK := hI.2.1.1
  have hW := hI.2.1.2.1
  have hZ := hI.2.1.2.2.1
  have hE := hI.2.1.2.2.2
  have hB := hI.2.2.1
  have hC := hI.2.2.2.1
  have hr := J_rfb hn hB
  have hf := J_cfb hn hB hC
  have hG := hC.2.2.2.2.1
  have hun := hG.1
  have kk := fun (z : 0 < m x_log_ 0) => hG.2 (m x_log_ 0 - 1) (by omega) (by omega)
  have k46 := hK.1
  refine C_undo hm hf (by omega) (fun z => ⟨(kk z).1.1, (kk z).1.2.1⟩) (fun q => ⟨cr_ok hm, J_sd hs hI cr_D, ⟨_, rfl⟩, ?_⟩) (fun q qw => ⟨(la_put (la_put (la_put (la_put (la_put (la_put hm (by decide) (Or.inl rfl)) (by decide) (Or.inr (by decide))) (by decide) (Or.inl rfl)) (by decide) (Or.inl rfl)) (by decide) (Or.inl rfl)) (by decide) (Or.inl rfl)), J_sd hs hI (D_sp (D_sp (D_sp (D_sp (D_sp (D_sp D_sr (by decide)) (by decide)) (by decide)) (by decide)) (by decide)) (by decide)), ⟨_, rfl⟩, ?_⟩) (fun q qw => ⟨(la_put (la_put (la_put (la_put (la_put (la_put hm (by decide) (Or.inl rfl)) (by decide) (Or.inr (by decide))) (by decide) (Or.inl rfl)) (by decide) (Or.inl rfl)) (by decide) (Or.inl rfl)) (by decide) (Or.inl rfl)), J_sd hs hI (D_sp (D_sp (D_sp (D_sp (D_sp (D_sp D_sr (by decide)) (by decide)) (by decide)) (by decide)) (by decide)) (by decide)), ⟨_, rfl⟩, ?_⟩) (fun q qw => ⟨(la_put (la_put (la_put (la_put (la_put (la_put hm (by decide) (Or.inl rfl)) (by decide) (Or.inl rfl)) (by decide) (Or.inl rfl)) (by decide) (Or.inl rfl)) (by decide) (Or.inl rfl)) (by decide) (Or.inl rfl)), J_sd hs hI (D_sp (D_sp (D_sp (D_sp (D_sp (D_sp D_sr (by decide)) (by decide)) (by decide)) (by decide)) (by decide)) (by decide)), ⟨_, rfl⟩, ?_⟩) (fun q qw => ⟨(la_put (la_put (la_put (la_put (la_put (la_put hm (by decide) (Or.inl rfl)) (by decide) (Or.inr (by decide))) (by decide) (Or.inl rfl)) (by decide) (Or.inl rfl)) (by decide) (Or.inl rfl)) (by decide) (Or.inl rfl)), J_sd hs hI (D_sp (D_sp (D_sp (D_sp (D_sp (D_sp D_sr (by decide)) (by decide)) (by decide)) (by decide)) (by decide)) (by decide)), ⟨_, rfl⟩, ?_⟩)
  · exact M_undo (cr_ok hm) (J_rfb hn (J_Bd cr_D hB)) (show 0 ≤ m m_ 44 ∧ m m_ 44 ≤ 16 by omega) (fun y => absurd (show 0 < m m_ 44 from y) (by omega)) (fun _ => ⟨rfl, J_r3 hn hs hI⟩)
  · have hD : D_s m (cw_put (cw_put (cw_put (cw_put (cw_put (cw_put m x_log_ 0 (m x_log_ 0 - 1)) x_will_marks_ (m x_log_where_ (m x_log_ 0 - 1)) (m x_log_was_ (m x_log_ 0 - 1))) x_ 18 1) x_ 19 1) x_settler_ 0 (-1)) x_ 16 0) := (D_sp (D_sp (D_sp (D_sp (D_sp (D_sp D_sr (by decide)) (by decide)) (by decide)) (by decide)) (by decide)) (by decide))
    obtain ⟨hr1, hr2, -⟩ := kk q
    have gi : g_ix (m x_log_what_ (m x_log_ 0 - 1)) (m x_log_where_ (m x_log_ 0 - 1)) = (m x_log_where_ (m x_log_ 0 - 1)) := by rw [qw]; rfl
    have ww : (m x_log_was_ (m x_log_ 0 - 1)) = (m x_log_was_ (m x_log_ 0 - 1)) := rfl
    have hu : K_u (m x_log_where_ (m x_log_ 0 - 1)) (m x_log_was_ (m x_log_ 0 - 1)) := by
      have z := hr1.2.2.2
      rw [gi, ww] at z
      exact z
    have ek := j_Gk hG q
    rw [gi, ww] at ek
    refine M_undo (la_put (la_put (la_put (la_put (la_put (la_put hm (by decide) (Or.inl rfl)) (by decide) (Or.inr (by decide))) (by decide) (Or.inl rfl)) (by decide) (Or.inl rfl)) (by decide) (Or.inl rfl)) (by decide) (Or.inl rfl)) (J_rfb hn (J_Bd hD hB)) (show 0 ≤ m m_ 44 ∧ m m_ 44 ≤ 16 by omega) (fun y => ⟨?_, ?_⟩) (fun y => absurd (show m m_ 44 = 0 from y) (by omega))
    · show some (vi (m m_left0_ (20 * (m m_ 44 - 1) + 19))) = some (vi (m x_log_what_ (m x_log_ 0 - 1)))
      rw [← hun.1, hr2]
    · show J_I (n + 1) sc S (gd_m (kr_m (cw_put (cw_put (cw_put (cw_put (cw_put (cw_put (cw_put m x_log_ 0 (m x_log_ 0 - 1)) x_will_marks_ (m x_log_where_ (m x_log_ 0 - 1)) (m x_log_was_ (m x_log_ 0 - 1))) x_ 18 1) x_ 19 1) x_settler_ 0 (-1)) x_ 16 0) m_ 44 (m m_ 44 - 1)) (t_w (m m_kept_) 0 0 19 (fun x => m m_left0_ (20 * (m m_ 44 - 1) + x)))))
      rw [ek]
      refine J_k4 hn hs hI (la_put (la_put (la_put (la_put (la_put (la_put hm (by decide) (Or.inl rfl)) (by decide) (Or.inr (by decide))) (by decide) (Or.inl rfl)) (by decide) (Or.inl rfl)) (by decide) (Or.inl rfl)) (by decide) (Or.inl rfl)) hD ⟨K_rU hK hu, ?_, D_sS hD hZ rfl rfl, E_s1 rfl⟩ rfl rfl rfl rfl rfl rfl rfl ?_ ?_
      · exact W_mr rfl rfl rfl rfl rfl rfl rfl rfl (show _ = cw_up (m x_will_marks_) (m x_log_where_ (m x_log_ 0 - 1)) (m x_log_was_ (m x_log_ 0 - 1)) by rw [cw_put_ne (by decide), cw_put_ne (by decide), cw_put_ne (by decide), cw_put_ne (by decide), cw_put_r, cw_put_ne (by decide)]) rfl rfl rfl rfl rfl (W_qe (q_mk (hr1.2.1 (by omega)) hW) (D_sh hD))
      · have z := j_Gp hG q
        rw [gi, ww] at z
        exact z
      · exact j_Hd hD (cw_up_ne (by unfold K_u at hu; omega)) rfl hC.2.2.2.2.2
  · have hD : D_s m (cw_put (cw_put (cw_put (cw_put (cw_put (cw_put m x_log_ 0 (m x_log_ 0 - 1)) x_will_kinds_ (m x_log_where_ (m x_log_ 0 - 1)) (m x_log_was_ (m x_log_ 0 - 1))) x_ 18 1) x_ 19 1) x_settler_ 0 (-1)) x_ 16 0) := (D_sp (D_sp (D_sp (D_sp (D_sp (D_sp D_sr (by decide)) (by decide)) (by decide)) (by decide)) (by decide)) (by decide))
    obtain ⟨hr1, hr2, -⟩ := kk q
    have gi : g_ix (m x_log_what_ (m x_log_ 0 - 1)) (m x_log_where_ (m x_log_ 0 - 1)) = (6 + (m x_log_where_ (m x_log_ 0 - 1))) := by rw [qw]; rfl
    have ww : (m x_log_was_ (m x_log_ 0 - 1)) = (m x_log_was_ (m x_log_ 0 - 1)) := rfl
    have hu : K_u (6 + (m x_log_where_ (m x_log_ 0 - 1))) (m x_log_was_ (m x_log_ 0 - 1)) := by
      have z := hr1.2.2.2
      rw [gi, ww] at z
      exact z
    have ek := j_Gk hG q
    rw [gi, ww] at ek
    refine M_undo (la_put (la_put (la_put (la_put (la_put (la_put hm (by decide) (Or.inl rfl)) (by decide) (Or.inr (by decide))) (by decide) (Or.inl rfl)) (by decide) (Or.inl rfl)) (by decide) (Or.inl rfl)) (by decide) (Or.inl rfl)) (J_rfb hn (J_Bd hD hB)) (show 0 ≤ m m_ 44 ∧ m m_ 44 ≤ 16 by omega) (fun y => ⟨?_, ?_⟩) (fun y => absurd (show m m_ 44 = 0 from y) (by omega))
    · show some (vi (m m_left0_ (20 * (m m_ 44 - 1) + 19))) = some (vi (m x_log_what_ (m x_log_ 0 - 1)))
      rw [← hun.1, hr2]
    · show J_I (n + 1) sc S (gd_m (kr_m (cw_put (cw_put (cw_put (cw_put (cw_put (cw_put (cw_put m x_log_ 0 (m x_log_ 0 - 1)) x_will_kinds_ (m x_log_where_ (m x_log_ 0 - 1)) (m x_log_was_ (m x_log_ 0 - 1))) x_ 18 1) x_ 19 1) x_settler_ 0 (-1)) x_ 16 0) m_ 44 (m m_ 44 - 1)) (t_w (m m_kept_) 0 0 19 (fun x => m m_left0_ (20 * (m m_ 44 - 1) + x)))))
      rw [ek]
      refine J_k4 hn hs hI (la_put (la_put (la_put (la_put (la_put (la_put hm (by decide) (Or.inl rfl)) (by decide) (Or.inr (by decide))) (by decide) (Or.inl rfl)) (by decide) (Or.inl rfl)) (by decide) (Or.inl rfl)) (by decide) (Or.inl rfl)) hD ⟨K_rU hK hu, ?_, D_sS hD hZ rfl rfl, E_s1 rfl⟩ rfl rfl rfl rfl rfl rfl rfl ?_ ?_
      · exact W_mr rfl rfl rfl rfl rfl rfl rfl (show _ = cw_up (m x_will_kinds_) (m x_log_where_ (m x_log_ 0 - 1)) (m x_log_was_ (m x_log_ 0 - 1)) by rw [cw_put_ne (by decide), cw_put_ne (by decide), cw_put_ne (by decide), cw_put_ne (by decide), cw_put_r, cw_put_ne (by decide)]) rfl rfl rfl rfl rfl rfl (W_qe (q_kd (hr1.2.1 (by omega)) hW) (D_sh hD))
      · have z := j_Gp hG q
        rw [gi, ww] at z
        exact z
      · exact j_Hd hD (cw_up_ne (by unfold K_u at hu; omega)) rfl hC.2.2.2.2.2
  · have hD : D_s m (cw_put (cw_put (cw_put (cw_put (cw_put (cw_put m x_log_ 0 (m x_log_ 0 - 1)) x_will_ 4 (cw_ior (m x_will_ 4) (cw_ishl 1 (m x_log_where_ (m x_log_ 0 - 1))))) x_ 18 1) x_ 19 1) x_settler_ 0 (-1)) x_ 16 0) := (D_sp (D_sp (D_sp (D_sp (D_sp (D_sp D_sr (by decide)) (by decide)) (by decide)) (by decide)) (by decide)) (by decide))
    obtain ⟨hr1, hr2, -⟩ := kk q
    have gi : g_ix (m x_log_what_ (m x_log_ 0 - 1)) (m x_log_where_ (m x_log_ 0 - 1)) = (12 + (m x_log_where_ (m x_log_ 0 - 1))) := by rw [qw]; rfl
    have ww : (m x_log_was_ (m x_log_ 0 - 1)) = 1 := hr1.2.2.1 qw
    have hu : K_u (12 + (m x_log_where_ (m x_log_ 0 - 1))) 1 := by
      have z := hr1.2.2.2
      rw [gi, ww] at z
      exact z
    have ek := j_Gk hG q
    rw [gi, ww] at ek
    refine M_undo (la_put (la_put (la_put (la_put (la_put (la_put hm (by decide) (Or.inl rfl)) (by decide) (Or.inl rfl)) (by decide) (Or.inl rfl)) (by decide) (Or.inl rfl)) (by decide) (Or.inl rfl)) (by decide) (Or.inl rfl)) (J_rfb hn (J_Bd hD hB)) (show 0 ≤ m m_ 44 ∧ m m_ 44 ≤ 16 by omega) (fun y => ⟨?_, ?_⟩) (fun y => absurd (show m m_ 44 = 0 from y) (by omega))
    · show some (vi (m m_left0_ (20 * (m m_ 44 - 1) + 19))) = some (vi (m x_log_what_ (m x_log_ 0 - 1)))
      rw [← hun.1, hr2]
    · show J_I (n + 1) sc S (gd_m (kr_m (cw_put (cw_put (cw_put (cw_put (cw_put (cw_put (cw_put m x_log_ 0 (m x_log_ 0 - 1)) x_will_ 4 (cw_ior (m x_will_ 4) (cw_ishl 1 (m x_log_where_ (m x_log_ 0 - 1))))) x_ 18 1) x_ 19 1) x_settler_ 0 (-1)) x_ 16 0) m_ 44 (m m_ 44 - 1)) (t_w (m m_kept_) 0 0 19 (fun x => m m_left0_ (20 * (m m_ 44 - 1) + x)))))
      rw [ek]
      refine J_k4 hn hs hI (la_put (la_put (la_put (la_put (la_put (la_put hm (by decide) (Or.inl rfl)) (by decide) (Or.inl rfl)) (by decide) (Or.inl rfl)) (by decide) (Or.inl rfl)) (by decide) (Or.inl rfl)) (by decide) (Or.inl rfl)) hD ⟨K_rU hK hu, ?_, D_sS hD hZ rfl rfl, E_s1 rfl⟩ rfl rfl rfl rfl rfl rfl rfl ?_ ?_
      · exact W_mr rfl rfl rfl rfl rfl rfl rfl rfl rfl rfl rfl rfl rfl rfl (W_qe (q_lv (hr1.2.1 (by omega)) ⟨b_hr hW.2.2.2.2.1.1 (hr1.2.1 (by omega)), fun i a b => b_hi hW.2.2.2.2.1.1 (hr1.2.1 (by omega)) ⟨a, b⟩⟩ hW) (D_sh hD))
      · have z := j_Gp hG q
        rw [gi, ww] at z
        exact z
      · exact j_Hd hD (cw_up_ne (by unfold K_u at hu; omega)) rfl hC.2.2.2.2.2
  · have hD : D_s m (cw_put (cw_put (cw_put (cw_put (cw_put (cw_put m x_log_ 0 (m x_log_ 0 - 1)) x_will_terms_ 0 (m x_log_was_ (m x_log_ 0 - 1))) x_ 18 1) x_ 19 1) x_settler_ 0 (-1)) x_ 16 0) := (D_sp (D_sp (D_sp (D_sp (D_sp (D_sp D_sr (by decide)) (by decide)) (by decide)) (by decide)) (by decide)) (by decide))
    obtain ⟨hr1, hr2, -⟩ := kk q
    have gi : g_ix (m x_log_what_ (m x_log_ 0 - 1)) (m x_log_where_ (m x_log_ 0 - 1)) = 18 := by rw [qw]; rfl
    have ww : (m x_log_was_ (m x_log_ 0 - 1)) = (m x_log_was_ (m x_log_ 0 - 1)) := rfl
    have hu : K_u 18 (m x_log_was_ (m x_log_ 0 - 1)) := by
      have z := hr1.2.2.2
      rw [gi, ww] at z
      exact z
    have ek := j_Gk hG q
    rw [gi, ww] at ek
    refine M_undo (la_put (la_put (la_put (la_put (la_put (la_put hm (by decide) (Or.inl rfl)) (by decide) (Or.inr (by decide))) (by decide) (Or.inl rfl)) (by decide) (Or.inl rfl)) (by decide) (Or.inl rfl)) (by decide) (Or.inl rfl)) (J_rfb hn (J_Bd hD hB)) (show 0 ≤ m m_ 44 ∧ m m_ 44 ≤ 16 by omega) (fun y => ⟨?_, ?_⟩) (fun y => absurd (show m m_ 44 = 0 from y) (by omega))
    · show some (vi (m m_left0_ (20 * (m m_ 44 - 1) + 19))) = some (vi (m x_log_what_ (m x_log_ 0 - 1)))
      rw [← hun.1, hr2]
    · show J_I (n + 1) sc S (gd_m (kr_m (cw_put (cw_put (cw_put (cw_put (cw_put (cw_put (cw_put m x_log_ 0 (m x_log_ 0 - 1)) x_will_terms_ 0 (m x_log_was_ (m x_log_ 0 - 1))) x_ 18 1) x_ 19 1) x_settler_ 0 (-1)) x_ 16 0) m_ 44 (m m_ 44 - 1)) (t_w (m m_kept_) 0 0 19 (fun x => m m_left0_ (20 * (m m_ 44 - 1) + x)))))
      rw [ek]
      refine J_k4 hn hs hI (la_put (la_put (la_put (la_put (la_put (la_put hm (by decide) (Or.inl rfl)) (by decide) (Or.inr (by decide))) (by decide) (Or.inl rfl)) (by decide) (Or.inl rfl)) (by decide) (Or.inl rfl)) (by decide) (Or.inl rfl)) hD ⟨K_rU hK hu, ?_, D_sS hD hZ rfl rfl, E_s1 rfl⟩ rfl rfl rfl rfl rfl rfl rfl ?_ ?_
      · exact W_mr rfl rfl rfl rfl rfl rfl rfl rfl rfl (show _ = cw_up (m x_will_terms_) 0 (m x_log_was_ (m x_log_ 0 - 1)) by rw [cw_put_ne (by decide), cw_put_ne (by decide), cw_put_ne (by decide), cw_put_ne (by decide), cw_put_r, cw_put_ne (by decide)]) rfl rfl rfl rfl (W_qe (q_tr0 hW) (D_sh hD))
      · have z := j_Gp hG q
        rw [gi, ww] at z
        exact z
      · exact j_Hd hD (cw_up_ne (by unfold K_u at hu; omega)) rfl hC.2.2.2.2.2
