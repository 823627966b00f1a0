/-! What can be undone, of both; turn, die, pass (wip/whole/tools/m154.py). -/
def g_sh (f : Int → Int) : Int → Int := fun j => if 0 ≤ j ∧ j < 0 + 15 then f (1 + (j - 0)) else f j
theorem j_Gs {wt wh ws : Int → Int} {L K : Int → Int} (h : j_G 16 wt wh ws 16 L K) : j_G 15 (g_sh wt) (g_sh wh) (g_sh ws) 15 (kp_s L 16) K := by
  refine ⟨⟨rfl, by decide, by decide⟩, fun i a b => ?_⟩
  have e : ∀ f : Int → Int, g_sh f i = f (i + 1) := fun f => by
    unfold g_sh
    rw [if_pos (by omega), show 1 + (i - 0) = i + 1 by omega]
  have eL : ∀ y, 0 ≤ y → y < 300 → kp_s L 16 y = L (y + 20) := fun y c d => by
    unfold kp_s
    rw [if_pos rfl, if_pos ⟨c, d⟩]
  rw [e, e, e]
  obtain ⟨q1, q2, q3⟩ := h.2 (i + 1) (by omega) (by omega)
  refine ⟨q1, ?_, fun x c d => ?_⟩
  · rw [eL _ (by omega) (by omega), ← q2]; congr 1; omega
  · rw [eL _ (by omega) (by omega), show 20 * i + x + 20 = 20 * (i + 1) + x by omega, q3 x c d]
    by_cases z : x = g_ix (wt (i + 1)) (wh (i + 1))
    · rw [if_pos z, if_pos z]
    · rw [if_neg z, if_neg z]
      by_cases y : i + 1 < 15
      · rw [if_pos y, if_pos (by omega), eL _ (by omega) (by omega)]; congr 1; omega
      · rw [if_neg y, if_neg (by omega)]
theorem g_ixr {w p : Int} (h : w ≤ 2 → 0 ≤ p ∧ p < 6) (h0 : 0 ≤ w) : 0 ≤ g_ix w p ∧ g_ix w p < 19 := by
  unfold g_ix
  by_cases z : w ≤ 2
  · have := h z
    (repeat' split) <;> omega
  · rw [if_neg (by omega), if_neg (by omega), if_neg (by omega)]; omega
theorem j_Ga {n : Int} {wt wh ws : Int → Int} {un : Int} {L K : Int → Int} {de pl v : Int} (h : j_G n wt wh ws un L K) (hn : n < 16) (hd : 0 ≤ de ∧ de ≤ 3) (hp : de ≤ 2 → 0 ≤ pl ∧ pl < 6) (h2 : de = 2 → K (g_ix de pl) = 1) (hu : K_u (g_ix de pl) (K (g_ix de pl))) : j_G (n + 1) (cw_up wt n de) (cw_up wh n pl) (cw_up ws n (K (g_ix de pl))) (un + 1) (cw_up (t_w L (20 * un) 0 19 K) (20 * un + 19) de) (cw_up K (g_ix de pl) v) := by
  obtain ⟨⟨e0, e1, e2⟩, h3⟩ := h
  subst e0
  refine ⟨⟨rfl, by omega, by omega⟩, fun i a b => ?_⟩
  by_cases q : i = n
  · subst q
    rw [cw_up_eq, cw_up_eq, cw_up_eq]
    refine ⟨⟨hd, hp, h2, hu⟩, cw_up_eq, fun x c d => ?_⟩
    rw [cw_up_ne (by omega), t_wi (by omega)]
    by_cases z : x = g_ix de pl
    · rw [if_pos z, z]
    · rw [if_neg z, if_neg (by omega), cw_up_ne z]
  · rw [cw_up_ne q, cw_up_ne q, cw_up_ne q]
    obtain ⟨q1, q2, q3⟩ := h3 i a (by omega)
    have o : ∀ y, y < 20 * n → cw_up (t_w L (20 * n) 0 19 K) (20 * n + 19) de y = L y := fun y c => by rw [cw_up_ne (by omega), t_wo (by omega)]
    refine ⟨q1, by rw [o _ (by omega)]; exact q2, fun x c d => ?_⟩
    rw [o _ (by omega), q3 x c d]
    by_cases z : x = g_ix (wt i) (wh i)
    · rw [if_pos z, if_pos z]
    · rw [if_neg z, if_neg z, if_pos (show i + 1 < n + 1 by omega)]
      by_cases y : i + 1 < n
      · rw [if_pos y, o _ (by omega)]
      · rw [if_neg y, show 20 * (i + 1) + x = 20 * n + x by omega, cw_up_ne (by omega), t_wi (by omega)]
theorem lg_D {m : cw_M} {de pl ol : Int} : D_s m (lg m de pl ol) := by
  unfold lg
  split
  · unfold lg_p
    exact D_sp (D_sp (D_sp (D_sp D_sr (by decide)) (by decide)) (by decide)) (by decide)
  · unfold lg_p lg_s
    exact D_sp (D_sp (D_sp (D_sp (D_sc (D_sc (D_sc (D_sp D_sr (by decide)) (by decide)) (by decide)) (by decide)) (by decide)) (by decide)) (by decide)) (by decide)
/-- a deed is noted by both -/
theorem lg_G {m : cw_M} {un : Int} {L K : Int → Int} {de pl ol v : Int} (h : j_G (m x_log_ 0) (m x_log_what_) (m x_log_where_) (m x_log_was_) un L K) (ho : ol = K (g_ix de pl)) (hd : 0 ≤ de ∧ de ≤ 3) (hp : de ≤ 2 → 0 ≤ pl ∧ pl < 6) (h2 : de = 2 → K (g_ix de pl) = 1) (hu : K_u (g_ix de pl) (K (g_ix de pl))) : j_G (lg m de pl ol x_log_ 0) (lg m de pl ol x_log_what_) (lg m de pl ol x_log_where_) (lg m de pl ol x_log_was_) (kp_n un + 1) (kp_l L un K de) (cw_up K (g_ix de pl) v) := by
  have hb := h.1
  unfold lg kp_l kp_n
  by_cases q : m x_log_ 0 < 16
  · rw [if_pos q, if_neg (show ¬ un = 16 by omega)]
    have z := j_Ga (v := v) h q hd hp h2 hu
    unfold kp_s
    rw [if_neg (show ¬ un = 16 by omega), ho]
    unfold lg_p
    rw [show cw_put (cw_put (cw_put (cw_put m x_log_what_ (m x_log_ 0) de) x_log_where_ (m x_log_ 0) pl) x_log_was_ (m x_log_ 0) (K (g_ix de pl))) x_log_ 0 (m x_log_ 0 + 1) x_log_what_ = cw_up (m x_log_what_) (m x_log_ 0) de by rw [cw_put_ne (by decide), cw_put_ne (by decide), cw_put_ne (by decide), cw_put_r],
      show cw_put (cw_put (cw_put (cw_put m x_log_what_ (m x_log_ 0) de) x_log_where_ (m x_log_ 0) pl) x_log_was_ (m x_log_ 0) (K (g_ix de pl))) x_log_ 0 (m x_log_ 0 + 1) x_log_where_ = cw_up (m x_log_where_) (m x_log_ 0) pl by rw [cw_put_ne (by decide), cw_put_ne (by decide), cw_put_r, cw_put_ne (by decide)],
      show cw_put (cw_put (cw_put (cw_put m x_log_what_ (m x_log_ 0) de) x_log_where_ (m x_log_ 0) pl) x_log_was_ (m x_log_ 0) (K (g_ix de pl))) x_log_ 0 (m x_log_ 0 + 1) x_log_was_ = cw_up (m x_log_was_) (m x_log_ 0) (K (g_ix de pl)) by rw [cw_put_ne (by decide), cw_put_r, cw_put_ne (by decide), cw_put_ne (by decide)], cw_put_eq]
    exact z
  · have u16 : un = 16 := by omega
    subst u16
    rw [if_neg q, if_pos rfl]
    rw [show m x_log_ 0 = 16 by omega] at h
    have z := j_Ga (v := v) (j_Gs h) (by decide) hd hp h2 hu
    rw [ho]
    unfold lg_p
    have s1 : lg_s m x_log_what_ = g_sh (m x_log_what_) := by
      unfold lg_s
      rw [cw_cpy_ne (by decide), cw_cpy_ne (by decide), cw_cpy_row, cw_row_eq]
      rfl
    have s2 : lg_s m x_log_where_ = g_sh (m x_log_where_) := by
      unfold lg_s
      rw [cw_cpy_ne (by decide), cw_cpy_row, cw_row_eq]
      funext j
      show (if 0 ≤ j ∧ j < 0 + 15 then _ else _) = _
      rw [cw_cpy_ne (by decide)]
      rfl
    have s3 : lg_s m x_log_was_ = g_sh (m x_log_was_) := by
      unfold lg_s
      rw [cw_cpy_row, cw_row_eq]
      funext j
      show (if 0 ≤ j ∧ j < 0 + 15 then _ else _) = _
      rw [cw_cpy_ne (by decide), cw_cpy_ne (by decide)]
      rfl
    rw [show cw_put (cw_put (cw_put (cw_put (lg_s m) x_log_what_ 15 de) x_log_where_ 15 pl) x_log_was_ 15 (K (g_ix de pl))) x_log_ 0 (15 + 1) x_log_what_ = cw_up (g_sh (m x_log_what_)) 15 de by rw [cw_put_ne (by decide), cw_put_ne (by decide), cw_put_ne (by decide), cw_put_r, s1],
      show cw_put (cw_put (cw_put (cw_put (lg_s m) x_log_what_ 15 de) x_log_where_ 15 pl) x_log_was_ 15 (K (g_ix de pl))) x_log_ 0 (15 + 1) x_log_where_ = cw_up (g_sh (m x_log_where_)) 15 pl by rw [cw_put_ne (by decide), cw_put_ne (by decide), cw_put_r, cw_put_ne (by decide), s2],
      show cw_put (cw_put (cw_put (cw_put (lg_s m) x_log_what_ 15 de) x_log_where_ 15 pl) x_log_was_ 15 (K (g_ix de pl))) x_log_ 0 (15 + 1) x_log_was_ = cw_up (g_sh (m x_log_was_)) 15 (K (g_ix de pl)) by rw [cw_put_ne (by decide), cw_put_r, cw_put_ne (by decide), cw_put_ne (by decide), s3], cw_put_eq]
    exact z
theorem kp_F {a : cw_M} {w : Int} : F_m a (kp_m a w) := F_mt (F_mw (by decide)) (F_mp (by decide))
/-- a deed was accepted by both -/
theorem J_k3 {n sc : Int} {S : Int → Int} {m a : cw_M} {K' : Int → Int} {w : Int} (hn : n < 600) (hs : sc < 33554432) (hI : J_I n sc S m) (ha : la_ok a) (hD : D_s m a) (hA : J_A a K') (hR : a x_refusals_ = m x_refusals_) (h16 : a x_ 16 = 0) (h14 : a x_ 14 = m x_ 14) (h15 : a x_ 15 = m x_ 15) (h17 : a x_ 17 = m x_ 17) (hrd : a x_reader_ = m x_reader_) (hby : a x_reader_bytes_ = m x_reader_bytes_) (hlog : j_G (a x_log_ 0) (a x_log_what_) (a x_log_where_) (a x_log_was_) (kp_n (m m_ 44) + 1) (kp_l (m m_left0_) (m m_ 44) (m m_kept_) w) K') (hH : j_H a K' (m m_hasImage_) (m m_images_)) : J_I (n + 1) sc S (gd_m (kr_m (kp_m a w) K')) := by
  obtain ⟨⟨h1, h2⟩, -, hB, hC, hN⟩ := hI
  have hm : (33554432 : Int) ≤ m_ := by decide
  obtain ⟨r, s, t, dd, -, -⟩ := hC
  have k := fun c (q : m_ ≤ c) => D_sm hD q
  have hF : F_m a (gd_m (kr_m (kp_m a w) K')) := F_mt kp_F (F_mt kr_F gd_F)
  refine J_up (by omega) (gd_ok (kr_ok (kp_ok ha))) hF rfl (D_sk hD h2) hA (by have z := J_Bm (J_Bd hD hB); exact z) ⟨?_, ⟨?_, ?_, ?_, ?_⟩, ?_, ?_, ?_, ?_⟩ (J_Nm hn (D_sN hs hD hN))
  · rw [hR]; show j_R _ (a m_refused_); rw [k m_refused_ (by decide)]; exact r
  · rw [h16]; rfl
  · rw [h14]; show _ = a m_ 6; rw [k m_ (by decide)]; exact s.2.1
  · rw [h15]; show _ = a m_ 45; rw [k m_ (by decide)]; exact s.2.2.1
  · rw [hrd]; show _ = a m_ 14; rw [k m_ (by decide)]; exact s.2.2.2
  · rw [hrd, hby]; show j_T _ _ (a m_ 13) (a m_tape_); rw [k m_ (by decide), k m_tape_ (by decide)]; exact t
  · rw [h17]; show j_D _ (a m_ 53) (a m_drawnMoved_); rw [k m_ (by decide), k m_drawnMoved_ (by decide)]; exact dd
  · show j_G _ _ _ _ (kp_n (a m_ 44) + 1) (kp_l (a m_left0_) (a m_ 44) (a m_kept_) w) K'; rw [k m_ (by decide), k m_left0_ (by decide), k m_kept_ (by decide)]; exact hlog
  · show j_H a K' (a m_hasImage_) (a m_images_); rw [k m_hasImage_ (by decide), k m_images_ (by decide)]; exact hH
theorem J_turn {n sc : Int} {S : Int → Int} (hn : n < 600) (hs : sc < 33554432) {j kd : Int} : J_P n sc S vi 200 k_C_turn k_M_turn [vi j, vi kd] := by
  intro m hI
  have hm := hI.1.1
  have hk := hI.1.2
  have hK := hI.2.1.1
  have hW := hI.2.1.2.1
  have hZ := hI.2.1.2.2.1
  have hE := hI.2.1.2.2.2
  have hB := hI.2.2.1
  have hC := hI.2.2.2.1
  have hr := J_rfb hn hB
  have hf := J_cfb hn hB hC
  have hun := hC.2.2.2.2.1.1
  have k46 := hK.1
  have e0 : m x_will_ 0 = m m_kept_ 46 := hW.1
  have ekd := hW.2.2.1
  have kk := hK.2.2.1
  have hD1 : D_s (lg m 1 j (m x_will_kinds_ j)) (cw_put (cw_put (cw_put (cw_put (lg m 1 j (m x_will_kinds_ j)) x_will_kinds_ j kd) x_ 19 1) x_settler_ 0 (-1)) x_ 16 0) := (D_sp (D_sp (D_sp (D_sp D_sr (by decide)) (by decide)) (by decide)) (by decide))
  have hD : D_s m (cw_put (cw_put (cw_put (cw_put (lg m 1 j (m x_will_kinds_ j)) x_will_kinds_ j kd) x_ 19 1) x_settler_ 0 (-1)) x_ 16 0) := D_st lg_D hD1
  refine C_turn hm hf (by omega) (fun i a b => by rw [ekd i a b]; exact kk i a b) (by omega) (fun q => ⟨cr_ok hm, J_sd hs hI cr_D, ⟨_, rfl⟩, ?_⟩) (fun q => ⟨cr_ok hm, J_sd hs hI cr_D, ⟨_, rfl⟩, ?_⟩) (fun q => ⟨cr_ok hm, J_sd hs hI cr_D, ⟨_, rfl⟩, ?_⟩) (fun q => ⟨(la_put (la_put (la_put (la_put (lg_ok hm) (by decide) (Or.inr (by decide))) (by decide) (Or.inl rfl)) (by decide) (Or.inl rfl)) (by decide) (Or.inl rfl)), J_sd hs hI hD, ⟨_, rfl⟩, ?_⟩)
  · have e : tn_c (m m_kept_) j kd = -1 := by unfold tn_c; rw [if_pos q]
    refine M_turn (cr_ok hm) k46 (J_rfb hn (J_Bd cr_D hB)) (show 0 ≤ m m_ 44 ∧ m m_ 44 ≤ 16 by omega) kk (fun x => absurd (e.symm.trans x) (by decide)) (fun _ => ?_)
    show (some (vi (tn_c (m m_kept_) j kd)) = _) ∧ J_I (n + 1) sc S (rf_m (cr_m m (-1) 0) (tn_c (m m_kept_) j kd))
    rw [e]; exact ⟨rfl, J_r1 hn hs hI⟩
  · have e : tn_c (m m_kept_) j kd = -2 := by unfold tn_c; rw [if_neg (by omega), if_pos (by omega)]
    refine M_turn (cr_ok hm) k46 (J_rfb hn (J_Bd cr_D hB)) (show 0 ≤ m m_ 44 ∧ m m_ 44 ≤ 16 by omega) kk (fun x => absurd (e.symm.trans x) (by decide)) (fun _ => ?_)
    show (some (vi (tn_c (m m_kept_) j kd)) = _) ∧ J_I (n + 1) sc S (rf_m (cr_m m (-2) 1) (tn_c (m m_kept_) j kd))
    rw [e]; exact ⟨rfl, J_r2 hn hs hI⟩
  · have e : tn_c (m m_kept_) j kd = -3 := by unfold tn_c; rw [if_neg (by omega), if_neg (by omega), if_pos (by rw [← ekd j q.2.1.1 (by omega)]; exact q.2.2)]
    refine M_turn (cr_ok hm) k46 (J_rfb hn (J_Bd cr_D hB)) (show 0 ≤ m m_ 44 ∧ m m_ 44 ≤ 16 by omega) kk (fun x => absurd (e.symm.trans x) (by decide)) (fun _ => ?_)
    show (some (vi (tn_c (m m_kept_) j kd)) = _) ∧ J_I (n + 1) sc S (rf_m (cr_m m (-3) 2) (tn_c (m m_kept_) j kd))
    rw [e]; exact ⟨rfl, J_r3 hn hs hI⟩
  · have ej := ekd j q.2.1.1 (by omega)
    have e : tn_c (m m_kept_) j kd = 0 := by unfold tn_c; rw [if_neg (by omega), if_neg (by omega), if_neg (by rw [← ej]; exact q.2.2)]
    have ek : (cw_put (cw_put (cw_put (cw_put (lg m 1 j (m x_will_kinds_ j)) x_will_kinds_ j kd) x_ 19 1) x_settler_ 0 (-1)) x_ 16 0) m_kept_ = m m_kept_ := D_sm hD (by decide)
    have em : (cw_put (cw_put (cw_put (cw_put (lg m 1 j (m x_will_kinds_ j)) x_will_kinds_ j kd) x_ 19 1) x_settler_ 0 (-1)) x_ 16 0) m_ = m m_ := D_sm hD (by decide)
    refine M_turn (la_put (la_put (la_put (la_put (lg_ok hm) (by decide) (Or.inr (by decide))) (by decide) (Or.inl rfl)) (by decide) (Or.inl rfl)) (by decide) (Or.inl rfl)) (by rw [ek]; exact k46) (J_rfb hn (J_Bd hD hB)) (by rw [em]; omega) (by rw [ek]; exact kk) (fun x => ?_) (fun x => ?_)
    · rw [ek]
      refine ⟨by rw [ej], ?_⟩
      refine J_k3 hn hs hI (la_put (la_put (la_put (la_put (lg_ok hm) (by decide) (Or.inr (by decide))) (by decide) (Or.inl rfl)) (by decide) (Or.inl rfl)) (by decide) (Or.inl rfl)) hD ⟨K_rV hK (by unfold K_v; omega), ?_, ?_, E_s1 rfl⟩ (show lg m 1 j (m x_will_kinds_ j) x_refusals_ = m x_refusals_ from lg_ne (by decide)) rfl (show lg m 1 j (m x_will_kinds_ j) x_ 14 = m x_ 14 by rw [lg_ne (by decide)]) (show lg m 1 j (m x_will_kinds_ j) x_ 15 = m x_ 15 by rw [lg_ne (by decide)]) (show lg m 1 j (m x_will_kinds_ j) x_ 17 = m x_ 17 by rw [lg_ne (by decide)]) (show lg m 1 j (m x_will_kinds_ j) x_reader_ = m x_reader_ from lg_ne (by decide)) (show lg m 1 j (m x_will_kinds_ j) x_reader_bytes_ = m x_reader_bytes_ from lg_ne (by decide)) ?_ ?_
      · exact W_mr (show lg m 1 j (m x_will_kinds_ j) x_will_ 0 = m x_will_ 0 by rw [lg_ne (by decide)]) (show lg m 1 j (m x_will_kinds_ j) x_will_ 4 = m x_will_ 4 by rw [lg_ne (by decide)]) (show lg m 1 j (m x_will_kinds_ j) x_will_ 6 = m x_will_ 6 by rw [lg_ne (by decide)]) (show lg m 1 j (m x_will_kinds_ j) x_will_ 8 = m x_will_ 8 by rw [lg_ne (by decide)]) (show lg m 1 j (m x_will_kinds_ j) x_will_ 11 = m x_will_ 11 by rw [lg_ne (by decide)]) (show lg m 1 j (m x_will_kinds_ j) x_will_ 13 = m x_will_ 13 by rw [lg_ne (by decide)]) (show lg m 1 j (m x_will_kinds_ j) x_will_owner_ = m x_will_owner_ from lg_ne (by decide)) (show _ = cw_up (m x_will_kinds_) j kd by rw [cw_put_ne (by decide), cw_put_ne (by decide), cw_put_ne (by decide), cw_put_r, lg_ne (by decide)]) (show lg m 1 j (m x_will_kinds_ j) x_will_marks_ = m x_will_marks_ from lg_ne (by decide)) (show lg m 1 j (m x_will_kinds_ j) x_will_terms_ = m x_will_terms_ from lg_ne (by decide)) (show lg m 1 j (m x_will_kinds_ j) x_will_held_ = m x_will_held_ from lg_ne (by decide)) (show lg m 1 j (m x_will_kinds_ j) x_will_toldOf_ = m x_will_toldOf_ from lg_ne (by decide)) (show lg m 1 j (m x_will_kinds_ j) x_will_toldMuch_ = m x_will_toldMuch_ from lg_ne (by decide)) (show lg m 1 j (m x_will_kinds_ j) x_will_lawAt_ = m x_will_lawAt_ from lg_ne (by decide)) (W_qe (q_kd (by omega) hW) (D_sh hD))
      · exact D_s2 hD hZ (show lg m 1 j (m x_will_kinds_ j) x_ 18 = m x_ 18 by rw [lg_ne (by decide)]) rfl (cw_up_ne (by omega)) (fun i a b => cw_up_ne (by omega)) hK.1
      · have z := lg_G (de := 1) (pl := j) (ol := m x_will_kinds_ j) (v := kd) hC.2.2.2.2.1 ej (by decide) (fun _ => ⟨q.2.1.1, by omega⟩) (fun z => absurd z (by decide)) (by have z := kk j q.2.1.1 (by omega); show K_u (6 + j) (m m_kept_ (6 + j)); unfold K_u; omega)
        exact z
      · exact j_Hd hD (cw_up_ne (by omega)) (show lg m 1 j (m x_will_kinds_ j) x_will_lawAt_ = m x_will_lawAt_ from lg_ne (by decide)) hC.2.2.2.2.2
    · rw [ek, e] at x; exact absurd x (by decide)
theorem J_die {n sc : Int} {S : Int → Int} (hn : n < 600) (hs : sc < 33554432) {p : Int} : J_P n sc S vi 200 k_C_die k_M_die [vi p] := by
  intro m hI
  have hm := hI.1.1
  have hk := hI.1.2
  have hK := hI.2.1.1
  have hW := hI.2.1.2.1
  have hZ := hI.2.1.2.2.1
  have hE := hI.2.1.2.2.2
  have hB := hI.2.2.1
  have hC := hI.2.2.2.1
  have hr := J_rfb hn hB
  have hf := J_cfb hn hB hC
  have hun := hC.2.2.2.2.1.1
  have k46 := hK.1
  have lv := hW.2.2.2.2.1
  have kk := hK.2.2.2.1
  have hD1 : D_s (lg m 2 p 1) (cw_put (cw_put (cw_put (cw_put (lg m 2 p 1) x_will_ 4 (cw_iand (m x_will_ 4) (cw_ixor (cw_ishl 1 p) (-1)))) x_ 19 1) x_settler_ 0 (-1)) x_ 16 0) := (D_sp (D_sp (D_sp (D_sp D_sr (by decide)) (by decide)) (by decide)) (by decide))
  have hD : D_s m (cw_put (cw_put (cw_put (cw_put (lg m 2 p 1) x_will_ 4 (cw_iand (m x_will_ 4) (cw_ixor (cw_ishl 1 p) (-1)))) x_ 19 1) x_settler_ 0 (-1)) x_ 16 0) := D_st lg_D hD1
  refine C_die hm hf lv.1 (by omega) (fun q => ⟨cr_ok hm, J_sd hs hI cr_D, ⟨_, rfl⟩, ?_⟩) (fun q => ⟨cr_ok hm, J_sd hs hI cr_D, ⟨_, rfl⟩, ?_⟩) (fun q => ⟨(la_put (la_put (la_put (la_put (lg_ok hm) (by decide) (Or.inl rfl)) (by decide) (Or.inl rfl)) (by decide) (Or.inl rfl)) (by decide) (Or.inl rfl)), J_sd hs hI hD, ⟨_, rfl⟩, ?_⟩)
  · have e : di_c (m m_kept_) p = -1 := by unfold di_c; rw [if_pos (by omega)]
    refine M_die (cr_ok hm) (J_rfb hn (J_Bd cr_D hB)) (show 0 ≤ m m_ 44 ∧ m m_ 44 ≤ 16 by omega) kk (fun x => absurd (e.symm.trans x) (by decide)) (fun _ => ?_)
    show (some (vi (di_c (m m_kept_) p)) = _) ∧ J_I (n + 1) sc S (rf_m (cr_m m (-1) 0) (di_c (m m_kept_) p))
    rw [e]; exact ⟨rfl, J_r1 hn hs hI⟩
  · have ep := lv.2 p q.1.1 q.1.2
    have e : di_c (m m_kept_) p = -3 := by unfold di_c; rw [if_neg (by omega), if_pos (by rw [← ep]; exact q.2)]
    refine M_die (cr_ok hm) (J_rfb hn (J_Bd cr_D hB)) (show 0 ≤ m m_ 44 ∧ m m_ 44 ≤ 16 by omega) kk (fun x => absurd (e.symm.trans x) (by decide)) (fun _ => ?_)
    show (some (vi (di_c (m m_kept_) p)) = _) ∧ J_I (n + 1) sc S (rf_m (cr_m m (-3) 2) (di_c (m m_kept_) p))
    rw [e]; exact ⟨rfl, J_r3 hn hs hI⟩
  · have ep := lv.2 p q.1.1 q.1.2
    have kp1 : m m_kept_ (12 + p) = 1 := by have := kk p q.1.1 q.1.2; omega
    have e : di_c (m m_kept_) p = 0 := by unfold di_c; rw [if_neg (by omega), if_neg (by omega)]
    have ek : (cw_put (cw_put (cw_put (cw_put (lg m 2 p 1) x_will_ 4 (cw_iand (m x_will_ 4) (cw_ixor (cw_ishl 1 p) (-1)))) x_ 19 1) x_settler_ 0 (-1)) x_ 16 0) m_kept_ = m m_kept_ := D_sm hD (by decide)
    have em : (cw_put (cw_put (cw_put (cw_put (lg m 2 p 1) x_will_ 4 (cw_iand (m x_will_ 4) (cw_ixor (cw_ishl 1 p) (-1)))) x_ 19 1) x_settler_ 0 (-1)) x_ 16 0) m_ = m m_ := D_sm hD (by decide)
    have bl : (0 ≤ (cw_iand (m x_will_ 4) (cw_ixor (cw_ishl 1 p) (-1))) ∧ (cw_iand (m x_will_ 4) (cw_ixor (cw_ishl 1 p) (-1))) < 64) ∧ ∀ i, 0 ≤ i → i < 6 → cw_iand (cw_ishr (cw_iand (m x_will_ 4) (cw_ixor (cw_ishl 1 p) (-1))) i) 1 = if i = p then 0 else cw_iand (cw_ishr (m x_will_ 4) i) 1 := ⟨m_xr lv.1 q.1, fun i a b => b_lo lv.1 q.1 ⟨a, b⟩⟩
    refine M_die (la_put (la_put (la_put (la_put (lg_ok hm) (by decide) (Or.inl rfl)) (by decide) (Or.inl rfl)) (by decide) (Or.inl rfl)) (by decide) (Or.inl rfl)) (J_rfb hn (J_Bd hD hB)) (by rw [em]; omega) (by rw [ek]; exact kk) (fun x => ?_) (fun x => ?_)
    · rw [ek]
      refine ⟨?_, ?_⟩
      · have eb : b_c (cw_iand (m x_will_ 4) (cw_ixor (cw_ishl 1 p) (-1))) = l_vn (cw_up (m m_kept_) (12 + p) 0) := by
          unfold b_c l_vn
          have z := fun i a b => (bl.2 i a b).trans (show (if i = p then 0 else cw_iand (cw_ishr (m x_will_ 4) i) 1) = (cw_up (m m_kept_) (12 + p) 0) (12 + i) by
            by_cases y : i = p
            · rw [if_pos y, y, cw_up_eq]
            · rw [if_neg y, cw_up_ne (by omega), lv.2 i a b])
          rw [z 0 (by decide) (by decide), z 1 (by decide) (by decide), z 2 (by decide) (by decide), z 3 (by decide) (by decide), z 4 (by decide) (by decide), z 5 (by decide) (by decide)]
          rfl
        rw [eb]
      · refine J_k3 hn hs hI (la_put (la_put (la_put (la_put (lg_ok hm) (by decide) (Or.inl rfl)) (by decide) (Or.inl rfl)) (by decide) (Or.inl rfl)) (by decide) (Or.inl rfl)) hD ⟨K_rV hK (by unfold K_v; omega), ?_, ?_, E_s1 rfl⟩ (show lg m 2 p 1 x_refusals_ = m x_refusals_ from lg_ne (by decide)) rfl (show lg m 2 p 1 x_ 14 = m x_ 14 by rw [lg_ne (by decide)]) (show lg m 2 p 1 x_ 15 = m x_ 15 by rw [lg_ne (by decide)]) (show lg m 2 p 1 x_ 17 = m x_ 17 by rw [lg_ne (by decide)]) (show lg m 2 p 1 x_reader_ = m x_reader_ from lg_ne (by decide)) (show lg m 2 p 1 x_reader_bytes_ = m x_reader_bytes_ from lg_ne (by decide)) ?_ ?_
        · exact W_mr (show lg m 2 p 1 x_will_ 0 = m x_will_ 0 by rw [lg_ne (by decide)]) (rfl) (show lg m 2 p 1 x_will_ 6 = m x_will_ 6 by rw [lg_ne (by decide)]) (show lg m 2 p 1 x_will_ 8 = m x_will_ 8 by rw [lg_ne (by decide)]) (show lg m 2 p 1 x_will_ 11 = m x_will_ 11 by rw [lg_ne (by decide)]) (show lg m 2 p 1 x_will_ 13 = m x_will_ 13 by rw [lg_ne (by decide)]) (show lg m 2 p 1 x_will_owner_ = m x_will_owner_ from lg_ne (by decide)) (show lg m 2 p 1 x_will_kinds_ = m x_will_kinds_ from lg_ne (by decide)) (show lg m 2 p 1 x_will_marks_ = m x_will_marks_ from lg_ne (by decide)) (show lg m 2 p 1 x_will_terms_ = m x_will_terms_ from lg_ne (by decide)) (show lg m 2 p 1 x_will_held_ = m x_will_held_ from lg_ne (by decide)) (show lg m 2 p 1 x_will_toldOf_ = m x_will_toldOf_ from lg_ne (by decide)) (show lg m 2 p 1 x_will_toldMuch_ = m x_will_toldMuch_ from lg_ne (by decide)) (show lg m 2 p 1 x_will_lawAt_ = m x_will_lawAt_ from lg_ne (by decide)) (W_qe (q_lv q.1 bl hW) (D_sh hD))
        · exact D_s2 hD hZ (show lg m 2 p 1 x_ 18 = m x_ 18 by rw [lg_ne (by decide)]) rfl (cw_up_ne (by omega)) (fun i a b => cw_up_ne (by omega)) hK.1
        · have z := lg_G (de := 2) (pl := p) (ol := 1) (v := 0) hC.2.2.2.2.1 kp1.symm (by decide) (fun _ => q.1) (fun _ => kp1) (by show K_u (12 + p) (m m_kept_ (12 + p)); unfold K_u; omega)
          exact z
        · exact j_Hd hD (cw_up_ne (by omega)) (show lg m 2 p 1 x_will_lawAt_ = m x_will_lawAt_ from lg_ne (by decide)) hC.2.2.2.2.2
    · rw [ek, e] at x; exact absurd x (by decide)
theorem J_pass {n sc : Int} {S : Int → Int} (hn : n < 600) (hs : sc < 33554432) : J_P n sc S vi 200 k_C_pass k_M_pass [] := by
  intro m hI
  have hm := hI.1.1
  have hk := hI.1.2
  have hK := hI.2.1.1
  have hW := hI.2.1.2.1
  have hZ := hI.2.1.2.2.1
  have hE := hI.2.1.2.2.2
  have hB := hI.2.2.1
  have hC := hI.2.2.2.1
  have hr := J_rfb hn hB
  have hf := J_cfb hn hB hC
  have hun := hC.2.2.2.2.1.1
  have k46 := hK.1
  have t0 : m x_will_terms_ 0 = m m_kept_ 18 := hW.2.2.2.2.2.1.1
  have ky := hK.2.2.2.2.1
  have hD1 : D_s (lg m 3 0 (m x_will_terms_ 0)) (cw_put (cw_put (cw_put (cw_put (lg m 3 0 (m x_will_terms_ 0)) x_will_terms_ 0 (m x_will_terms_ 0 + 1)) x_ 19 1) x_settler_ 0 (-1)) x_ 16 0) := (D_sp (D_sp (D_sp (D_sp D_sr (by decide)) (by decide)) (by decide)) (by decide))
  have hD : D_s m (cw_put (cw_put (cw_put (cw_put (lg m 3 0 (m x_will_terms_ 0)) x_will_terms_ 0 (m x_will_terms_ 0 + 1)) x_ 19 1) x_settler_ 0 (-1)) x_ 16 0) := D_st lg_D hD1
  refine C_pass hm hf (by omega) (la_kM hk).1 (by omega) (fun q => ⟨cr_ok hm, J_sd hs hI cr_D, ⟨_, rfl⟩, ?_⟩) (fun q => ⟨(la_put (la_put (la_put (la_put (lg_ok hm) (by decide) (Or.inr (by decide))) (by decide) (Or.inl rfl)) (by decide) (Or.inl rfl)) (by decide) (Or.inl rfl)), J_sd hs hI hD, ⟨_, rfl⟩, ?_⟩)
  · have e : pa_c (m m_kept_) = -3 := by unfold pa_c; rw [if_pos (by omega)]
    refine M_pass (cr_ok hm) (J_rfb hn (J_Bd cr_D hB)) (show 0 ≤ m m_ 44 ∧ m m_ 44 ≤ 16 by omega) ky (fun x => absurd (e.symm.trans x) (by decide)) (fun _ => ?_)
    show (some (vi (pa_c (m m_kept_))) = _) ∧ J_I (n + 1) sc S (rf_m (cr_m m (-3) 2) (pa_c (m m_kept_)))
    rw [e]; exact ⟨rfl, J_r3 hn hs hI⟩
  · have e : pa_c (m m_kept_) = 0 := by unfold pa_c; rw [if_neg (by omega)]
    have ek : (cw_put (cw_put (cw_put (cw_put (lg m 3 0 (m x_will_terms_ 0)) x_will_terms_ 0 (m x_will_terms_ 0 + 1)) x_ 19 1) x_settler_ 0 (-1)) x_ 16 0) m_kept_ = m m_kept_ := D_sm hD (by decide)
    have em : (cw_put (cw_put (cw_put (cw_put (lg m 3 0 (m x_will_terms_ 0)) x_will_terms_ 0 (m x_will_terms_ 0 + 1)) x_ 19 1) x_settler_ 0 (-1)) x_ 16 0) m_ = m m_ := D_sm hD (by decide)
    refine M_pass (la_put (la_put (la_put (la_put (lg_ok hm) (by decide) (Or.inr (by decide))) (by decide) (Or.inl rfl)) (by decide) (Or.inl rfl)) (by decide) (Or.inl rfl)) (J_rfb hn (J_Bd hD hB)) (by rw [em]; omega) (by rw [ek]; exact ky) (fun x => ?_) (fun x => ?_)
    · rw [ek]
      refine ⟨by rw [t0], ?_⟩
      refine J_k3 hn hs hI (la_put (la_put (la_put (la_put (lg_ok hm) (by decide) (Or.inr (by decide))) (by decide) (Or.inl rfl)) (by decide) (Or.inl rfl)) (by decide) (Or.inl rfl)) hD ⟨K_rV hK (by unfold K_v; omega), ?_, ?_, E_s1 rfl⟩ (show lg m 3 0 (m x_will_terms_ 0) x_refusals_ = m x_refusals_ from lg_ne (by decide)) rfl (show lg m 3 0 (m x_will_terms_ 0) x_ 14 = m x_ 14 by rw [lg_ne (by decide)]) (show lg m 3 0 (m x_will_terms_ 0) x_ 15 = m x_ 15 by rw [lg_ne (by decide)]) (show lg m 3 0 (m x_will_terms_ 0) x_ 17 = m x_ 17 by rw [lg_ne (by decide)]) (show lg m 3 0 (m x_will_terms_ 0) x_reader_ = m x_reader_ from lg_ne (by decide)) (show lg m 3 0 (m x_will_terms_ 0) x_reader_bytes_ = m x_reader_bytes_ from lg_ne (by decide)) ?_ ?_
      · exact W_mr (show lg m 3 0 (m x_will_terms_ 0) x_will_ 0 = m x_will_ 0 by rw [lg_ne (by decide)]) (show lg m 3 0 (m x_will_terms_ 0) x_will_ 4 = m x_will_ 4 by rw [lg_ne (by decide)]) (show lg m 3 0 (m x_will_terms_ 0) x_will_ 6 = m x_will_ 6 by rw [lg_ne (by decide)]) (show lg m 3 0 (m x_will_terms_ 0) x_will_ 8 = m x_will_ 8 by rw [lg_ne (by decide)]) (show lg m 3 0 (m x_will_terms_ 0) x_will_ 11 = m x_will_ 11 by rw [lg_ne (by decide)]) (show lg m 3 0 (m x_will_terms_ 0) x_will_ 13 = m x_will_ 13 by rw [lg_ne (by decide)]) (show lg m 3 0 (m x_will_terms_ 0) x_will_owner_ = m x_will_owner_ from lg_ne (by decide)) (show lg m 3 0 (m x_will_terms_ 0) x_will_kinds_ = m x_will_kinds_ from lg_ne (by decide)) (show lg m 3 0 (m x_will_terms_ 0) x_will_marks_ = m x_will_marks_ from lg_ne (by decide)) (show _ = cw_up (m x_will_terms_) 0 (m m_kept_ 18 + 1) by rw [cw_put_ne (by decide), cw_put_ne (by decide), cw_put_ne (by decide), cw_put_r, lg_ne (by decide), t0]) (show lg m 3 0 (m x_will_terms_ 0) x_will_held_ = m x_will_held_ from lg_ne (by decide)) (show lg m 3 0 (m x_will_terms_ 0) x_will_toldOf_ = m x_will_toldOf_ from lg_ne (by decide)) (show lg m 3 0 (m x_will_terms_ 0) x_will_toldMuch_ = m x_will_toldMuch_ from lg_ne (by decide)) (show lg m 3 0 (m x_will_terms_ 0) x_will_lawAt_ = m x_will_lawAt_ from lg_ne (by decide)) (W_qe (q_tr0 hW) (D_sh hD))
      · exact D_s2 hD hZ (show lg m 3 0 (m x_will_terms_ 0) x_ 18 = m x_ 18 by rw [lg_ne (by decide)]) rfl (cw_up_ne (by omega)) (fun i a b => cw_up_ne (by omega)) hK.1
      · have z := lg_G (de := 3) (pl := 0) (ol := m x_will_terms_ 0) (v := m m_kept_ 18 + 1) hC.2.2.2.2.1 t0 (by decide) (fun z => absurd z (by decide)) (fun z => absurd z (by decide)) (by show K_u 18 (m m_kept_ 18); unfold K_u; omega)
        exact z
      · exact j_Hd hD (cw_up_ne (by omega)) (show lg m 3 0 (m x_will_terms_ 0) x_will_lawAt_ = m x_will_lawAt_ from lg_ne (by decide)) hC.2.2.2.2.2
    · rw [ek, e] at x; exact absurd x (by decide)
