/-! Changes done to both: name, feed, years (wip/whole/tools/m153.py). -/
theorem ap_ne {m : cw_M} {kd mk p c : Int} (h : c ∉ [x_will_, x_will_kinds_, x_will_marks_, x_will_owner_]) : ap_m m kd mk p c = m c := by
  have h1 := U_n h (show x_will_ ∈ _ by decide)
  have h2 := U_n h (show x_will_kinds_ ∈ _ by decide)
  have h3 := U_n h (show x_will_marks_ ∈ _ by decide)
  have h4 := U_n h (show x_will_owner_ ∈ _ by decide)
  unfold ap_m
  split
  · rw [cw_put_ne h1, cw_put_ne h4, cw_put_ne h3, cw_put_ne h2]
  · rw [cw_put_ne h1, cw_put_ne h4]
theorem ap_D {m : cw_M} {kd mk p : Int} : D_s m (ap_m m kd mk p) := by
  unfold ap_m
  split
  · exact D_sp (D_sp (D_sp (D_sp D_sr (by decide)) (by decide)) (by decide)) (by decide)
  · exact D_sp (D_sp D_sr (by decide)) (by decide)
theorem c_cb {K : Int → Int} {nm kd mk p : Int} (h : nm = K 46) (hK : 0 ≤ K 46) : c_cj nm kd mk p ↔ c_be K kd mk p := by
  unfold c_cj c_be
  rw [h]
  by_cases q : K 46 = 0
  · rw [if_pos q, if_pos q]; omega
  · rw [if_neg q, if_neg q]; omega
theorem K_ra {K : Int → Int} {kd mk p : Int} (hK : K_r K) (h : c_be K kd mk p) (h7 : K 46 < 7) : K_r (k_add K kd mk p) := by
  have k := hK.1
  unfold c_be at h
  unfold k_add
  split
  · exact K_rV (K_rV (K_rV (K_rV hK (by unfold K_v; omega)) (by unfold K_v; omega)) (by unfold K_v; omega)) (by unfold K_v; omega)
  · exact K_rV (K_rV hK (by unfold K_v; omega)) (by unfold K_v; omega)
theorem W_ap {m : cw_M} {K : Int → Int} {kd mk p : Int} (hW : W_r m K) (hK : K_r K) (h7 : K 46 < 7) : W_r (ap_m m kd mk p) (k_add K kd mk p) := by
  have e : m x_will_ 0 = K 46 := hW.1
  have k := hK.1
  have hD := ap_D (m := m) (kd := kd) (mk := mk) (p := p)
  unfold ap_m at hD ⊢
  unfold k_add
  by_cases q : 0 < K 46
  · rw [if_pos (by rw [e]; exact q)] at hD ⊢
    rw [if_pos q]
    refine W_mr (nm := K 46 + 1) (ow := cw_up (m x_will_owner_) (K 46) p) (kd := cw_up (m x_will_kinds_) (K 46 - 1) kd) (mk := cw_up (m x_will_marks_) (K 46 - 1) mk) (show m x_will_ 0 + 1 = K 46 + 1 by rw [e]) rfl rfl rfl rfl rfl ?_ ?_ ?_ rfl rfl rfl rfl rfl (W_qe ?_ (D_sh hD))
    · rw [cw_put_ne (by decide), cw_put_r, cw_put_ne (by decide), cw_put_ne (by decide), e]
    · rw [cw_put_ne (by decide), cw_put_ne (by decide), cw_put_ne (by decide), cw_put_r, e]
    · rw [cw_put_ne (by decide), cw_put_ne (by decide), cw_put_r, cw_put_ne (by decide), e]
    · have z := q_kd (j := K 46 - 1) (x := kd) (by omega) (q_ow (j := K 46) (x := p) (by omega) hW)
      rw [show 6 + (K 46 - 1) = 5 + K 46 by omega] at z
      exact q_nm (q_mk (by omega) z)
  · rw [if_neg (by rw [e]; exact q)] at hD ⊢
    rw [if_neg q]
    refine W_mr (nm := K 46 + 1) (ow := cw_up (m x_will_owner_) (K 46) p) (show m x_will_ 0 + 1 = K 46 + 1 by rw [e]) rfl rfl rfl rfl rfl ?_ rfl rfl rfl rfl rfl rfl rfl (W_qe ?_ (D_sh hD))
    · rw [cw_put_ne (by decide), cw_put_r, e]
    · exact q_nm (q_ow (by omega) hW)
theorem k_ad {K : Int → Int} {kd mk p i : Int} (h : 0 ≤ K 46 ∧ K 46 < 7) (hi : 46 < i) : k_add K kd mk p i = K i := by
  unfold k_add
  rw [cw_up_ne (by omega)]
  split
  · rw [cw_up_ne (by omega), cw_up_ne (by omega), cw_up_ne (by omega)]
  · rw [cw_up_ne (by omega)]
theorem rx_D {m : cw_M} {ba : Int → Int} {l : Int} : D_s m (rx_m m ba l) := fun c q => rx_m_ne (fun e => by rw [e] at q; revert q; decide) (fun e => by rw [e] at q; revert q; decide)
theorem f_5F {a : cw_M} {x y z u v : Int} : F_m a (f_5m a x y z u v) := F_mt (F_mt (F_mt (F_mt (F_mp (by decide)) (F_mp (by decide))) (F_mp (by decide))) (F_mp (by decide))) (F_mp (by decide))
theorem J_name {n sc : Int} {S : Int → Int} (hn : n < 600) (hs : sc < 33554432) {kd mk p : Int} : J_P n sc S vi 200 k_C_name k_M_name [vi kd, vi mk, vi p] := by
  intro m hI
  have hm := hI.1.1
  have hk := hI.1.2
  have hK := hI.2.1.1
  have hW := hI.2.1.2.1
  have hZ := hI.2.1.2.2.1
  have hE := hI.2.1.2.2.2
  have hB := hI.2.2.1
  have hC := hI.2.2.2.1
  have hr := J_rfb hn hB
  have hf := J_cfb hn hB hC
  have e0 : m x_will_ 0 = m m_kept_ 46 := hW.1
  have k46 := hK.1
  have cb := c_cb (kd := kd) (mk := mk) (p := p) e0 k46.1
  have hD1 : D_s (ap_m m kd mk p) (cw_put (cw_put (cw_put (cw_put (cw_put (ap_m m kd mk p) x_log_ 0 0) x_ 18 1) x_ 19 1) x_settler_ 0 (-1)) x_ 16 0) := (D_sp (D_sp (D_sp (D_sp (D_sp D_sr (by decide)) (by decide)) (by decide)) (by decide)) (by decide))
  have hD : D_s m (cw_put (cw_put (cw_put (cw_put (cw_put (ap_m m kd mk p) x_log_ 0 0) x_ 18 1) x_ 19 1) x_settler_ 0 (-1)) x_ 16 0) := D_st ap_D hD1
  refine C_name hm hf (by omega) (fun q => ⟨cr_ok hm, J_sd hs hI cr_D, ⟨_, rfl⟩, ?_⟩) (fun q => ⟨cr_ok hm, J_sd hs hI cr_D, ⟨_, rfl⟩, ?_⟩) (fun q => ⟨(la_put (la_put (la_put (la_put (la_put (ap_ok hm) (by decide) (Or.inl rfl)) (by decide) (Or.inl rfl)) (by decide) (Or.inl rfl)) (by decide) (Or.inl rfl)) (by decide) (Or.inl rfl)), J_sd hs hI hD, ⟨_, rfl⟩, ?_⟩)
  · exact M_name (cr_ok hm) k46 (J_rfb hn (J_Bd cr_D hB)) (fun x y => absurd (cb.mpr x) q) (fun x y => absurd (cb.mpr x) q) (fun _ => ⟨rfl, J_r1 hn hs hI⟩)
  · exact M_name (cr_ok hm) k46 (J_rfb hn (J_Bd cr_D hB)) (fun x y => absurd (show m m_kept_ 46 < 7 from y) (by omega)) (fun x y => ⟨rfl, J_r5 hn hs hI⟩) (fun x => absurd (cb.mp q.1) x)
  · have ek : (cw_put (cw_put (cw_put (cw_put (cw_put (ap_m m kd mk p) x_log_ 0 0) x_ 18 1) x_ 19 1) x_settler_ 0 (-1)) x_ 16 0) m_kept_ = m m_kept_ := D_sm hD (by decide)
    refine M_name (la_put (la_put (la_put (la_put (la_put (ap_ok hm) (by decide) (Or.inl rfl)) (by decide) (Or.inl rfl)) (by decide) (Or.inl rfl)) (by decide) (Or.inl rfl)) (by decide) (Or.inl rfl)) (by rw [ek]; exact k46) (J_rfb hn (J_Bd hD hB)) (fun x y => ?_) (fun x y => ?_) (fun x => ?_)
    · rw [ek] at x y ⊢
      refine ⟨by rw [e0], ?_⟩
      refine J_k2 hn hs hI (la_put (la_put (la_put (la_put (la_put (ap_ok hm) (by decide) (Or.inl rfl)) (by decide) (Or.inl rfl)) (by decide) (Or.inl rfl)) (by decide) (Or.inl rfl)) (by decide) (Or.inl rfl)) hD ⟨K_ra hK x y, ?_, D_sS hD hZ rfl rfl, E_s1 rfl⟩ (show ap_m m kd mk p x_refusals_ = m x_refusals_ from ap_ne (by decide)) rfl (show ap_m m kd mk p x_ 14 = m x_ 14 by rw [ap_ne (by decide)]) (show ap_m m kd mk p x_ 15 = m x_ 15 by rw [ap_ne (by decide)]) (show ap_m m kd mk p x_ 17 = m x_ 17 by rw [ap_ne (by decide)]) (show ap_m m kd mk p x_reader_ = m x_reader_ from ap_ne (by decide)) (show ap_m m kd mk p x_reader_bytes_ = m x_reader_bytes_ from ap_ne (by decide)) rfl ?_
      · exact W_mr rfl rfl rfl rfl rfl rfl rfl rfl rfl rfl rfl rfl rfl rfl (W_qe (W_ap hW hK y) (D_sh hD1))
      · exact j_Hd hD (k_ad ⟨k46.1, y⟩ (by decide)) (show ap_m m kd mk p x_will_lawAt_ = m x_will_lawAt_ from ap_ne (by decide)) hC.2.2.2.2.2
    · rw [ek] at y; exact absurd y (by omega)
    · rw [ek] at x; exact absurd (cb.mp q.1) x
theorem J_feed {n sc : Int} {S : Int → Int} (hn : n < 600) (hs : sc < 33554432) {a b c e f : Int} : J_P n sc S vi 200 k_C_feed k_M_feed [vi a, vi b, vi c, vi e, vi f] := by
  intro m hI
  have hm := hI.1.1
  have hk := hI.1.2
  have hK := hI.2.1.1
  have hW := hI.2.1.2.1
  have hZ := hI.2.1.2.2.1
  have hE := hI.2.1.2.2.2
  have hB := hI.2.2.1
  have hC := hI.2.2.2.1
  have hr := J_rfb hn hB
  have hf := J_cfb hn hB hC
  have hmm : (33554432 : Int) ≤ m_ := by decide
  have hT := hC.2.2.1
  have eT : m x_reader_ 1 = m m_ 13 := hT.1
  refine C_feed hm (by have := hT.2.1; omega) (fun q ba hlo hhi => ⟨rx_m_ok hm, J_sd hs hI rx_D, ⟨_, rfl⟩, ?_⟩) (fun q => ⟨hm, J_s hI, ⟨_, rfl⟩, ?_⟩)
  · have hD : D_s m (rx_m m ba (m x_reader_ 1 + 20)) := rx_D
    have em : (rx_m m ba (m x_reader_ 1 + 20)) m_ = m m_ := D_sm hD (by decide)
    have et : (rx_m m ba (m x_reader_ 1 + 20)) m_tape_ = m m_tape_ := D_sm hD (by decide)
    refine M_feed (rx_m_ok hm) (by rw [em]; have := hT.2.1; omega) (fun x => ?_) (fun x => absurd (show m m_ 13 + 20 ≤ 400 by omega) (by rw [em] at x; exact x))
    rw [em, et]
    refine ⟨by rw [eT], ?_⟩
    refine J_up (by omega) (la_put (tp_ok (f_5ok (rx_m_ok hm))) (by decide) (Or.inl rfl)) (F_mt f_5F (F_mt (F_mw (by decide)) (F_mp (by decide)))) rfl (D_sk hD hk) ⟨hK, ?_, ?_, ?_⟩ (by have z := J_Bm (J_Bd hD hB); exact z) ⟨hC.1, hC.2.1, ⟨?_, ?_, fun i u v => ?_⟩, hC.2.2.2.1, hC.2.2.2.2.1, ?_⟩ (J_Nm hn (D_sN hs hD hI.2.2.2.2))
    · exact W_mr rfl rfl rfl rfl rfl rfl rfl rfl rfl rfl rfl rfl rfl rfl (W_qe (hW) (D_sh hD))
    · exact D_s3 hD hZ rfl rfl rfl K_pr (fun _ _ _ => rfl) hK.1
    · exact E_s2 hE rfl rfl K_pr (fun _ _ _ => rfl) hK.1
    · show m x_reader_ 1 + 20 = m m_ 13 + 20; rw [eT]
    · show 0 ≤ m x_reader_ 1 + 20 ∧ m x_reader_ 1 + 20 ≤ 400
      have := hT.2.1; omega
    · have v2 : i < m x_reader_ 1 + 20 := v
      show (0 ≤ ba i ∧ ba i ≤ 255) ∧ t_w (m m_tape_) (m m_ 13) 0 20 (fun k => cw_i2b (f_20 a b c e f k)) i = cw_i2b (ba i)
      unfold t_w
      by_cases z : i < m x_reader_ 1
      · rw [if_neg (by omega), hlo i z]; exact hT.2.2 i u z
      · rw [if_pos (by omega)]
        obtain ⟨k, ek⟩ : ∃ k, i = m x_reader_ 1 + k := ⟨i - m x_reader_ 1, by omega⟩
        subst ek
        rw [hhi k (by omega) (by omega)]
        refine ⟨i_255b.1, ?_⟩
        rw [i_255b.2, show m x_reader_ 1 + k - m m_ 13 = k by omega]
    · exact j_Hd hD rfl rfl hC.2.2.2.2.2
  · refine M_feed hm (by have := hT.2.1; omega) (fun x => absurd (show m x_reader_ 1 + 20 ≤ 400 by omega) q) (fun _ => ⟨rfl, J_0 hn hI⟩)
theorem J_years {n sc : Int} {S : Int → Int} (hn : n < 600) (hs : sc < 33554432) {sd l : Int} : J_P n sc S vi 200 k_C_years k_M_years [vi sd, vi l] := by
  intro m hI
  have hm := hI.1.1
  have hk := hI.1.2
  have hK := hI.2.1.1
  have hW := hI.2.1.2.1
  have hZ := hI.2.1.2.2.1
  have hE := hI.2.1.2.2.2
  have hB := hI.2.2.1
  have hC := hI.2.2.2.1
  have hr := J_rfb hn hB
  have hf := J_cfb hn hB hC
  have hmm : (33554432 : Int) ≤ m_ := by decide
  refine C_years hm (la_kT hk) hK hW hZ hf (la_kM hk).1 (fun q => ⟨cr_ok hm, J_sd hs hI cr_D, ⟨_, rfl⟩, ?_⟩) (fun q1 q2 M lv hM hV hZM hb => ⟨la_put (la_put hM (by decide) (Or.inl rfl)) (by decide) (Or.inl rfl), ?_, ⟨_, rfl⟩, ?_⟩)
  · exact M_years (cr_ok hm) (J_rfb hn (J_Bd cr_D hB)) (la_kC (D_sk cr_D hk)) hK (fun _ => ⟨rfl, J_r1 hn hs hI⟩) (fun x y => absurd ⟨x, y⟩ q)
  · rw [(show D_s M (cw_put (cw_put M x_ 17 lv) x_ 16 0) from (D_sp (D_sp D_sr (by decide)) (by decide))) sc (Or.inr (Or.inl hs)), V_pk (V_sp hV) sc (Or.inl hs)]; exact J_s hI
  · have hD : D_s M (cw_put (cw_put M x_ 17 lv) x_ 16 0) := (D_sp (D_sp D_sr (by decide)) (by decide))
    have hV2 := V_sp hV
    have mk := fun c (q : m_ ≤ c) => V_pk hV2 c (Or.inr q)
    have ek : (cw_put (cw_put M x_ 17 lv) x_ 16 0) m_kept_ = m m_kept_ := by rw [D_sm hD (by decide), mk _ (by decide)]
    have hkA : la_k (cw_put (cw_put M x_ 17 lv) x_ 16 0) := D_sk hD (V_pl hV2 hk)
    have hWM : W_r M (m m_kept_) := W_rV hW hV
    have hBM : J_B n M := by
      unfold J_B at hB ⊢
      rw [mk m_words_ (by decide), mk m_refused_ (by decide)]
      exact hB
    have okA : la_ok (cw_put (cw_put M x_ 17 lv) x_ 16 0) := la_put (la_put hM (by decide) (Or.inl rfl)) (by decide) (Or.inl rfl)
    refine M_years okA (J_rfb hn (J_Bd hD hBM)) (la_kC hkA) (by rw [ek]; exact hK) (fun x => absurd ⟨q1, q2⟩ x) (fun _ _ b hb2 hU => ?_)
    rw [ek] at hU ⊢
    refine ⟨rfl, ?_⟩
    have hF : F_m (cw_put (cw_put M x_ 17 lv) x_ 16 0) b := F_mt (F_mt (F_mw (c := m_drawnMoved_) (by decide)) (F_mt (F_mp (by decide)) gd_F)) (F_mU hU)
    obtain ⟨r, s, t, -, g, h6⟩ := J_CV hV2 hC
    refine J_up (by omega) hb2 hF ?_ hkA ?_ (J_Bm (J_BU hU (by have z := J_Bd hD hBM; exact z))) (J_CU hU ?_) (J_Nm hn (D_sN hs hD (J_NV hs hV2 hI.2.2.2.2)))
    · rw [hU.1 _ (by decide) (by decide)]; rfl
    · rw [hU.1 _ (by decide) (by decide)]
      show J_A (cw_put (cw_put M x_ 17 lv) x_ 16 0) ((cw_put (cw_put M x_ 17 lv) x_ 16 0) m_kept_)
      rw [ek]
      exact ⟨hK, W_mr rfl rfl rfl rfl rfl rfl rfl rfl rfl rfl rfl rfl rfl rfl (W_qe hWM (D_sh hD)), D_s3 hD hZM rfl rfl rfl K_pr (fun _ _ _ => rfl) hK.1, E_s2 (E_sV hE hV) rfl rfl K_pr (fun _ _ _ => rfl) hK.1⟩
    · refine ⟨?_, ⟨rfl, ?_, ?_, ?_⟩, ?_, Or.inr ⟨?_, ?_⟩, ?_, ?_⟩
      · show j_R (M x_refusals_) ((cw_put (cw_put M x_ 17 lv) x_ 16 0) m_refused_); rw [D_sm hD (show m_ ≤ m_refused_ by decide), mk m_refused_ (by decide)]; exact r
      · show M x_ 14 = (cw_put (cw_put M x_ 17 lv) x_ 16 0) m_ 6; rw [D_sm hD (show m_ ≤ m_ by decide), mk m_ (by decide)]; exact s.2.1
      · show M x_ 15 = (cw_put (cw_put M x_ 17 lv) x_ 16 0) m_ 45; rw [D_sm hD (show m_ ≤ m_ by decide), mk m_ (by decide)]; exact s.2.2.1
      · show M x_reader_ 2 = (cw_put (cw_put M x_ 17 lv) x_ 16 0) m_ 14; rw [D_sm hD (show m_ ≤ m_ by decide), mk m_ (by decide)]; exact s.2.2.2
      · show j_T (M x_reader_ 1) (M x_reader_bytes_) ((cw_put (cw_put M x_ 17 lv) x_ 16 0) m_ 13) ((cw_put (cw_put M x_ 17 lv) x_ 16 0) m_tape_); rw [D_sm hD (show m_ ≤ m_ by decide), D_sm hD (show m_ ≤ m_tape_ by decide), mk m_ (by decide), mk m_tape_ (by decide)]; exact t
      · show (1 : Int) ≠ 0; decide
      · refine ⟨hb.1, fun p x y => ?_⟩
        refine (hb.2 p x y).trans ?_
        show _ = t_w _ 0 0 19 (fun x => (y_l l.toNat (m m_kept_) sd 0).1 x) (12 + p)
        unfold t_w
        rw [if_pos (by omega), Int.sub_zero]
      · show j_G (M x_log_ 0) (M x_log_what_) (M x_log_where_) (M x_log_was_) ((cw_put (cw_put M x_ 17 lv) x_ 16 0) m_ 44) ((cw_put (cw_put M x_ 17 lv) x_ 16 0) m_left0_) ((cw_put (cw_put M x_ 17 lv) x_ 16 0) m_kept_)
        rw [D_sm hD (show m_ ≤ m_ by decide), D_sm hD (show m_ ≤ m_left0_ by decide), D_sm hD (show m_ ≤ m_kept_ by decide), mk m_ (by decide), mk m_left0_ (by decide), mk m_kept_ (by decide)]; exact g
      · show j_H (cw_put (cw_put M x_ 17 lv) x_ 16 0) ((cw_put (cw_put M x_ 17 lv) x_ 16 0) m_kept_) ((cw_put (cw_put M x_ 17 lv) x_ 16 0) m_hasImage_) ((cw_put (cw_put M x_ 17 lv) x_ 16 0) m_images_)
        rw [D_sm hD (show m_ ≤ m_hasImage_ by decide), D_sm hD (show m_ ≤ m_images_ by decide), ek, mk m_hasImage_ (by decide), mk m_images_ (by decide)]
        exact j_Hd hD rfl rfl h6
