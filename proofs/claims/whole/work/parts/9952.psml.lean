/-! Changes done to both: told, judge, forget, force, terms, end (wip/whole/tools/m152.py). -/
theorem J_sd {n sc : Int} {S : Int → Int} {m a : cw_M} (hs : sc < 33554432) (hI : J_I n sc S m) (hD : D_s m a) : a sc = S := (hD sc (Or.inr (Or.inl hs))).trans (J_s hI)
theorem K_pt {K K' K'' : Int → Int} (h : K_p K K') (h2 : K_p K' K'') : K_p K K'' := ⟨fun i a b => (h2.1 i a b).trans (h.1 i a b), h2.2.1.trans h.2.1, h2.2.2.1.trans h.2.2.1, h2.2.2.2.1.trans h.2.2.2.1, h2.2.2.2.2.1.trans h.2.2.2.2.1, h2.2.2.2.2.2.1.trans h.2.2.2.2.2.1, Int.le_trans h.2.2.2.2.2.2 h2.2.2.2.2.2.2⟩
theorem K_pU {K : Int → Int} {i v : Int} (hi : (26 ≤ i ∧ i < 43) ∨ i = 47 ∨ i = 48) (h50 : -1 ≤ K 50) : K_p K (cw_up K i v) := ⟨fun j a b => cw_up_ne (by omega), cw_up_ne (by omega), cw_up_ne (by omega), cw_up_ne (by omega), cw_up_ne (by omega), by rw [cw_up_ne (show (50 : Int) ≠ i by omega)]; exact l_foU (by omega) h50, by rw [cw_up_ne (show (49 : Int) ≠ i by omega)]; exact Int.le_refl _⟩
/-- a change of what is kept was accepted -/
theorem J_k1 {n sc : Int} {S : Int → Int} {m a : cw_M} {K' : Int → Int} (hn : n < 600) (hs : sc < 33554432) (hI : J_I n sc S m) (ha : la_ok a) (hD : D_s m a) (hA : J_A a K') (hR : a x_refusals_ = m x_refusals_) (h16 : a x_ 16 = 0) (h14 : a x_ 14 = m x_ 14) (h15 : a x_ 15 = m x_ 15) (h17 : a x_ 17 = m x_ 17) (hrd : a x_reader_ = m x_reader_) (hby : a x_reader_bytes_ = m x_reader_bytes_) (hlog : j_G (a x_log_ 0) (a x_log_what_) (a x_log_where_) (a x_log_was_) (m m_ 44) (m m_left0_) K') (hH : j_H a K' (m m_hasImage_) (m m_images_)) : J_I (n + 1) sc S (gd_m (kr_m a K')) := by
  obtain ⟨⟨h1, h2⟩, -, hB, hC, hN⟩ := hI
  have hm : (33554432 : Int) ≤ m_ := by decide
  obtain ⟨r, s, t, dd, -, -⟩ := hC
  have k := fun c (q : m_ ≤ c) => D_sm hD q
  have hF : F_m a (gd_m (kr_m a K')) := F_mt kr_F gd_F
  refine J_up (by omega) (gd_ok (kr_ok ha)) hF rfl (D_sk hD h2) hA (by have z := J_Bm (J_Bd hD hB); exact z) ⟨?_, ⟨?_, ?_, ?_, ?_⟩, ?_, ?_, ?_, ?_⟩ (J_Nm hn (D_sN hs hD hN))
  · rw [hR]; show j_R _ (a m_refused_); rw [k m_refused_ (by decide)]; exact r
  · rw [h16]; rfl
  · rw [h14]; show _ = a m_ 6; rw [k m_ (by decide)]; exact s.2.1
  · rw [h15]; show _ = a m_ 45; rw [k m_ (by decide)]; exact s.2.2.1
  · rw [hrd]; show _ = a m_ 14; rw [k m_ (by decide)]; exact s.2.2.2
  · rw [hrd, hby]; show j_T _ _ (a m_ 13) (a m_tape_); rw [k m_ (by decide), k m_tape_ (by decide)]; exact t
  · rw [h17]; show j_D _ (a m_ 53) (a m_drawnMoved_); rw [k m_ (by decide), k m_drawnMoved_ (by decide)]; exact dd
  · show j_G _ _ _ _ (a m_ 44) (a m_left0_) K'; rw [k m_ (by decide), k m_left0_ (by decide)]; exact hlog
  · show j_H a K' (a m_hasImage_) (a m_images_); rw [k m_hasImage_ (by decide), k m_images_ (by decide)]; exact hH
theorem J_k2 {n sc : Int} {S : Int → Int} {m a : cw_M} {K' : Int → Int} (hn : n < 600) (hs : sc < 33554432) (hI : J_I n sc S m) (ha : la_ok a) (hD : D_s m a) (hA : J_A a K') (hR : a x_refusals_ = m x_refusals_) (h16 : a x_ 16 = 0) (h14 : a x_ 14 = m x_ 14) (h15 : a x_ 15 = m x_ 15) (h17 : a x_ 17 = m x_ 17) (hrd : a x_reader_ = m x_reader_) (hby : a x_reader_bytes_ = m x_reader_bytes_) (hlog : a x_log_ 0 = 0) (hH : j_H a K' (m m_hasImage_) (m m_images_)) : J_I (n + 1) sc S (sd_m (kr_m a K')) := by
  obtain ⟨⟨h1, h2⟩, -, hB, hC, hN⟩ := hI
  have hm : (33554432 : Int) ≤ m_ := by decide
  obtain ⟨r, s, t, dd, -, -⟩ := hC
  have k := fun c (q : m_ ≤ c) => D_sm hD q
  have hF : F_m a (sd_m (kr_m a K')) := F_mt kr_F sd_F
  refine J_up (by omega) (sd_ok (kr_ok ha)) hF rfl (D_sk hD h2) hA (by have z := J_Bm (J_Bd hD hB); exact z) ⟨?_, ⟨?_, ?_, ?_, ?_⟩, ?_, ?_, ?_, ?_⟩ (J_Nm hn (D_sN hs hD hN))
  · rw [hR]; show j_R _ (a m_refused_); rw [k m_refused_ (by decide)]; exact r
  · rw [h16]; rfl
  · rw [h14]; show _ = a m_ 6; rw [k m_ (by decide)]; exact s.2.1
  · rw [h15]; show _ = a m_ 45; rw [k m_ (by decide)]; exact s.2.2.1
  · rw [hrd]; show _ = a m_ 14; rw [k m_ (by decide)]; exact s.2.2.2
  · rw [hrd, hby]; show j_T _ _ (a m_ 13) (a m_tape_); rw [k m_ (by decide), k m_tape_ (by decide)]; exact t
  · rw [h17]; show j_D _ (a m_ 53) (a m_drawnMoved_); rw [k m_ (by decide), k m_drawnMoved_ (by decide)]; exact dd
  · exact j_G0 hlog rfl
  · show j_H a K' (a m_hasImage_) (a m_images_); rw [k m_hasImage_ (by decide), k m_images_ (by decide)]; exact hH
theorem J_told {n sc : Int} {S : Int → Int} (hn : n < 600) (hs : sc < 33554432) {p v : Int} : J_P n sc S vi 200 k_C_told k_M_told [vi p, vi v] := by
  intro m hI
  have hm := hI.1.1
  have hk := hI.1.2
  have hK := hI.2.1.1
  have hW := hI.2.1.2.1
  have hZ := hI.2.1.2.2.1
  have hE := hI.2.1.2.2.2
  have hB := hI.2.2.1
  have hC := hI.2.2.2.1
  have hr := J_rfb hn hB
  have hf := J_cfb hn hB hC
  have e8 : m x_will_ 8 = m m_kept_ 48 := hW.2.2.2.2.2.2.2.2.1
  have k8 := hK.2.2.2.2.2.2.2.2.2.2.1
  have k50 := hK.2.2.2.2.2.2.2.2.2.2.2.2.1
  refine C_told hm hf (by omega) (fun q => ⟨cr_ok hm, J_sd hs hI cr_D, ⟨_, rfl⟩, ?_⟩) (fun q => ⟨cr_ok hm, J_sd hs hI cr_D, ⟨_, rfl⟩, ?_⟩) (fun q => ⟨(la_put (la_put (la_put (la_put hm (by decide) (Or.inr (by decide))) (by decide) (Or.inr (by decide))) (by decide) (Or.inl rfl)) (by decide) (Or.inl rfl)), J_sd hs hI (D_sp (D_sp (D_sp (D_sp D_sr (by decide)) (by decide)) (by decide)) (by decide)), ⟨_, rfl⟩, ?_⟩)
  · exact M_told (cr_ok hm) (J_rfb hn (J_Bd cr_D hB)) k8 (fun x y z => absurd (by omega) q) (fun x y z => absurd (by omega) q) (fun _ => ⟨rfl, J_r1 hn hs hI⟩)
  · exact M_told (cr_ok hm) (J_rfb hn (J_Bd cr_D hB)) k8 (fun x y z => absurd (show m m_kept_ 48 < 6 from z) (by omega)) (fun x y z => ⟨rfl, J_r5 hn hs hI⟩) (fun z => absurd (by omega) z)
  · have hD : D_s m (cw_put (cw_put (cw_put (cw_put m x_will_toldOf_ (m x_will_ 8) p) x_will_toldMuch_ (m x_will_ 8) v) x_will_ 8 (m x_will_ 8 + 1)) x_ 16 0) := (D_sp (D_sp (D_sp (D_sp D_sr (by decide)) (by decide)) (by decide)) (by decide))
    have kp : K_p (m m_kept_) (cw_up (cw_up (cw_up (m m_kept_) (31 + 2 * m m_kept_ 48) p) (31 + 2 * m m_kept_ 48 + 1) v) 48 (m m_kept_ 48 + 1)) := K_pt (K_pt (K_pU (by omega) k50.1) (K_pU (by omega) (by rw [cw_up_ne (by omega)]; exact k50.1))) (K_pU (by omega) (by rw [cw_up_ne (by omega), cw_up_ne (by omega)]; exact k50.1))
    have mk6 : ∀ i, 0 ≤ i → i < 19 → (cw_up (cw_up (cw_up (m m_kept_) (31 + 2 * m m_kept_ 48) p) (31 + 2 * m m_kept_ 48 + 1) v) 48 (m m_kept_ 48 + 1)) i = m m_kept_ i := fun i a b => by rw [cw_up_ne (by omega), cw_up_ne (by omega), cw_up_ne (by omega)]
    refine M_told (la_put (la_put (la_put (la_put hm (by decide) (Or.inr (by decide))) (by decide) (Or.inr (by decide))) (by decide) (Or.inl rfl)) (by decide) (Or.inl rfl)) (J_rfb hn (J_Bd hD hB)) k8 (fun x y z => ⟨?_, ?_⟩) (fun x y z => absurd (show m m_kept_ 48 = 6 from z) (by omega)) (fun z => absurd (by omega) z)
    · show some (vi (m m_kept_ 48 + 1)) = some (vi (m x_will_ 8 + 1)); rw [e8]
    · show J_I (n + 1) sc S (gd_m (kr_m (cw_put (cw_put (cw_put (cw_put m x_will_toldOf_ (m x_will_ 8) p) x_will_toldMuch_ (m x_will_ 8) v) x_will_ 8 (m x_will_ 8 + 1)) x_ 16 0) (cw_up (cw_up (cw_up (m m_kept_) (31 + 2 * m m_kept_ 48) p) (31 + 2 * m m_kept_ 48 + 1) v) 48 (m m_kept_ 48 + 1))))
      refine J_k1 hn hs hI (la_put (la_put (la_put (la_put hm (by decide) (Or.inr (by decide))) (by decide) (Or.inr (by decide))) (by decide) (Or.inl rfl)) (by decide) (Or.inl rfl)) hD ⟨?_, ?_, ?_, ?_⟩ rfl rfl rfl rfl rfl rfl rfl ?_ ?_
      · refine K_rV (K_rV (K_rV hK (by unfold K_v; omega)) (by unfold K_v; omega)) (by unfold K_v; omega)
      · exact W_mr rfl rfl rfl (show m x_will_ 8 + 1 = m m_kept_ 48 + 1 by rw [e8]) rfl rfl rfl rfl rfl rfl rfl (show _ = cw_up (m x_will_toldOf_) (m m_kept_ 48) p by rw [cw_put_ne (by decide), cw_put_ne (by decide), cw_put_ne (by decide), cw_put_r, e8]) (show _ = cw_up (m x_will_toldMuch_) (m m_kept_ 48) v by rw [cw_put_ne (by decide), cw_put_ne (by decide), cw_put_r, cw_put_ne (by decide), e8]) rfl (W_qe (q_td (q_tl (by omega) hW)) (D_sh hD))
      · exact D_s3 hD hZ rfl rfl rfl kp (fun i a b => mk6 i a (by omega)) hK.1
      · exact E_s2 hE rfl rfl kp (fun i a b => mk6 i a (by omega)) hK.1
      · exact j_GK hC.2.2.2.2.1 mk6
      · exact j_Hd hD (by rw [cw_up_ne (by omega), cw_up_ne (by omega), cw_up_ne (by omega)]) rfl hC.2.2.2.2.2
theorem J_judge {n sc : Int} {S : Int → Int} (hn : n < 600) (hs : sc < 33554432) {v : Int} : J_P n sc S vi 200 k_C_judge k_M_judge [vi v] := by
  intro m hI
  have hm := hI.1.1
  have hk := hI.1.2
  have hK := hI.2.1.1
  have hW := hI.2.1.2.1
  have hZ := hI.2.1.2.2.1
  have hE := hI.2.1.2.2.2
  have hB := hI.2.2.1
  have hC := hI.2.2.2.1
  have hr := J_rfb hn hB
  have hf := J_cfb hn hB hC
  have e6 : m x_will_ 6 = m m_kept_ 47 := hW.2.2.2.2.2.2.1
  have k7 := hK.2.2.2.2.2.2.2.2.2.1
  have k50 := hK.2.2.2.2.2.2.2.2.2.2.2.2.1
  refine C_judge hm hf (by omega) (fun q => ⟨cr_ok hm, J_sd hs hI cr_D, ⟨_, rfl⟩, ?_⟩) (fun q => ⟨cr_ok hm, J_sd hs hI cr_D, ⟨_, rfl⟩, ?_⟩) (fun q => ⟨(la_put (la_put (la_put hm (by decide) (Or.inr (by decide))) (by decide) (Or.inl rfl)) (by decide) (Or.inl rfl)), J_sd hs hI (D_sp (D_sp (D_sp D_sr (by decide)) (by decide)) (by decide)), ⟨_, rfl⟩, ?_⟩)
  · exact M_judge (cr_ok hm) (J_rfb hn (J_Bd cr_D hB)) k7 (fun x z => absurd (by omega) q) (fun x z => absurd (by omega) q) (fun _ => ⟨rfl, J_r1 hn hs hI⟩)
  · exact M_judge (cr_ok hm) (J_rfb hn (J_Bd cr_D hB)) k7 (fun x z => absurd (show m m_kept_ 47 < 5 from z) (by omega)) (fun x z => ⟨rfl, J_r5 hn hs hI⟩) (fun z => absurd (by omega) z)
  · have hD : D_s m (cw_put (cw_put (cw_put m x_will_held_ (m x_will_ 6) v) x_will_ 6 (m x_will_ 6 + 1)) x_ 16 0) := (D_sp (D_sp (D_sp D_sr (by decide)) (by decide)) (by decide))
    have kp : K_p (m m_kept_) (cw_up (cw_up (m m_kept_) (26 + m m_kept_ 47) v) 47 (m m_kept_ 47 + 1)) := K_pt (K_pU (by omega) k50.1) (K_pU (by omega) (by rw [cw_up_ne (by omega)]; exact k50.1))
    have mk6 : ∀ i, 0 ≤ i → i < 19 → (cw_up (cw_up (m m_kept_) (26 + m m_kept_ 47) v) 47 (m m_kept_ 47 + 1)) i = m m_kept_ i := fun i a b => by rw [cw_up_ne (by omega), cw_up_ne (by omega)]
    refine M_judge (la_put (la_put (la_put hm (by decide) (Or.inr (by decide))) (by decide) (Or.inl rfl)) (by decide) (Or.inl rfl)) (J_rfb hn (J_Bd hD hB)) k7 (fun x z => ⟨?_, ?_⟩) (fun x z => absurd (show m m_kept_ 47 = 5 from z) (by omega)) (fun z => absurd (by omega) z)
    · show some (vi (m m_kept_ 47 + 1)) = some (vi (m x_will_ 6 + 1)); rw [e6]
    · show J_I (n + 1) sc S (gd_m (kr_m (cw_put (cw_put (cw_put m x_will_held_ (m x_will_ 6) v) x_will_ 6 (m x_will_ 6 + 1)) x_ 16 0) (cw_up (cw_up (m m_kept_) (26 + m m_kept_ 47) v) 47 (m m_kept_ 47 + 1))))
      refine J_k1 hn hs hI (la_put (la_put (la_put hm (by decide) (Or.inr (by decide))) (by decide) (Or.inl rfl)) (by decide) (Or.inl rfl)) hD ⟨?_, ?_, ?_, ?_⟩ rfl rfl rfl rfl rfl rfl rfl ?_ ?_
      · refine K_rV (K_rV hK (by unfold K_v; omega)) (by unfold K_v; omega)
      · exact W_mr rfl rfl (show m x_will_ 6 + 1 = m m_kept_ 47 + 1 by rw [e6]) rfl rfl rfl rfl rfl rfl rfl (show _ = cw_up (m x_will_held_) (m m_kept_ 47) v by rw [cw_put_ne (by decide), cw_put_ne (by decide), cw_put_r, e6]) rfl rfl rfl (W_qe (q_jd (q_hd (by omega) hW)) (D_sh hD))
      · exact D_s3 hD hZ rfl rfl rfl kp (fun i a b => mk6 i a (by omega)) hK.1
      · exact E_s2 hE rfl rfl kp (fun i a b => mk6 i a (by omega)) hK.1
      · exact j_GK hC.2.2.2.2.1 mk6
      · exact j_Hd hD (by rw [cw_up_ne (by omega), cw_up_ne (by omega)]) rfl hC.2.2.2.2.2
theorem J_force {n sc : Int} {S : Int → Int} (hn : n < 600) (hs : sc < 33554432) {v : Int} : J_P n sc S vi 200 k_C_force k_M_force [vi v] := by
  intro m hI
  have hm := hI.1.1
  have hk := hI.1.2
  have hK := hI.2.1.1
  have hW := hI.2.1.2.1
  have hZ := hI.2.1.2.2.1
  have hE := hI.2.1.2.2.2
  have hB := hI.2.2.1
  have hC := hI.2.2.2.1
  have hr := J_rfb hn hB
  have hf := J_cfb hn hB hC
  have e11 : m x_will_ 11 = m m_kept_ 49 := hW.2.2.2.2.2.2.2.2.2.2.1
  have k9 := hK.2.2.2.2.2.2.2.2.2.2.2.1
  refine C_force hm hf (by omega) (fun q => ⟨cr_ok hm, J_sd hs hI cr_D, ⟨_, rfl⟩, ?_⟩) (fun q => ⟨(la_put (la_put (la_put (la_put hm (by decide) (Or.inl rfl)) (by decide) (Or.inl rfl)) (by decide) (Or.inl rfl)) (by decide) (Or.inl rfl)), J_sd hs hI (D_sp (D_sp (D_sp (D_sp D_sr (by decide)) (by decide)) (by decide)) (by decide)), ⟨_, rfl⟩, ?_⟩)
  · exact M_force (cr_ok hm) (J_rfb hn (J_Bd cr_D hB)) k9 (fun x z => absurd (show -1 ≤ v ∧ v < m x_will_ 11 from ⟨x, by rw [e11]; exact z⟩) q) (fun _ => ⟨rfl, J_r2 hn hs hI⟩)
  · have hD : D_s m (cw_put (cw_put (cw_put (cw_put m x_will_ 13 v) x_ 19 1) x_settler_ 0 (-1)) x_ 16 0) := (D_sp (D_sp (D_sp (D_sp D_sr (by decide)) (by decide)) (by decide)) (by decide))
    have mk6 : ∀ i, 0 ≤ i → i < 19 → (cw_up (m m_kept_) 50 v) i = m m_kept_ i := fun i a b => cw_up_ne (by omega)
    refine M_force (la_put (la_put (la_put (la_put hm (by decide) (Or.inl rfl)) (by decide) (Or.inl rfl)) (by decide) (Or.inl rfl)) (by decide) (Or.inl rfl)) (J_rfb hn (J_Bd hD hB)) k9 (fun x z => ⟨?_, ?_⟩) (fun z => absurd ⟨q.1, (show v < m m_kept_ 49 by rw [← e11]; exact q.2)⟩ z)
    · show some (vi (m m_kept_ 50)) = some (vi (m x_will_ 13)); rw [hW.2.2.2.2.2.2.2.2.2.2.2.1]
    · show J_I (n + 1) sc S (gd_m (kr_m (cw_put (cw_put (cw_put (cw_put m x_will_ 13 v) x_ 19 1) x_settler_ 0 (-1)) x_ 16 0) (cw_up (m m_kept_) 50 v)))
      refine J_k1 hn hs hI (la_put (la_put (la_put (la_put hm (by decide) (Or.inl rfl)) (by decide) (Or.inl rfl)) (by decide) (Or.inl rfl)) (by decide) (Or.inl rfl)) hD ⟨?_, ?_, ?_, ?_⟩ rfl rfl rfl rfl rfl rfl rfl ?_ ?_
      · exact K_r50 hK ⟨x, z⟩
      · exact W_mr rfl rfl rfl rfl rfl rfl rfl rfl rfl rfl rfl rfl rfl rfl (W_qe (q_fc hW) (D_sh hD))
      · exact D_s2 hD hZ rfl rfl (cw_up_ne (by decide)) (fun i a b => mk6 i a (by omega)) hK.1
      · exact E_s1 rfl
      · exact j_GK hC.2.2.2.2.1 mk6
      · exact j_Hd hD (cw_up_ne (by decide)) rfl hC.2.2.2.2.2
theorem J_terms {n sc : Int} {S : Int → Int} (hn : n < 600) (hs : sc < 33554432) {w v : Int} : J_P n sc S vi 200 k_C_terms k_M_terms [vi w, vi v] := by
  intro m hI
  have hm := hI.1.1
  have hk := hI.1.2
  have hK := hI.2.1.1
  have hW := hI.2.1.2.1
  have hZ := hI.2.1.2.2.1
  have hE := hI.2.1.2.2.2
  have hB := hI.2.2.1
  have hC := hI.2.2.2.1
  have hr := J_rfb hn hB
  have hf := J_cfb hn hB hC
  have tm := la_kM hk
  have tr := hW.2.2.2.2.2.1
  have tw : 0 ≤ w → w < 4 → m cw_TERM w = la_tm w := fun a b => by
    rcases (by omega : w = 0 ∨ w = 1 ∨ w = 2 ∨ w = 3) with e | e | e | e <;> subst e
    · exact tm.1
    · exact tm.2.1
    · exact tm.2.2.1
    · exact tm.2.2.2
  refine C_terms hm hf (fun q => ⟨cr_ok hm, J_sd hs hI cr_D, ⟨_, rfl⟩, ?_⟩) (fun q => ⟨(la_put (la_put (la_put (la_put (la_put hm (by decide) (Or.inr (by decide))) (by decide) (Or.inl rfl)) (by decide) (Or.inl rfl)) (by decide) (Or.inl rfl)) (by decide) (Or.inl rfl)), J_sd hs hI (D_sp (D_sp (D_sp (D_sp (D_sp D_sr (by decide)) (by decide)) (by decide)) (by decide)) (by decide)), ⟨_, rfl⟩, ?_⟩)
  · exact M_terms (cr_ok hm) (J_rfb hn (J_Bd cr_D hB)) (fun x y => absurd ⟨⟨x.1, by omega⟩, y.1, by rw [tw x.1 (by omega)]; exact y.2⟩ q) (fun _ => ⟨rfl, J_r1 hn hs hI⟩)
  · have hD : D_s m (cw_put (cw_put (cw_put (cw_put (cw_put m x_will_terms_ w v) x_log_ 0 0) x_ 19 1) x_settler_ 0 (-1)) x_ 16 0) := (D_sp (D_sp (D_sp (D_sp (D_sp D_sr (by decide)) (by decide)) (by decide)) (by decide)) (by decide))
    have q2 : v ≤ la_tm w := by rw [← tw q.1.1 q.1.2]; exact q.2.2
    refine M_terms (la_put (la_put (la_put (la_put (la_put hm (by decide) (Or.inr (by decide))) (by decide) (Or.inl rfl)) (by decide) (Or.inl rfl)) (by decide) (Or.inl rfl)) (by decide) (Or.inl rfl)) (J_rfb hn (J_Bd hD hB)) (fun x y => ⟨?_, ?_⟩) (fun z => absurd ⟨⟨q.1.1, by omega⟩, q.2.1, q2⟩ z)
    · show some (vi (m m_kept_ (la_ta w))) = some (vi (m x_will_terms_ w))
      rcases (by omega : w = 0 ∨ w = 1 ∨ w = 2 ∨ w = 3) with e | e | e | e <;> subst e
      · rw [tr.1]; rfl
      · rw [tr.2.1]; rfl
      · rw [tr.2.2.1]; rfl
      · rw [tr.2.2.2]; rfl
    · rcases (by omega : w = 0 ∨ w = 1 ∨ w = 2 ∨ w = 3) with e | e | e | e <;> subst e
      · have q3 : v ≤ 999 := q2
        show J_I (n + 1) sc S (sd_m (kr_m (cw_put (cw_put (cw_put (cw_put (cw_put m x_will_terms_ 0 v) x_log_ 0 0) x_ 19 1) x_settler_ 0 (-1)) x_ 16 0) (cw_up (m m_kept_) 18 v)))
        refine J_k2 hn hs hI (la_put (la_put (la_put (la_put (la_put hm (by decide) (Or.inr (by decide))) (by decide) (Or.inl rfl)) (by decide) (Or.inl rfl)) (by decide) (Or.inl rfl)) (by decide) (Or.inl rfl)) hD ⟨?_, ?_, ?_, ?_⟩ rfl rfl rfl rfl rfl rfl rfl rfl ?_
        · exact K_rV hK (by unfold K_v; omega)
        · exact W_mr rfl rfl rfl rfl rfl rfl rfl rfl rfl (show _ = cw_up (m x_will_terms_) 0 v by rw [cw_put_ne (by decide), cw_put_ne (by decide), cw_put_ne (by decide), cw_put_ne (by decide), cw_put_r]) rfl rfl rfl rfl (W_qe (q_tr0 hW) (D_sh hD))
        · exact D_s2 hD hZ rfl rfl (cw_up_ne (by decide)) (fun i a b => cw_up_ne (by omega)) hK.1
        · exact E_s1 rfl
        · exact j_Hd hD (cw_up_ne (by decide)) rfl hC.2.2.2.2.2
      · have q3 : v ≤ 9999 := q2
        show J_I (n + 1) sc S (sd_m (kr_m (cw_put (cw_put (cw_put (cw_put (cw_put m x_will_terms_ 1 v) x_log_ 0 0) x_ 19 1) x_settler_ 0 (-1)) x_ 16 0) (cw_up (m m_kept_) 43 v)))
        refine J_k2 hn hs hI (la_put (la_put (la_put (la_put (la_put hm (by decide) (Or.inr (by decide))) (by decide) (Or.inl rfl)) (by decide) (Or.inl rfl)) (by decide) (Or.inl rfl)) (by decide) (Or.inl rfl)) hD ⟨?_, ?_, ?_, ?_⟩ rfl rfl rfl rfl rfl rfl rfl rfl ?_
        · exact K_rV hK (by unfold K_v; omega)
        · exact W_mr rfl rfl rfl rfl rfl rfl rfl rfl rfl (show _ = cw_up (m x_will_terms_) 1 v by rw [cw_put_ne (by decide), cw_put_ne (by decide), cw_put_ne (by decide), cw_put_ne (by decide), cw_put_r]) rfl rfl rfl rfl (W_qe (q_tr1 hW) (D_sh hD))
        · exact D_s2 hD hZ rfl rfl (cw_up_ne (by decide)) (fun i a b => cw_up_ne (by omega)) hK.1
        · exact E_s1 rfl
        · exact j_Hd hD (cw_up_ne (by decide)) rfl hC.2.2.2.2.2
      · have q3 : v ≤ 9 := q2
        show J_I (n + 1) sc S (sd_m (kr_m (cw_put (cw_put (cw_put (cw_put (cw_put m x_will_terms_ 2 v) x_log_ 0 0) x_ 19 1) x_settler_ 0 (-1)) x_ 16 0) (cw_up (m m_kept_) 44 v)))
        refine J_k2 hn hs hI (la_put (la_put (la_put (la_put (la_put hm (by decide) (Or.inr (by decide))) (by decide) (Or.inl rfl)) (by decide) (Or.inl rfl)) (by decide) (Or.inl rfl)) (by decide) (Or.inl rfl)) hD ⟨?_, ?_, ?_, ?_⟩ rfl rfl rfl rfl rfl rfl rfl rfl ?_
        · exact K_rV hK (by unfold K_v; omega)
        · exact W_mr rfl rfl rfl rfl rfl rfl rfl rfl rfl (show _ = cw_up (m x_will_terms_) 2 v by rw [cw_put_ne (by decide), cw_put_ne (by decide), cw_put_ne (by decide), cw_put_ne (by decide), cw_put_r]) rfl rfl rfl rfl (W_qe (q_tr2 hW) (D_sh hD))
        · exact D_s2 hD hZ rfl rfl (cw_up_ne (by decide)) (fun i a b => cw_up_ne (by omega)) hK.1
        · exact E_s1 rfl
        · exact j_Hd hD (cw_up_ne (by decide)) rfl hC.2.2.2.2.2
      · have q3 : v ≤ 10 := q2
        show J_I (n + 1) sc S (sd_m (kr_m (cw_put (cw_put (cw_put (cw_put (cw_put m x_will_terms_ 3 v) x_log_ 0 0) x_ 19 1) x_settler_ 0 (-1)) x_ 16 0) (cw_up (m m_kept_) 45 v)))
        refine J_k2 hn hs hI (la_put (la_put (la_put (la_put (la_put hm (by decide) (Or.inr (by decide))) (by decide) (Or.inl rfl)) (by decide) (Or.inl rfl)) (by decide) (Or.inl rfl)) (by decide) (Or.inl rfl)) hD ⟨?_, ?_, ?_, ?_⟩ rfl rfl rfl rfl rfl rfl rfl rfl ?_
        · exact K_rV hK (by unfold K_v; omega)
        · exact W_mr rfl rfl rfl rfl rfl rfl rfl rfl rfl (show _ = cw_up (m x_will_terms_) 3 v by rw [cw_put_ne (by decide), cw_put_ne (by decide), cw_put_ne (by decide), cw_put_ne (by decide), cw_put_r]) rfl rfl rfl rfl (W_qe (q_tr3 hW) (D_sh hD))
        · exact D_s2 hD hZ rfl rfl (cw_up_ne (by decide)) (fun i a b => cw_up_ne (by omega)) hK.1
        · exact E_s1 rfl
        · exact j_Hd hD (cw_up_ne (by decide)) rfl hC.2.2.2.2.2
theorem J_forget {n sc : Int} {S : Int → Int} (hn : n < 600) (hs : sc < 33554432) : J_P n sc S vi 200 k_C_forget k_M_forget [] := by
  intro m hI
  have hm := hI.1.1
  have hk := hI.1.2
  have hK := hI.2.1.1
  have hW := hI.2.1.2.1
  have hZ := hI.2.1.2.2.1
  have hE := hI.2.1.2.2.2
  have hB := hI.2.2.1
  have hC := hI.2.2.2.1
  have hr := J_rfb hn hB
  have hf := J_cfb hn hB hC
  have e8 : m x_will_ 8 = m m_kept_ 48 := hW.2.2.2.2.2.2.2.2.1
  have e6 : m x_will_ 6 = m m_kept_ 47 := hW.2.2.2.2.2.2.1
  have k7 := hK.2.2.2.2.2.2.2.2.2.1
  have k8 := hK.2.2.2.2.2.2.2.2.2.2.1
  have k50 := hK.2.2.2.2.2.2.2.2.2.2.2.2.1
  have hmm : (33554432 : Int) ≤ m_ := by decide
  have hD : D_s m (cw_put (cw_put m x_will_ 8 0) x_will_ 6 0) := (D_sp (D_sp D_sr (by decide)) (by decide))
  refine C_forget hm (by omega) (by omega) ⟨(la_put (la_put hm (by decide) (Or.inl rfl)) (by decide) (Or.inl rfl)), J_sd hs hI hD, ⟨_, rfl⟩, ?_⟩
  refine M_forget (la_put (la_put hm (by decide) (Or.inl rfl)) (by decide) (Or.inl rfl)) k7 k8 ⟨?_, ?_⟩
  · show some (vi (m m_kept_ 48 + m m_kept_ 47)) = some (vi (m x_will_ 8 + m x_will_ 6)); rw [e8, e6]
  · show J_I (n + 1) sc S (kr_m (cw_put (cw_put m x_will_ 8 0) x_will_ 6 0) (cw_up (cw_up (m m_kept_) 48 0) 47 0))
    have kp : K_p (m m_kept_) (cw_up (cw_up (m m_kept_) 48 0) 47 0) := K_pt (K_pU (by omega) k50.1) (K_pU (by omega) (by rw [cw_up_ne (by omega)]; exact k50.1))
    have mk6 : ∀ i, 0 ≤ i → i < 19 → (cw_up (cw_up (m m_kept_) 48 0) 47 0) i = m m_kept_ i := fun i a b => by rw [cw_up_ne (by omega), cw_up_ne (by omega)]
    refine J_up (by omega) (kr_ok (la_put (la_put hm (by decide) (Or.inl rfl)) (by decide) (Or.inl rfl))) kr_F rfl (D_sk hD hk) ⟨?_, ?_, ?_, ?_⟩ (by have z := J_Bm (J_Bd hD hB); exact z) ⟨hC.1, hC.2.1, hC.2.2.1, hC.2.2.2.1, ?_, ?_⟩ (J_Nm hn (D_sN hs hD hI.2.2.2.2))
    · exact K_rV (K_rV hK (by unfold K_v; omega)) (by unfold K_v; omega)
    · exact W_mr rfl rfl rfl rfl rfl rfl rfl rfl rfl rfl rfl rfl rfl rfl (W_qe (q_jd (q_td hW)) (D_sh hD))
    · exact D_s3 hD hZ rfl rfl rfl kp (fun i a b => mk6 i a (by omega)) hK.1
    · exact E_s2 hE rfl rfl kp (fun i a b => mk6 i a (by omega)) hK.1
    · exact j_GK hC.2.2.2.2.1 mk6
    · exact j_Hd hD (by show (cw_up (cw_up (m m_kept_) 48 0) 47 0) 49 = _; rw [cw_up_ne (by omega), cw_up_ne (by omega)]) rfl hC.2.2.2.2.2
theorem J_end {n sc : Int} {S : Int → Int} (hn : n < 600) (hs : sc < 33554432) {l : Int} : J_P n sc S vi 200 k_C_end k_M_end [vi l] := by
  intro m hI
  have hm := hI.1.1
  have hk := hI.1.2
  have hK := hI.2.1.1
  have hW := hI.2.1.2.1
  have hZ := hI.2.1.2.2.1
  have hE := hI.2.1.2.2.2
  have hB := hI.2.2.1
  have hC := hI.2.2.2.1
  have hr := J_rfb hn hB
  have hf := J_cfb hn hB hC
  have hmm : (33554432 : Int) ≤ m_ := by decide
  have hT := hC.2.2.1
  have eT : m x_reader_ 1 = m m_ 13 := hT.1
  refine C_end hm (fun q => ⟨(la_put hm (by decide) (Or.inl rfl)), J_sd hs hI (D_sp D_sr (by decide)), ⟨_, rfl⟩, ?_⟩) (fun q => ⟨hm, J_s hI, ⟨_, rfl⟩, ?_⟩)
  · have hD : D_s m (cw_put m x_reader_ 1 l) := (D_sp D_sr (by decide))
    refine M_end (la_put hm (by decide) (Or.inl rfl)) (fun x y => ⟨rfl, ?_⟩) (fun z => absurd ⟨q.1, (show l ≤ m m_ 13 by omega)⟩ z)
    refine J_up (by omega) (la_put (la_put hm (by decide) (Or.inl rfl)) (by decide) (Or.inl rfl)) (F_mp (by decide)) rfl (D_sk hD hk) ⟨hK, ?_, ?_, ?_⟩ (by have z := J_Bm (J_Bd hD hB); exact z) ⟨hC.1, hC.2.1, ⟨rfl, ?_, fun i a b => ?_⟩, hC.2.2.2.1, hC.2.2.2.2.1, ?_⟩ (J_Nm hn (D_sN hs hD hI.2.2.2.2))
    · exact W_mr rfl rfl rfl rfl rfl rfl rfl rfl rfl rfl rfl rfl rfl rfl (W_qe (hW) (D_sh hD))
    · exact D_s3 hD hZ rfl rfl rfl K_pr (fun _ _ _ => rfl) hK.1
    · exact E_s2 hE rfl rfl K_pr (fun _ _ _ => rfl) hK.1
    · show 0 ≤ l ∧ l ≤ 400
      have := hT.2.1; omega
    · exact hT.2.2 i a (by have : i < l := b; omega)
    · exact j_Hd hD rfl rfl hC.2.2.2.2.2
  · refine M_end hm (fun x y => absurd ⟨x, by omega⟩ q) (fun _ => ⟨rfl, J_0 hn hI⟩)
