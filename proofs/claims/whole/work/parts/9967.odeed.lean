/-! Deeds of orders, by the class (wip/whole/tools/m167.py). -/
def O_D : List Int := [x_, x_will_, x_will_kinds_, x_will_marks_, x_will_terms_, x_log_, x_log_what_, x_log_where_, x_log_was_, x_settler_, x_forest_, x_forest_deep_, x_forest_above_, x_forest_list_]
def O_F (m X : cw_M) : Prop := (∀ c, c ∉ O_D → X c = m c) ∧ (∀ j, j ≠ 18 → j ≠ 19 → X x_ j = m x_ j) ∧ ∀ j, j ≠ 4 → X x_will_ j = m x_will_ j
theorem O_Fr {m : cw_M} : O_F m m := ⟨fun _ _ => rfl, fun _ _ _ => rfl, fun _ _ => rfl⟩
theorem O_Ft {m a b : cw_M} (h : O_F m a) (h2 : O_F a b) : O_F m b := ⟨fun c q => by rw [h2.1 c q, h.1 c q], fun j x y => by rw [h2.2.1 j x y, h.2.1 j x y], fun j x => by rw [h2.2.2 j x, h.2.2 j x]⟩
def O_R (X : cw_M) (K L : Int → Int) (un : Int) : Prop := la_ok X ∧ (K_r K ∧ W_r X K ∧ Z_c X K ∧ E_s X K) ∧ j_G (X x_log_ 0) (X x_log_what_) (X x_log_where_) (X x_log_was_) un L K
theorem O_lg {c : Int} (q : c ∉ O_D) : c ∉ [x_log_, x_log_what_, x_log_where_, x_log_was_] := fun z => q ((show ∀ y ∈ [x_log_, x_log_what_, x_log_where_, x_log_was_], y ∈ O_D by decide) c z)
theorem j_G16 {n : Int} {wt wh ws : Int → Int} {un : Int} {L K : Int → Int} (h : j_G n wt wh ws un L K) : 0 ≤ n ∧ n ≤ 16 := h.1.2
theorem O_turn {d : Nat} {m : cw_M} {Q : Option cw_V → cw_M → Prop} {K L : Int → Int} {un : Int} (hR : O_R m K L un) {j x : Int} (h0 : tn_c K j x < 0 → Q (some (vi (tn_c K j x))) m) (hok : tn_c K j x = 0 → ∀ Y v, 0 ≤ v → O_F m Y → O_R Y (cw_up K (6 + j) x) (kp_l L un K 1) (kp_n un + 1) → Q (some (vi v)) Y) : cw_C (d + 1) k_C_doTurn [vr x_, vi j, vi x] m Q := by
  obtain ⟨hm, ⟨hK, hW, hZ, hE⟩, hG⟩ := hR
  have hs := j_G16 hG
  have k46 := hK.1
  have e0 : m x_will_ 0 = K 46 := hW.1
  have ekd := hW.2.2.1
  have kk := hK.2.2.1
  refine C_doTurn hm (by omega) hs (fun q => ?_) (fun q => ?_) (fun q => ?_) (fun q => ?_)
  · have e : tn_c K j x = -1 := by unfold tn_c; rw [if_pos q]
    rw [e] at h0; exact h0 (by decide)
  · have e : tn_c K j x = -2 := by unfold tn_c; rw [if_neg (by omega), if_pos (by omega)]
    rw [e] at h0; exact h0 (by decide)
  · have e : tn_c K j x = -3 := by unfold tn_c; rw [if_neg (by omega), if_neg (by omega), if_pos (by rw [← ekd j q.2.1.1 (by omega)]; exact q.2.2)]
    rw [e] at h0; exact h0 (by decide)
  · have ej := ekd j q.2.1.1 (by omega)
    have kj := kk j q.2.1.1 (by omega)
    have e : tn_c K j x = 0 := by unfold tn_c; rw [if_neg (by omega), if_neg (by omega), if_neg (by rw [← ej]; exact q.2.2)]
    have hD : D_s m (cw_put (cw_put (cw_put (lg m 1 j (m x_will_kinds_ j)) x_will_kinds_ j x) x_ 19 1) x_settler_ 0 (-1)) := D_st lg_D (D_sp (D_sp (D_sp D_sr (by decide)) (by decide)) (by decide))
    refine hok e (cw_put (cw_put (cw_put (lg m 1 j (m x_will_kinds_ j)) x_will_kinds_ j x) x_ 19 1) x_settler_ 0 (-1)) _ (by omega) ⟨fun c z => by rw [cw_put_ne (U_n z (by decide)), cw_put_ne (U_n z (by decide)), cw_put_ne (U_n z (by decide)), lg_ne (O_lg z)], fun j a b => by rw [cw_put_ne (by decide), cw_put_off b, cw_put_ne (by decide), lg_ne (by decide)], fun j a => by rw [cw_put_ne (by decide), cw_put_ne (by decide), cw_put_ne (by decide), lg_ne (by decide)]⟩ ⟨(la_put (la_put (la_put (lg_ok hm) (by decide) (Or.inr (by decide))) (by decide) (Or.inl rfl)) (by decide) (Or.inl rfl)), ⟨K_rV hK (by unfold K_v; omega), ?_, ?_, E_s1 rfl⟩, ?_⟩
    · exact W_mr (show lg m 1 j (m x_will_kinds_ j) x_will_ 0 = m x_will_ 0 by rw [lg_ne (by decide)]) (show lg m 1 j (m x_will_kinds_ j) x_will_ 4 = m x_will_ 4 by rw [lg_ne (by decide)]) (show lg m 1 j (m x_will_kinds_ j) x_will_ 6 = m x_will_ 6 by rw [lg_ne (by decide)]) (show lg m 1 j (m x_will_kinds_ j) x_will_ 8 = m x_will_ 8 by rw [lg_ne (by decide)]) (show lg m 1 j (m x_will_kinds_ j) x_will_ 11 = m x_will_ 11 by rw [lg_ne (by decide)]) (show lg m 1 j (m x_will_kinds_ j) x_will_ 13 = m x_will_ 13 by rw [lg_ne (by decide)]) (show lg m 1 j (m x_will_kinds_ j) x_will_owner_ = m x_will_owner_ from lg_ne (by decide)) (show _ = cw_up (m x_will_kinds_) j x by rw [cw_put_ne (by decide), cw_put_ne (by decide), cw_put_r, lg_ne (by decide)]) (show lg m 1 j (m x_will_kinds_ j) x_will_marks_ = m x_will_marks_ from lg_ne (by decide)) (show lg m 1 j (m x_will_kinds_ j) x_will_terms_ = m x_will_terms_ from lg_ne (by decide)) (show lg m 1 j (m x_will_kinds_ j) x_will_held_ = m x_will_held_ from lg_ne (by decide)) (show lg m 1 j (m x_will_kinds_ j) x_will_toldOf_ = m x_will_toldOf_ from lg_ne (by decide)) (show lg m 1 j (m x_will_kinds_ j) x_will_toldMuch_ = m x_will_toldMuch_ from lg_ne (by decide)) (show lg m 1 j (m x_will_kinds_ j) x_will_lawAt_ = m x_will_lawAt_ from lg_ne (by decide)) (W_qe (q_kd (by omega) hW) (D_sh hD))
    · exact D_s2 hD hZ (show lg m 1 j (m x_will_kinds_ j) x_ 18 = m x_ 18 by rw [lg_ne (by decide)]) rfl (cw_up_ne (by omega)) (fun i a b => cw_up_ne (by omega)) hK.1
    · have z := lg_G (de := 1) (pl := j) (ol := m x_will_kinds_ j) (v := x) hG ej (by decide) (fun _ => ⟨q.2.1.1, by omega⟩) (fun z => absurd z (by decide)) (by show K_u (6 + j) (K (6 + j)); unfold K_u; omega)
      exact z
theorem O_die {d : Nat} {m : cw_M} {Q : Option cw_V → cw_M → Prop} {K L : Int → Int} {un : Int} (hR : O_R m K L un) {p : Int} (h0 : di_c K p < 0 → Q (some (vi (di_c K p))) m) (hok : di_c K p = 0 → ∀ Y v, 0 ≤ v → O_F m Y → O_R Y (cw_up K (12 + p) 0) (kp_l L un K 2) (kp_n un + 1) → Q (some (vi v)) Y) : cw_C (d + 1) k_C_doDie [vr x_, vi p] m Q := by
  obtain ⟨hm, ⟨hK, hW, hZ, hE⟩, hG⟩ := hR
  have hs := j_G16 hG
  have k46 := hK.1
  have lv := hW.2.2.2.2.1
  have kk := hK.2.2.2.1
  refine C_doDie hm lv.1 hs (fun q => ?_) (fun q => ?_) (fun q => ?_)
  · have e : di_c K p = -1 := by unfold di_c; rw [if_pos (by omega)]
    rw [e] at h0; exact h0 (by decide)
  · have ep := lv.2 p q.1.1 q.1.2
    have e : di_c K p = -3 := by unfold di_c; rw [if_neg (by omega), if_pos (by rw [← ep]; exact q.2)]
    rw [e] at h0; exact h0 (by decide)
  · have ep := lv.2 p q.1.1 q.1.2
    have kp1 : K (12 + p) = 1 := by have := kk p q.1.1 q.1.2; omega
    have e : di_c K p = 0 := by unfold di_c; rw [if_neg (by omega), if_neg (by omega)]
    have bl : (0 ≤ (cw_iand (m x_will_ 4) (cw_ixor (cw_ishl 1 p) (-1))) ∧ (cw_iand (m x_will_ 4) (cw_ixor (cw_ishl 1 p) (-1))) < 64) ∧ ∀ i, 0 ≤ i → i < 6 → cw_iand (cw_ishr (cw_iand (m x_will_ 4) (cw_ixor (cw_ishl 1 p) (-1))) i) 1 = if i = p then 0 else cw_iand (cw_ishr (m x_will_ 4) i) 1 := ⟨m_xr lv.1 q.1, fun i a b => b_lo lv.1 q.1 ⟨a, b⟩⟩
    have hD : D_s m (cw_put (cw_put (cw_put (lg m 2 p 1) x_will_ 4 (cw_iand (m x_will_ 4) (cw_ixor (cw_ishl 1 p) (-1)))) x_ 19 1) x_settler_ 0 (-1)) := D_st lg_D (D_sp (D_sp (D_sp D_sr (by decide)) (by decide)) (by decide))
    refine hok e (cw_put (cw_put (cw_put (lg m 2 p 1) x_will_ 4 (cw_iand (m x_will_ 4) (cw_ixor (cw_ishl 1 p) (-1)))) x_ 19 1) x_settler_ 0 (-1)) _ (b_cr bl.1).1 ⟨fun c z => by rw [cw_put_ne (U_n z (by decide)), cw_put_ne (U_n z (by decide)), cw_put_ne (U_n z (by decide)), lg_ne (O_lg z)], fun j a b => by rw [cw_put_ne (by decide), cw_put_off b, cw_put_ne (by decide), lg_ne (by decide)], fun j a => by rw [cw_put_ne (by decide), cw_put_ne (by decide), cw_put_off a, lg_ne (by decide)]⟩ ⟨(la_put (la_put (la_put (lg_ok hm) (by decide) (Or.inl rfl)) (by decide) (Or.inl rfl)) (by decide) (Or.inl rfl)), ⟨K_rV hK (by unfold K_v; omega), ?_, ?_, E_s1 rfl⟩, ?_⟩
    · exact W_mr (show lg m 2 p 1 x_will_ 0 = m x_will_ 0 by rw [lg_ne (by decide)]) (rfl) (show lg m 2 p 1 x_will_ 6 = m x_will_ 6 by rw [lg_ne (by decide)]) (show lg m 2 p 1 x_will_ 8 = m x_will_ 8 by rw [lg_ne (by decide)]) (show lg m 2 p 1 x_will_ 11 = m x_will_ 11 by rw [lg_ne (by decide)]) (show lg m 2 p 1 x_will_ 13 = m x_will_ 13 by rw [lg_ne (by decide)]) (show lg m 2 p 1 x_will_owner_ = m x_will_owner_ from lg_ne (by decide)) (show lg m 2 p 1 x_will_kinds_ = m x_will_kinds_ from lg_ne (by decide)) (show lg m 2 p 1 x_will_marks_ = m x_will_marks_ from lg_ne (by decide)) (show lg m 2 p 1 x_will_terms_ = m x_will_terms_ from lg_ne (by decide)) (show lg m 2 p 1 x_will_held_ = m x_will_held_ from lg_ne (by decide)) (show lg m 2 p 1 x_will_toldOf_ = m x_will_toldOf_ from lg_ne (by decide)) (show lg m 2 p 1 x_will_toldMuch_ = m x_will_toldMuch_ from lg_ne (by decide)) (show lg m 2 p 1 x_will_lawAt_ = m x_will_lawAt_ from lg_ne (by decide)) (W_qe (q_lv q.1 bl hW) (D_sh hD))
    · exact D_s2 hD hZ (show lg m 2 p 1 x_ 18 = m x_ 18 by rw [lg_ne (by decide)]) rfl (cw_up_ne (by omega)) (fun i a b => cw_up_ne (by omega)) hK.1
    · have z := lg_G (de := 2) (pl := p) (ol := 1) (v := 0) hG kp1.symm (by decide) (fun _ => q.1) (fun _ => kp1) (by show K_u (12 + p) (K (12 + p)); unfold K_u; omega)
      exact z
theorem O_pass {d : Nat} {m : cw_M} {Q : Option cw_V → cw_M → Prop} {K L : Int → Int} {un : Int} (hR : O_R m K L un) (hc9 : m cw_TERM 0 = 999) (h0 : pa_c K < 0 → Q (some (vi (pa_c K))) m) (hok : pa_c K = 0 → ∀ Y v, 0 ≤ v → O_F m Y → O_R Y (cw_up K 18 (K 18 + 1)) (kp_l L un K 3) (kp_n un + 1) → Q (some (vi v)) Y) : cw_C (d + 1) k_C_doPass [vr x_] m Q := by
  obtain ⟨hm, ⟨hK, hW, hZ, hE⟩, hG⟩ := hR
  have hs := j_G16 hG
  have k46 := hK.1
  have t0 : m x_will_terms_ 0 = K 18 := hW.2.2.2.2.2.1.1
  have ky := hK.2.2.2.2.1
  refine C_doPass hm (by omega) hc9 hs (fun q => ?_) (fun q => ?_)
  · have e : pa_c K = -3 := by unfold pa_c; rw [if_pos (by omega)]
    rw [e] at h0; exact h0 (by decide)
  · have e : pa_c K = 0 := by unfold pa_c; rw [if_neg (by omega)]
    have hD : D_s m (cw_put (cw_put (cw_put (lg m 3 0 (m x_will_terms_ 0)) x_will_terms_ 0 (m x_will_terms_ 0 + 1)) x_ 19 1) x_settler_ 0 (-1)) := D_st lg_D (D_sp (D_sp (D_sp D_sr (by decide)) (by decide)) (by decide))
    refine hok e (cw_put (cw_put (cw_put (lg m 3 0 (m x_will_terms_ 0)) x_will_terms_ 0 (m x_will_terms_ 0 + 1)) x_ 19 1) x_settler_ 0 (-1)) _ (by omega) ⟨fun c z => by rw [cw_put_ne (U_n z (by decide)), cw_put_ne (U_n z (by decide)), cw_put_ne (U_n z (by decide)), lg_ne (O_lg z)], fun j a b => by rw [cw_put_ne (by decide), cw_put_off b, cw_put_ne (by decide), lg_ne (by decide)], fun j a => by rw [cw_put_ne (by decide), cw_put_ne (by decide), cw_put_ne (by decide), lg_ne (by decide)]⟩ ⟨(la_put (la_put (la_put (lg_ok hm) (by decide) (Or.inr (by decide))) (by decide) (Or.inl rfl)) (by decide) (Or.inl rfl)), ⟨K_rV hK (by unfold K_v; omega), ?_, ?_, E_s1 rfl⟩, ?_⟩
    · exact W_mr (show lg m 3 0 (m x_will_terms_ 0) x_will_ 0 = m x_will_ 0 by rw [lg_ne (by decide)]) (show lg m 3 0 (m x_will_terms_ 0) x_will_ 4 = m x_will_ 4 by rw [lg_ne (by decide)]) (show lg m 3 0 (m x_will_terms_ 0) x_will_ 6 = m x_will_ 6 by rw [lg_ne (by decide)]) (show lg m 3 0 (m x_will_terms_ 0) x_will_ 8 = m x_will_ 8 by rw [lg_ne (by decide)]) (show lg m 3 0 (m x_will_terms_ 0) x_will_ 11 = m x_will_ 11 by rw [lg_ne (by decide)]) (show lg m 3 0 (m x_will_terms_ 0) x_will_ 13 = m x_will_ 13 by rw [lg_ne (by decide)]) (show lg m 3 0 (m x_will_terms_ 0) x_will_owner_ = m x_will_owner_ from lg_ne (by decide)) (show lg m 3 0 (m x_will_terms_ 0) x_will_kinds_ = m x_will_kinds_ from lg_ne (by decide)) (show lg m 3 0 (m x_will_terms_ 0) x_will_marks_ = m x_will_marks_ from lg_ne (by decide)) (show _ = cw_up (m x_will_terms_) 0 (K 18 + 1) by rw [cw_put_ne (by decide), cw_put_ne (by decide), cw_put_r, lg_ne (by decide), t0]) (show lg m 3 0 (m x_will_terms_ 0) x_will_held_ = m x_will_held_ from lg_ne (by decide)) (show lg m 3 0 (m x_will_terms_ 0) x_will_toldOf_ = m x_will_toldOf_ from lg_ne (by decide)) (show lg m 3 0 (m x_will_terms_ 0) x_will_toldMuch_ = m x_will_toldMuch_ from lg_ne (by decide)) (show lg m 3 0 (m x_will_terms_ 0) x_will_lawAt_ = m x_will_lawAt_ from lg_ne (by decide)) (W_qe (q_tr0 hW) (D_sh hD))
    · exact D_s2 hD hZ (show lg m 3 0 (m x_will_terms_ 0) x_ 18 = m x_ 18 by rw [lg_ne (by decide)]) rfl (cw_up_ne (by omega)) (fun i a b => cw_up_ne (by omega)) hK.1
    · have z := lg_G (de := 3) (pl := 0) (ol := m x_will_terms_ 0) (v := K 18 + 1) hG t0 (by decide) (fun z => absurd z (by decide)) (fun z => absurd z (by decide)) (by show K_u 18 (K 18); unfold K_u; omega)
      exact z
theorem O_mark {d : Nat} {m : cw_M} {Q : Option cw_V → cw_M → Prop} {K L : Int → Int} {un : Int} (hR : O_R m K L un) (hT : ∀ j, 0 ≤ j → j < 7 → m cw_TREES j = t_c j) {j x : Int} (h0 : mk_c K j x < 0 → Q (some (vi (mk_c K j x))) m) (hok : mk_c K j x = 0 → ∀ Y, O_F m Y → O_R Y (cw_up K j x) (kp_l L un K 0) (kp_n un + 1) → Q (some (vi ((R_K (cw_up K j x)).length : Int))) Y) : cw_C (d + 9) k_C_doMark [vr x_, vi j, vi x] m Q := by
  obtain ⟨hm, ⟨hK, hW, hZ, hE⟩, hG⟩ := hR
  have hs := j_G16 hG
  have k46 := hK.1
  have e0 : m x_will_ 0 = K 46 := hW.1
  have emk := hW.2.2.2.1
  have kk := hK.2.1
  refine C_doMark hm hT hK hW hZ hs (fun q => ?_) (fun q => ?_) (fun q => ?_) (fun q X hX hS1 h18 hc1 => ?_)
  · have e : mk_c K j x = -1 := by unfold mk_c; rw [if_pos q]
    rw [e] at h0; exact h0 (by decide)
  · have e : mk_c K j x = -2 := by unfold mk_c; rw [if_neg (by omega), if_pos (by omega)]
    rw [e] at h0; exact h0 (by decide)
  · have e : mk_c K j x = -3 := by unfold mk_c; rw [if_neg (by omega), if_neg (by omega), if_pos (by rw [← emk j q.2.1.1 (by omega)]; exact q.2.2)]
    rw [e] at h0; exact h0 (by decide)
  · have hDY : D_s m (cw_put (cw_put (cw_put (lg m 0 j (m x_will_marks_ j)) x_will_marks_ j x) x_ 18 1) x_settler_ 0 (-1)) := D_st lg_D (D_sp (D_sp (D_sp D_sr (by decide)) (by decide)) (by decide))
    have hV := S_sV hS1
    have hV2 := V_sp hV
    have ej := emk j q.2.1.1 (by omega)
    have kj := kk j q.2.1.1 (by omega)
    have e : mk_c K j x = 0 := by unfold mk_c; rw [if_neg (by omega), if_neg (by omega), if_neg (by rw [← ej]; exact q.2.2)]
    have kp : K_p K (cw_up K j x) := ⟨fun i a b => cw_up_ne (by omega), cw_up_ne (by omega), cw_up_ne (by omega), cw_up_ne (by omega), cw_up_ne (by omega), by rw [cw_up_ne (show (50 : Int) ≠ j by omega)]; exact l_foU (by omega) hK.2.2.2.2.2.2.2.2.2.2.2.2.1.1, by rw [cw_up_ne (show (49 : Int) ≠ j by omega)]; exact Int.le_refl _⟩
    have hDs : ∀ c, c ∉ [x_forest_, x_forest_deep_, x_forest_above_, x_forest_list_, x_] → X c = (cw_put (cw_put (cw_put (lg m 0 j (m x_will_marks_ j)) x_will_marks_ j x) x_ 18 1) x_settler_ 0 (-1)) c := fun c a => hS1.1 c (U_n a (by decide)) (U_n a (by decide)) (U_n a (by decide)) (U_n a (by decide)) (U_n a (by decide))
    have ln : ∀ c, c ∉ [x_log_, x_log_what_, x_log_where_, x_log_was_] → c ∉ [x_will_marks_, x_, x_settler_] → (cw_put (cw_put (cw_put (lg m 0 j (m x_will_marks_ j)) x_will_marks_ j x) x_ 18 1) x_settler_ 0 (-1)) c = m c := fun c a b => by
      rw [cw_put_ne (U_n b (by decide)), cw_put_ne (U_n b (by decide)), cw_put_ne (U_n b (by decide)), lg_ne a]
    have hWY : W_r (cw_put (cw_put (cw_put (lg m 0 j (m x_will_marks_ j)) x_will_marks_ j x) x_ 18 1) x_settler_ 0 (-1)) (cw_up K j x) := by
      have hD := hDY
      exact W_mr (show lg m 0 j (m x_will_marks_ j) x_will_ 0 = m x_will_ 0 by rw [lg_ne (by decide)]) (show lg m 0 j (m x_will_marks_ j) x_will_ 4 = m x_will_ 4 by rw [lg_ne (by decide)]) (show lg m 0 j (m x_will_marks_ j) x_will_ 6 = m x_will_ 6 by rw [lg_ne (by decide)]) (show lg m 0 j (m x_will_marks_ j) x_will_ 8 = m x_will_ 8 by rw [lg_ne (by decide)]) (show lg m 0 j (m x_will_marks_ j) x_will_ 11 = m x_will_ 11 by rw [lg_ne (by decide)]) (show lg m 0 j (m x_will_marks_ j) x_will_ 13 = m x_will_ 13 by rw [lg_ne (by decide)]) (show lg m 0 j (m x_will_marks_ j) x_will_owner_ = m x_will_owner_ from lg_ne (by decide)) (show lg m 0 j (m x_will_marks_ j) x_will_kinds_ = m x_will_kinds_ from lg_ne (by decide)) (show _ = cw_up (m x_will_marks_) j x by rw [cw_put_ne (by decide), cw_put_ne (by decide), cw_put_r, lg_ne (by decide)]) (show lg m 0 j (m x_will_marks_ j) x_will_terms_ = m x_will_terms_ from lg_ne (by decide)) (show lg m 0 j (m x_will_marks_ j) x_will_held_ = m x_will_held_ from lg_ne (by decide)) (show lg m 0 j (m x_will_marks_ j) x_will_toldOf_ = m x_will_toldOf_ from lg_ne (by decide)) (show lg m 0 j (m x_will_marks_ j) x_will_toldMuch_ = m x_will_toldMuch_ from lg_ne (by decide)) (show lg m 0 j (m x_will_marks_ j) x_will_lawAt_ = m x_will_lawAt_ from lg_ne (by decide)) (W_qe (q_mk (by omega) hW) (D_sh hD))
    have hWX : W_r X (cw_up K j x) := W_rV hWY hV
    have hL : lg m 0 j (m x_will_marks_ j) x_ = m x_ := lg_ne (by decide)
    have xf : ∀ i, i ≠ 18 → X x_ i = m x_ i := fun i z => by
      rw [hS1.2 i z, cw_put_ne (by decide), cw_put_off z, cw_put_ne (by decide), hL]
    have hZX : Z_c X (cw_up K j x) := by
      refine ⟨hc1, fun i z => ?_, ?_, fun z => ?_⟩
      · rw [hDs _ (by decide), hDs _ (by decide), ln _ (by decide) (by decide), ln _ (by decide) (by decide)]; exact hZ.2.1 i z
      · rw [xf 19 (by decide)]; exact hZ.2.2.1
      · rw [xf 19 (by decide)] at z
        exact L_ce (L_cK (hZ.2.2.2 z) kp hK.1) (by rw [hDs _ (by decide), ln _ (by decide) (by decide)]) (by rw [hDs _ (by decide), ln _ (by decide) (by decide)]) (by rw [hDs _ (by decide), ln _ (by decide) (by decide)]) (by rw [hDs _ (by decide), ln _ (by decide) (by decide)]) (fun c y => (V_h hV2 c y).trans (D_sh hDY c y)) (by rw [hDs _ (by decide), ln _ (by decide) (by decide)])
    refine hok e X ⟨fun c z => ?_, fun i a _ => xf i a, fun i a => ?_⟩ ⟨hX, ⟨K_rV hK (by unfold K_v; omega), hWX, hZX, E_s1 (by rw [hDs _ (by decide)]; rfl)⟩, ?_⟩
    · rw [hDs c (fun y => z ((show ∀ t ∈ [x_forest_, x_forest_deep_, x_forest_above_, x_forest_list_, x_], t ∈ O_D by decide) c y)), ln c (O_lg z) (fun y => z ((show ∀ t ∈ [x_will_marks_, x_, x_settler_], t ∈ O_D by decide) c y))]
    · rw [hDs x_will_ (by decide), ln x_will_ (by decide) (by decide)]
    · rw [hDs x_log_ (by decide), hDs x_log_what_ (by decide), hDs x_log_where_ (by decide), hDs x_log_was_ (by decide)]
      have z := lg_G (de := 0) (pl := j) (ol := m x_will_marks_ j) (v := x) hG ej (by decide) (fun _ => ⟨q.2.1.1, by omega⟩) (fun z => absurd z (by decide)) (by show K_u j (K j); unfold K_u; omega)
      exact z
