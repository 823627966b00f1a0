/-! A law, by the class; a text was read by both (wip/whole/tools/m165.py). -/
def X_L : List Int := [x_reader_, x_reader_text_, x_reader_text_code_, x_reader_text_head_, x_reader_text_first_, x_reader_text_second_, x_reader_text_test_, x_reader_text_repeats_]
theorem X_pn {m M : cw_M} {fa c : Int} (h : X_p m M fa) (hc : c ∉ X_L) : M c = m c := h.1 c (U_n hc (by decide)) (U_n hc (by decide)) (U_n hc (by decide)) (U_n hc (by decide)) (U_n hc (by decide)) (U_n hc (by decide)) (U_n hc (by decide)) (U_n hc (by decide))
theorem X_pD {m M : cw_M} {fa : Int} (h : X_p m M fa) : D_s m M := fun c q => X_pn h (fun z => by
  have a := (show ∀ y ∈ X_L, y ∉ D_X ∧ 33554432 ≤ y ∧ y < m_ by decide) c z
  rcases q with q | q | q
  · exact a.1 q
  · omega
  · omega)
/-- a text was read by both: the tape is empty, the fault stands -/
theorem J_rd {n sc : Int} {S : Int → Int} {m M : cw_M} {fa : Int} (hs : sc < 33554432) (hI : J_I n sc S m) (hM : la_ok M) (hX : X_p m M fa) : J_I n sc S (rd_m M fa) := by
  obtain ⟨⟨h1, h2⟩, hA, hB, hC, hN⟩ := hI
  have hD := X_pD hX
  have hmm : (33554432 : Int) ≤ m_ := by decide
  have xn := fun c (q : c ∉ X_L) => X_pn hX q
  have xm := fun c (q : m_ ≤ c) => D_sm hD q
  obtain ⟨r, s, t, dd, g, hh⟩ := hC
  have ok : la_ok (rd_m M fa) := la_put (la_put hM (by decide) (Or.inl rfl)) (by decide) (Or.inl rfl)
  have ex := xn x_ (by decide)
  refine J_up (by omega) ok (F_mt (F_mp (by decide)) (F_mp (by decide))) rfl (D_sk hD h2) ?_ (by have z := J_Bd hD hB; exact z) ⟨?_, ⟨?_, ?_, ?_, hX.2.2⟩, ⟨hX.2.1, by rw [hX.2.1]; decide, fun i a b => by rw [hX.2.1] at b; omega⟩, ?_, ?_, ?_⟩ (D_sN hs hD hN)
  · show J_A M (M m_kept_)
    rw [xm m_kept_ (by decide)]
    have hW := hA.2.1
    refine ⟨hA.1, W_mr (by rw [xn x_will_ (by decide)]) (by rw [xn x_will_ (by decide)]) (by rw [xn x_will_ (by decide)]) (by rw [xn x_will_ (by decide)]) (by rw [xn x_will_ (by decide)]) (by rw [xn x_will_ (by decide)]) (xn _ (by decide)) (xn _ (by decide)) (xn _ (by decide)) (xn _ (by decide)) (xn _ (by decide)) (xn _ (by decide)) (xn _ (by decide)) (xn _ (by decide)) (W_qe hW (D_sh hD)), D_s3 hD hA.2.2.1 (by rw [ex]) (by rw [ex]) (xn _ (by decide)) K_pr (fun _ _ _ => rfl) hA.1.1, E_s2 hA.2.2.2 (xn _ (by decide)) (xn _ (by decide)) K_pr (fun _ _ _ => rfl) hA.1.1⟩
  · show j_R (M x_refusals_) (M m_refused_); rw [xn x_refusals_ (by decide), xm m_refused_ (by decide)]; exact r
  · show M x_ 16 = M m_ 0; rw [ex, xm m_ (by decide)]; exact s.1
  · show M x_ 14 = M m_ 6; rw [ex, xm m_ (by decide)]; exact s.2.1
  · show M x_ 15 = M m_ 45; rw [ex, xm m_ (by decide)]; exact s.2.2.1
  · show j_D (M x_ 17) (M m_ 53) (M m_drawnMoved_); rw [ex, xm m_ (by decide), xm m_drawnMoved_ (by decide)]; exact dd
  · show j_G (M x_log_ 0) (M x_log_what_) (M x_log_where_) (M x_log_was_) (M m_ 44) (M m_left0_) (M m_kept_); rw [xn x_log_ (by decide), xn x_log_what_ (by decide), xn x_log_where_ (by decide), xn x_log_was_ (by decide), xm m_ (by decide), xm m_left0_ (by decide), xm m_kept_ (by decide)]; exact g
  · show j_H M (M m_kept_) (M m_hasImage_) (M m_images_); rw [xm m_kept_ (by decide), xm m_hasImage_ (by decide), xm m_images_ (by decide)]; exact j_Hd hD rfl (xn _ (by decide)) hh
theorem cw_pc {m : cw_M} {c i v c' i' v' : Int} (h : c ≠ c') : cw_put (cw_put m c i v) c' i' v' = cw_put (cw_put m c' i' v') c i v := by
  funext b j
  unfold cw_put
  by_cases e : b = c ∧ j = i
  · rw [if_neg (fun q => h (e.1.symm.trans q.1)), if_pos e, if_pos e]
  · by_cases f : b = c' ∧ j = i'
    · rw [if_pos f, if_neg e, if_pos f]
    · rw [if_neg f, if_neg e, if_neg e, if_neg f]
theorem cr_rd {M : cw_M} {k i fa : Int} : rd_m (cr_m M k i) fa = cr_m (rd_m M fa) k i := by
  unfold rd_m cr_m
  rw [cw_pc (c := x_refusals_) (c' := m_) (by decide), cw_pc (c := x_refusals_) (c' := m_) (by decide), cw_pc (c := x_) (c' := m_) (by decide), cw_pc (c := x_) (c' := m_) (by decide)]
  rfl
/-- the tape is cut by both -/
theorem J_t0 {n sc : Int} {S : Int → Int} {m : cw_M} {l : Int} (hs : sc < 33554432) (hI : J_I n sc S m) (hl : 0 ≤ l ∧ l ≤ m x_reader_ 1) : J_I n sc S (cw_put (cw_put m x_reader_ 1 l) m_ 13 l) := by
  obtain ⟨⟨h1, h2⟩, hA, hB, hC, hN⟩ := hI
  have hmm : (33554432 : Int) ≤ m_ := by decide
  have hT := hC.2.2.1
  have hK := hA.1
  have hW := hA.2.1
  have hm := h1
  have hD : D_s m (cw_put m x_reader_ 1 l) := (D_sp D_sr (by decide))
  refine J_up (by omega) (la_put (la_put hm (by decide) (Or.inl rfl)) (by decide) (Or.inl rfl)) (F_mp (by decide)) rfl (D_sk hD h2) ⟨hK, ?_, ?_, ?_⟩ (by have z := J_Bd hD hB; exact z) ⟨hC.1, hC.2.1, ⟨rfl, ?_, fun i a b => ?_⟩, hC.2.2.2.1, hC.2.2.2.2.1, ?_⟩ (D_sN hs hD hN)
  · exact W_mr rfl rfl rfl rfl rfl rfl rfl rfl rfl rfl rfl rfl rfl rfl (W_qe (hW) (D_sh hD))
  · exact D_s3 hD hA.2.2.1 rfl rfl rfl K_pr (fun _ _ _ => rfl) hK.1
  · exact E_s2 hA.2.2.2 rfl rfl K_pr (fun _ _ _ => rfl) hK.1
  · show 0 ≤ l ∧ l ≤ 400
    have := hT.2.1; omega
  · exact hT.2.2 i a (by have : i < l := b; omega)
  · exact j_Hd hD rfl rfl hC.2.2.2.2.2
/-- where the law's tokens lie -/
theorem k_lw {K cd vl : Int → Int} {tk : Int} (h9 : 0 ≤ K 49 ∧ K 49 < 6) (hk : 0 ≤ tk ∧ tk ≤ 400) : (∀ i, i < 51 → i ≠ 49 → k_law K tk cd vl i = K i) ∧ k_law K tk cd vl 49 = K 49 + 1 ∧ k_law K tk cd vl (51 + K 49) = tk ∧ (∀ k, 0 ≤ k → k < tk → k_law K tk cd vl (58 + (400 * K 49 + k)) = cd k ∧ k_law K tk cd vl (2858 + (400 * K 49 + k)) = vl k) ∧ ∀ t, 0 ≤ t → t < 6 → t ≠ K 49 → k_law K tk cd vl (51 + t) = K (51 + t) ∧ ∀ k, 0 ≤ k → k < 400 → k_law K tk cd vl (58 + (400 * t + k)) = K (58 + (400 * t + k)) ∧ k_law K tk cd vl (2858 + (400 * t + k)) = K (2858 + (400 * t + k)) := by
  refine ⟨fun i a b => ?_, cw_up_eq, ?_, fun k a b => ⟨?_, ?_⟩, fun t a b e => ⟨?_, fun k x y => ⟨?_, ?_⟩⟩⟩
  · unfold k_law; rw [cw_up_ne b, k_lay49 a h9.1]
  · unfold k_law k_lay; rw [cw_up_ne (by omega), if_pos rfl]
  · unfold k_law k_lay; rw [cw_up_ne (by omega), if_neg (by omega), if_pos (by omega)]; congr 1; omega
  · unfold k_law k_lay; rw [cw_up_ne (by omega), if_neg (by omega), if_neg (by omega), if_pos (by omega)]; congr 1; omega
  · unfold k_law k_lay; rw [cw_up_ne (by omega), if_neg (by omega), if_neg (by omega), if_neg (by omega)]
  · unfold k_law k_lay; rw [cw_up_ne (by omega), if_neg (by omega), if_neg (by omega), if_neg (by omega)]
  · unfold k_law k_lay; rw [cw_up_ne (by omega), if_neg (by omega), if_neg (by omega), if_neg (by omega)]
theorem k_lks {K cd vl : Int → Int} {tk t : Int} (hK : K_r K) (h9 : K 49 < 6) (hk : 0 ≤ tk ∧ tk ≤ 400) (ht : 0 ≤ t ∧ t < K 49) : l_ks (k_law K tk cd vl) t = l_ks K t ∧ L_ok (k_law K tk cd vl) t := by
  have k9 := hK.2.2.2.2.2.2.2.2.2.2.2.1
  have w := k_lw (K := K) (cd := cd) (vl := vl) ⟨k9.1, h9⟩ hk
  have hL := hK.2.2.2.2.2.2.2.2.2.2.2.2.2.2.2 t ht.1 ht.2
  have z := w.2.2.2.2 t ht.1 (by omega) (by omega)
  have l4 := hL.1
  exact ⟨(l_ksc z.1 (fun k a b => z.2 k a (by rw [z.1] at b; omega))).2.2, L_okc z.1.symm (fun k a b => ⟨(z.2 k a (by omega)).1.symm, (z.2 k a (by omega)).2.symm⟩) hL⟩
theorem k_lnew {K cd vl b : Int → Int} {tk n : Int} {Ks : List p_K} (hK : K_r K) (h9 : K 49 < 6) (hn : n ≤ 400) (hk : K_n b n tk) (hcd : ∀ i, 0 ≤ i → i ≤ tk → cd i = k_C b n i ∧ vl i = k_V b n i) (hp : p_all (k_C b n) (k_V b n) false tk = .ok Ks) : l_ks (k_law K tk cd vl) (K 49) = Ks ∧ L_ok (k_law K tk cd vl) (K 49) := by
  have k9 := hK.2.2.2.2.2.2.2.2.2.2.2.1
  have h1 := hk.1
  have w := k_lw (K := K) (cd := cd) (vl := vl) (tk := tk) ⟨k9.1, h9⟩ ⟨h1.1, by omega⟩
  have e : p_all (k_C b n) (k_V b n) false tk = p_all (l_c (k_law K tk cd vl) (K 49)) (l_v (k_law K tk cd vl) (K 49)) false tk := by
    refine p_allE (fun i hi => ?_)
    unfold l_c l_v
    rw [w.2.2.1]
    by_cases q : i < tk
    · rw [if_pos ⟨hi, q⟩, if_pos ⟨hi, q⟩, (w.2.2.2.1 i hi q).1, (w.2.2.2.1 i hi q).2]
      exact hcd i hi (by omega)
    · rw [if_neg (by omega), if_neg (by omega)]
      have z := k_CV0 hk (show tk ≤ i by omega)
      exact ⟨z.1.symm, z.2.symm⟩
  have ek : l_ks (k_law K tk cd vl) (K 49) = Ks := by
    unfold l_ks
    rw [w.2.2.1, ← e, hp]
  refine ⟨ek, ⟨by rw [w.2.2.1]; omega, fun k a b2 => ?_, by rw [ek, w.2.2.1, ← e]; exact hp⟩⟩
  rw [w.2.2.1] at b2
  rw [(w.2.2.2.1 k a b2).2, (hcd k a (by omega)).2]
  exact k_Vn
theorem K_rl {K cd vl b : Int → Int} {tk n : Int} {Ks : List p_K} (hK : K_r K) (h9 : K 49 < 6) (hn : n ≤ 400) (hk : K_n b n tk) (hcd : ∀ i, 0 ≤ i → i ≤ tk → cd i = k_C b n i ∧ vl i = k_V b n i) (hp : p_all (k_C b n) (k_V b n) false tk = .ok Ks) : K_r (k_law K tk cd vl) := by
  have k9 := hK.2.2.2.2.2.2.2.2.2.2.2.1
  have h1' := hk.1
  have w := k_lw (K := K) (cd := cd) (vl := vl) (tk := tk) ⟨k9.1, h9⟩ ⟨h1'.1, by omega⟩
  have e := w.1
  have lo := fun t ht => (k_lks (cd := cd) (vl := vl) (tk := tk) (t := t) hK h9 ⟨h1'.1, by omega⟩ ht).2
  have ln := (k_lnew hK h9 hn hk hcd hp).2
  obtain ⟨h1, h2, h3, h4, h5, h6, h7, h8, h9', ha, hb, hc, hd, he, hg, hl⟩ := hK
  refine ⟨by rw [e 46 (by decide) (by decide)]; exact h1, fun i a b => by rw [e i (by omega) (by omega)]; exact h2 i a b, fun i a b => by rw [e _ (by omega) (by omega)]; exact h3 i a b, fun i a b => by rw [e _ (by omega) (by omega)]; exact h4 i a b, by rw [e 18 (by decide) (by decide)]; exact h5, fun i a b => by rw [e _ (by omega) (by omega)]; exact h6 i a b, by rw [e 43 (by decide) (by decide)]; exact h7, by rw [e 44 (by decide) (by decide)]; exact h8, by rw [e 45 (by decide) (by decide)]; exact h9', by rw [e 47 (by decide) (by decide)]; exact ha, by rw [e 48 (by decide) (by decide)]; exact hb, by rw [w.2.1]; omega, by rw [w.2.1, e 50 (by decide) (by decide)]; omega, fun i a b => by rw [e _ (by omega) (by omega)]; exact he i a b, fun i a b => by rw [e _ (by omega) (by omega), e _ (by omega) (by omega)]; exact hg i a b, fun i a b => ?_⟩
  rw [w.2.1] at b
  by_cases q : i = K 49
  · rw [q]; exact ln
  · exact lo i ⟨a, by omega⟩
theorem C_law {d : Nat} {m : cw_M} {Q : Option cw_V → cw_M → Prop} {tk : Int} (hm : la_ok m) (hr : c_fb m) (hX : X_h m tk) (h11 : 0 ≤ m x_will_ 11 ∧ m x_will_ 11 ≤ 6) (hN : (124 ≤ m (-1) 0 ∧ m (-1) 0 ≤ 500000) ∧ 0 ≤ m (-1) 1 ∧ m (-1) 1 ≤ 6000000) (h5 : m x_will_ 11 = 6 → Q (some (vi (-5))) (cr_m (cw_put m x_reader_ 1 0) (-5) 3)) (her : ∀ er M, m x_will_ 11 < 6 → la_ok M → X_p m M (x_P m er) → p_all (x_c m) (x_v m) false tk = .error er → Q (some (vi (-6))) (cr_m M (-6) 4)) (hok : ∀ Ks M X, m x_will_ 11 < 6 → la_ok M → X_p m M (-1) → p_all (x_c m) (x_v m) false tk = .ok Ks → X_t false M Ks → la_ok X → X (-1) 0 = m (-1) 0 + 7 → X (-1) 1 = m (-1) 1 + 8 + (5 * (Ks.length : Int) + (M x_reader_text_ 1)) → (∀ z, z ≠ -1 → z ≠ -2 → z < M (-1) 0 * 1048576 → X z = M z) → (∀ i ∈ [(0 : Int), 1, 2, 3, 4, 5, 6, 7], X (j_cd (M (-1) 0) 8 8) i = ts_f (M (-1) 0) (Ks.length : Int) (M x_reader_text_ 1) i) → (∀ k ∈ [(7 : Int), 6, 5, 4, 3, 2], ∀ i, 0 ≤ i → i < ts_n (Ks.length : Int) (M x_reader_text_ 1) k → X (ts_f (M (-1) 0) (Ks.length : Int) (M x_reader_text_ 1) k) i = M (ts_S k) i) → Q (some (vi (m x_will_ 11))) (cw_put (cw_put (cw_put X x_will_lawAt_ (m x_will_ 11) (j_cd (M (-1) 0) 8 8)) x_will_ 11 (m x_will_ 11 + 1)) x_ 16 0)) : cw_C (d + 42) k_C_law [vr x_] m Q := by
  refine la_go_C hm 19 [59] ?_
  refine And.intro (fun (c21 : m x_will_ 11 < 6) => ?_) (fun (c21 : ¬ (m x_will_ 11 < 6)) => ?_)
  · show cw_C _ _ [vr x_reader_, vi 1] (m) _
    refine Re_parseF hm hX (fun (Ks : List p_K) (M : cw_M) (hM : la_ok M) hXp hpa hXt => ⟨hM, ?_⟩) (fun (er : Int) (M : cw_M) (hM : la_ok M) hXp hpa => ⟨hM, ?_⟩)
    · refine br_t (show (1 : Int) ≠ 0 by decide) ?_
      show cw_R _ _ 59 [vr x_] [vi (M x_will_ 11), vr x_will_lawAt_] (M) _
      have eN : M (-1) = m (-1) := X_pn hXp (by decide)
      have e11 : M x_will_ 11 = m x_will_ 11 := by rw [X_pn hXp (by decide)]
      have n0 : M (-1) 0 = m (-1) 0 := by rw [eN]
      have n1 : M (-1) 1 = m (-1) 1 := by rw [eN]
      have r8 := cd_r (c := M (-1) 0) (n := 8) (t := 8) (by decide) (by decide)
      have okN : la_ok (cw_new M 8 8) := la_nw hM (by decide) (by decide)
      refine cw_go_R 2 [63] ?_
      refine And.intro ⟨by unfold cw_LC; omega, by unfold cw_LS; omega⟩ ?_
      show cw_R _ _ 63 [vr x_] [vr (j_cd (M (-1) 0) 8 8), vr (j_cd (M (-1) 0) 8 8), vi (M x_will_ 11), vr x_will_lawAt_] (cw_new M 8 8) _
      refine la_go_R okN 6 [70] ?_
      show cw_R _ _ 70 [vr x_] [vr x_reader_text_, vr (j_cd (M (-1) 0) 8 8), vr (j_cd (M (-1) 0) 8 8), vi (M x_will_ 11), vr x_will_lawAt_] (cw_new M 8 8) _
      refine cw_go_R 1 [73] ?_
      refine And.intro r8.2.2.1 ?_
      show cw_C _ _ [vr (j_cd (M (-1) 0) 8 8), vr x_reader_text_] (cw_new M 8 8) _
      have nN := new_N (m := M) (t := 8) (n := 8) (by omega) (by decide) (by decide)
      have ne : ∀ z, z ≠ -1 → z ≠ -2 → z < M (-1) 0 * 1048576 → cw_new M 8 8 z = M z := fun z a b e => new_ne a b (by rw [nc_cd]; omega)
      have xr : 0 < x_reader_text_ ∧ x_reader_text_ < 130023424 := by decide
      refine Te_init1 (c := M (-1) 0) (s := M (-1) 1 + 8) (n := (Ks.length : Int)) (z := M x_reader_text_ 1) okN rfl (by omega) nN.1 nN.2 (by omega) (by rw [ne _ (by omega) (by omega) (by omega)]; exact hXt.2.2.2.1) (by rw [ne _ (by omega) (by omega) (by omega)]) (by have := hXt.2.2.2.2; omega) hXt.2.2.1 (fun X hN1 hs1 hrow => ?_)
      have fr : ∀ z, z ≠ -1 → z ≠ -2 → z < M (-1) 0 * 1048576 → X z = M z := fun z a b e => by rw [hrow.1 z a b e, ne z a b e]
      have rT := hrow.2.1
      have sr : ∀ k ∈ [(7 : Int), 6, 5, 4, 3, 2], 0 < ts_S k ∧ ts_S k < 130023424 := by decide
      have rr : ∀ k ∈ [(7 : Int), 6, 5, 4, 3, 2], ∀ i, 0 ≤ i → i < ts_n (Ks.length : Int) (M x_reader_text_ 1) k → X (ts_f (M (-1) 0) (Ks.length : Int) (M x_reader_text_ 1) k) i = M (ts_S k) i := fun k hk i a b => by
        have q := sr k hk
        rw [hrow.2.2 k hk i a b, ne _ (by omega) (by omega) (by omega)]
      have okX : la_ok X := ⟨by omega, fun e he => by
        have l := la_lok e he
        have l2 := l.2.2.1
        unfold cw_ce at l2
        rw [fr e.1 (by omega) (by omega) (by omega)]
        exact hM.2 e he⟩
      have xw : 0 < x_will_ ∧ x_will_ < 130023424 := by decide
      have eX : X x_will_ 11 = M x_will_ 11 := by rw [fr x_will_ (by omega) (by omega) (by omega)]
      show cw_R _ _ 73 [vr x_] [vr (j_cd (M (-1) 0) 8 8), vi (M x_will_ 11), vr x_will_lawAt_] X _
      refine cw_go_R 1 [74] ?_
      refine And.intro ⟨⟨Or.inl ⟨by decide, Or.inr r8.2.2.1⟩, by unfold cw_own; decide⟩, by omega, by show M x_will_ 11 < 6; omega⟩ ?_
      show cw_R _ _ 74 [vr x_] [] (cw_put X x_will_lawAt_ (M x_will_ 11) (j_cd (M (-1) 0) 8 8)) _
      have eX2 : cw_put X x_will_lawAt_ (M x_will_ 11) (j_cd (M (-1) 0) 8 8) x_will_ 11 = X x_will_ 11 := rfl
      refine la_go_R (la_put okX (by decide) (Or.inr (by decide))) 18 [] ?_
      refine And.intro (show -2147483648 ≤ ((cw_put X x_will_lawAt_ (M x_will_ 11) (j_cd (M (-1) 0) 8 8)) x_will_ 11) + 1 ∧ ((cw_put X x_will_lawAt_ (M x_will_ 11) (j_cd (M (-1) 0) 8 8)) x_will_ 11) + 1 < 2147483648 by omega) ?_
      have hm21 : la_ok (cw_put (cw_put X x_will_lawAt_ (M x_will_ 11) (j_cd (M (-1) 0) 8 8)) x_will_ 11 (((cw_put X x_will_lawAt_ (M x_will_ 11) (j_cd (M (-1) 0) 8 8)) x_will_ 11) + 1)) := la_put (la_put okX (by decide) (Or.inr (by decide))) (by decide) (Or.inl rfl)
      refine And.intro (show -2147483648 ≤ (((cw_put X x_will_lawAt_ (M x_will_ 11) (j_cd (M (-1) 0) 8 8)) x_will_ 11) + 1) - 1 ∧ (((cw_put X x_will_lawAt_ (M x_will_ 11) (j_cd (M (-1) 0) 8 8)) x_will_ 11) + 1) - 1 < 2147483648 by omega) ?_
      show cw_C _ _ [vr x_, vi ((((cw_put X x_will_lawAt_ (M x_will_ 11) (j_cd (M (-1) 0) 8 8)) x_will_ 11) + 1) - 1)] (cw_put (cw_put X x_will_lawAt_ (M x_will_ 11) (j_cd (M (-1) 0) 8 8)) x_will_ 11 (((cw_put X x_will_lawAt_ (M x_will_ 11) (j_cd (M (-1) 0) 8 8)) x_will_ 11) + 1)) _
      refine C_accept hm21 ⟨(la_put hm21 (by decide) (Or.inl rfl)), ?_⟩
      show Q (some (vi ((((cw_put X x_will_lawAt_ (M x_will_ 11) (j_cd (M (-1) 0) 8 8)) x_will_ 11) + 1) - 1))) (cw_put (cw_put (cw_put X x_will_lawAt_ (M x_will_ 11) (j_cd (M (-1) 0) 8 8)) x_will_ 11 (((cw_put X x_will_lawAt_ (M x_will_ 11) (j_cd (M (-1) 0) 8 8)) x_will_ 11) + 1)) x_ 16 0)
      rw [show (((cw_put X x_will_lawAt_ (M x_will_ 11) (j_cd (M (-1) 0) 8 8)) x_will_ 11) + 1) - 1 = m x_will_ 11 by omega]
      rw [eX2, eX, show M x_will_ 11 = m x_will_ 11 by omega]
      exact hok Ks M X (by omega) hM hXp hpa hXt okX (by omega) (by omega) fr rT rr
    · have hrM : c_fb M := fun i a b => by rw [X_pn hXp (by decide)]; exact hr i a b
      refine br_f (show ¬ ((0 : Int) ≠ 0) by decide) ?_
      show cw_C _ _ [vr x_, vi (-6)] (M) _
      refine C_refuse6 hM (hrM 4 (by decide) (by decide)) ⟨(cr_ok hM), ?_⟩
      show Q (some (vi (-6))) (cr_m M (-6) 4)
      exact her er M (by omega) hM hXp hpa
  · have hm22 : la_ok (cw_put m x_reader_ 1 0) := la_put hm (by decide) (Or.inl rfl)
    show cw_C _ _ [vr x_, vi (-5)] (cw_put m x_reader_ 1 0) _
    refine C_refuse5 hm22 (hr 3 (by decide) (by decide)) ⟨(cr_ok hm22), ?_⟩
    show Q (some (vi (-5))) (cr_m (cw_put m x_reader_ 1 0) (-5) 3)
    exact h5 (by omega)
