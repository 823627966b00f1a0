/-! Orders, by the reference (wip/whole/tools/m111.py). -/
theorem k_layc {K cd vl cd' vl' : Int → Int} {t tk k : Int} (h : ∀ i, 0 ≤ i → i < k → cd i = cd' i ∧ vl i = vl' i) : k_lay K t tk cd vl k = k_lay K t tk cd' vl' k := by
  funext i
  unfold k_lay
  by_cases q0 : i = 51 + t
  · rw [if_pos q0, if_pos q0]
  rw [if_neg q0, if_neg q0]
  by_cases q1 : 58 + 400 * t ≤ i ∧ i < 58 + 400 * t + k
  · rw [if_pos q1, if_pos q1]; exact (h _ (by omega) (by omega)).1
  rw [if_neg q1, if_neg q1]
  by_cases q2 : 2858 + 400 * t ≤ i ∧ i < 2858 + 400 * t + k
  · rw [if_pos q2, if_pos q2]; exact (h _ (by omega) (by omega)).2
  rw [if_neg q2, if_neg q2]
theorem k_lay6 {K : Int → Int} {tk i : Int} {cd vl : Int → Int} (hk : 0 ≤ tk ∧ tk ≤ 400) (hi : i < 57 ∨ (58 ≤ i ∧ i < 2458) ∨ (2858 ≤ i ∧ i < 5258)) : k_lay K 6 tk cd vl tk i = K i := by
  unfold k_lay
  rw [if_neg (by omega), if_neg (by omega), if_neg (by omega)]
theorem K_r6 {K cd vl : Int → Int} {tk : Int} (h : K_r K) (hk : 0 ≤ tk ∧ tk ≤ 400) : K_r (k_lay K 6 tk cd vl tk) := by
  obtain ⟨h1, h2, h3, h4, h5, h6, h7, h8, h9, ha, hb, hc, hd, he, hg, hl⟩ := h
  have n : ∀ j, j < 57 → k_lay K 6 tk cd vl tk j = K j := fun j q => k_lay6 hk (by omega)
  refine ⟨by rw [n 46 (by decide)]; exact h1, fun j a b => by rw [n _ (by omega)]; exact h2 j a b, fun j a b => by rw [n _ (by omega)]; exact h3 j a b, fun j a b => by rw [n _ (by omega)]; exact h4 j a b, by rw [n 18 (by decide)]; exact h5, fun i a b => by rw [n _ (by omega)]; exact h6 i a b, by rw [n 43 (by decide)]; exact h7, by rw [n 44 (by decide)]; exact h8, by rw [n 45 (by decide)]; exact h9, by rw [n 47 (by decide)]; exact ha, by rw [n 48 (by decide)]; exact hb, by rw [n 49 (by decide)]; exact hc, by rw [n 49 (by decide), n 50 (by decide)]; exact hd, fun i a b => by rw [n _ (by omega)]; exact he i a b, fun i a b => by rw [n _ (by omega), n _ (by omega)]; exact hg i a b, fun j a b => ?_⟩
  rw [n 49 (by decide)] at b
  have l := (hl j a b).1
  exact L_okc (n _ (by omega)).symm (fun k c d => ⟨(k_lay6 hk (by omega)).symm, (k_lay6 hk (by omega)).symm⟩) (hl j a b)
theorem st_self {m : cw_M} : st_m m (m m_kept_) (m m_left0_) (m m_ 44) = m := by
  unfold st_m ml_m kr_m
  rw [show cw_row m m_kept_ (m m_kept_) = m from cw_row_self, cw_row_self]
  exact cw_put_self rfl
theorem st_U {A B : cw_M} {K L : Int → Int} {u : Int} (h1 : ∀ c, c ∉ U_C → c ≠ m_ → c ≠ m_kept_ → c ≠ m_left0_ → B c = A c) (h2 : ∀ j, j ∉ U_F → j ≠ 44 → B m_ j = A m_ j) : U_s (st_m A K L u) (st_m B K L u) := by
  refine ⟨fun c a b => ?_, fun j a => ?_⟩
  · by_cases q1 : c = m_kept_
    · rw [q1]; rfl
    by_cases q2 : c = m_left0_
    · rw [q2]; rfl
    rw [st_ne q1 q2 b, st_ne q1 q2 b]; exact h1 c a b q1 q2
  · by_cases q : j = 44
    · rw [q]; rfl
    · rw [st_f q, st_f q]; exact h2 j a q
theorem M_laysE {d : Nat} {m : cw_M} {Q : Option cw_V → cw_M → Prop} {K : Int → Int} (hm : la_ok m) {t : Int} (ht : 0 ≤ t ∧ t ≤ 6) (htk : 0 ≤ m m_ 18 ∧ m m_ 18 ≤ 400) (e : k_lay (m m_kept_) t (m m_ 18) (m m_code_) (m m_value_) (m m_ 18) = K) (h : Q none (kr_m m K)) : cw_C d k_M_lays [vr m_, vi t] m Q := M_lays hm ht htk (by rw [e]; exact h)
theorem M_orders {d : Nat} {m : cw_M} {Q : Option cw_V → cw_M → Prop} (hm : la_ok m) (hr : r_fb m) (htab : k_tab (m m_words_) 0 k_WL) (hc : ∀ j, 0 ≤ j → j < 7 → m m_catalan_ j = t_c j) (hK : K_r (m m_kept_)) (hun : 0 ≤ m m_ 44 ∧ m m_ 44 ≤ 16) {b : Int → Int} (hn : 0 ≤ m m_ 13 ∧ m m_ 13 ≤ 400) (hb : ∀ i, 0 ≤ i → i < m m_ 13 → (0 ≤ b i ∧ b i ≤ 255) ∧ m m_tape_ i = cw_i2b (b i)) (her : ∀ tk e, K_n b (m m_ 13) tk → p_all (k_C b (m m_ 13)) (k_V b (m m_ 13)) true tk = .error e → ∀ M, la_ok M → U_s (rf_m (rd_m (cw_put m m_ 45 (-1)) (k_P b (m m_ 13) e)) (-6)) M → Q (some (vi (-6))) M) (hok : ∀ tk Ks s', K_n b (m m_ 13) tk → p_all (k_C b (m m_ 13)) (k_V b (m m_ 13)) true tk = .ok Ks → o_l Ks 0 (k_lay (m m_kept_) 6 tk (k_C b (m m_ 13)) (k_V b (m m_ 13)) tk, [], 0, -1) = .ok s' → K_r s'.1 → (0 ≤ (d_L s'.2.1 (m m_left0_) (m m_ 44)).2 ∧ (d_L s'.2.1 (m m_left0_) (m m_ 44)).2 ≤ 16) → ∀ M, la_ok M → U_s (gd_m (st_m (rd_m (cw_put m m_ 45 (-1)) (-1)) s'.1 (d_L s'.2.1 (m m_left0_) (m m_ 44)).1 (d_L s'.2.1 (m m_left0_) (m m_ 44)).2)) M → Q (some (vi s'.2.2.1)) M) (hfa : ∀ tk Ks k, K_n b (m m_ 13) tk → p_all (k_C b (m m_ 13)) (k_V b (m m_ 13)) true tk = .ok Ks → o_l Ks 0 (k_lay (m m_kept_) 6 tk (k_C b (m m_ 13)) (k_V b (m m_ 13)) tk, [], 0, -1) = .error k → (0 ≤ k ∧ k ≤ 11) → ∀ M L, (∀ i, 0 ≤ i → i < 320 → L i = m m_left0_ i) → la_ok M → U_s (rf_m (cw_put (st_m (rd_m (cw_put m m_ 45 (-1)) (-1)) (k_lay (m m_kept_) 6 tk (k_C b (m m_ 13)) (k_V b (m m_ 13)) tk) L (m m_ 44)) m_ 45 k) (-3)) M → Q (some (vi (-3))) M) : cw_C (d + 78) k_M_orders [vr m_] m Q := by
  refine la_go_C hm 15 [27] ?_
  have hm21 : la_ok (cw_put m m_ 45 (-1)) := la_put hm (by decide) (Or.inl rfl)
  show cw_C _ _ [vr m_, vi 1] (cw_put m m_ 45 (-1)) _
  refine M_readsAs1 hm21 htab hn hb (fun (M : cw_M) (cd vl : Int → Int) (tk : Int) (Ks : List p_K) (hM : la_ok M) (hR : R_p (cw_put m m_ 45 (-1)) M cd vl tk (-1)) (hK2 : K_n b (m m_ 13) tk) (hcv : ∀ i, 0 ≤ i → i ≤ tk → cd i = k_C b (m m_ 13) i ∧ vl i = k_V b (m m_ 13) i) (hp : p_all (k_C b (m m_ 13)) (k_V b (m m_ 13)) true tk = .ok Ks) => ⟨hM, ?_⟩) (fun (M : cw_M) (cd vl : Int → Int) (tk e : Int) (hM : la_ok M) (hR : R_p (cw_put m m_ 45 (-1)) M cd vl tk (k_P b (m m_ 13) e)) (hK2 : K_n b (m m_ 13) tk) (hp : p_all (k_C b (m m_ 13)) (k_V b (m m_ 13)) true tk = .error e) => ⟨hM, ?_⟩)
  · refine br_t (show (1 : Int) ≠ 0 by decide) ?_
    show cw_C _ _ [vr m_, vi 1] (M) _
    refine M_laysAside hM (by decide) ⟨(la_row hM (by decide) (by decide)), ?_⟩
    show cw_R _ _ 27 [vr m_, vi 0, none, none, none] [] (cw_row M m_aside_ (t_w (M m_aside_) (19 * 1) 0 19 (fun x => M m_kept_ x))) _
    have e18 : M m_ 18 = tk := hR.2.2.2.2.1
    have ek : M m_kept_ = m m_kept_ := (U_sR hR).1 _ (by decide) (by decide)
    have tk4 : 0 ≤ tk ∧ tk ≤ 400 := by have := hK2.1; omega
    have eK : k_lay (M m_kept_) 6 (M m_ 18) (M m_code_) (M m_value_) (M m_ 18) = k_lay (m m_kept_) 6 tk (k_C b (m m_ 13)) (k_V b (m m_ 13)) tk := by
      rw [ek, e18, hR.2.2.2.2.2.1, hR.2.2.2.2.2.2]
      exact k_layc (fun i a b => hcv i a (by omega))
    refine M_orders27 (la_row hM (by decide) (by decide)) ?_
    generalize eX2 : cw_row (cw_row M m_aside_ (t_w (M m_aside_) (19 * 1) 0 19 (fun x => M m_kept_ x))) m_leftAhead_ (t_w ((cw_row M m_aside_ (t_w (M m_aside_) (19 * 1) 0 19 (fun x => M m_kept_ x))) m_leftAhead_) 0 0 320 (fun x => (cw_row M m_aside_ (t_w (M m_aside_) (19 * 1) 0 19 (fun x => M m_kept_ x))) m_left0_ x)) = X2
    have hX2 : la_ok X2 := by rw [← eX2]; exact la_row (la_row hM (by decide) (by decide)) (by decide) (by decide)
    have x2c : ∀ c, c ≠ m_aside_ → c ≠ m_leftAhead_ → X2 c = M c := fun c p q => by rw [← eX2, cw_row_ne q, cw_row_ne p]
    have x2a : ∀ x, 0 ≤ x → x < 19 → X2 m_aside_ (19 * 1 + x) = M m_kept_ x := fun x p q => by rw [← eX2, cw_row_ne (by decide), cw_row_eq]; exact t_wi (by omega)
    have x2l : ∀ x, 0 ≤ x → x < 320 → X2 m_leftAhead_ x = M m_left0_ x := fun x p q => by rw [← eX2, cw_row_eq]; show t_w _ 0 0 320 _ x = _; unfold t_w; rw [if_pos (by omega), Int.sub_zero]; rfl
    have x2f : X2 m_ = M m_ := x2c m_ (by decide) (by decide)
    have eKX : k_lay (X2 m_kept_) 6 (X2 m_ 18) (X2 m_code_) (X2 m_value_) (X2 m_ 18) = k_lay (m m_kept_) 6 tk (k_C b (m m_ 13)) (k_V b (m m_ 13)) tk := by
      rw [x2f, x2c m_kept_ (by decide) (by decide), x2c m_code_ (by decide) (by decide), x2c m_value_ (by decide) (by decide)]; exact eK
    have hK6 : K_r (k_lay (m m_kept_) 6 tk (k_C b (m m_ 13)) (k_V b (m m_ 13)) tk) := K_r6 hK tk4
    have k57 : (k_lay (m m_kept_) 6 tk (k_C b (m m_ 13)) (k_V b (m m_ 13)) tk) 57 = tk := by unfold k_lay; rw [if_pos (by decide)]
    generalize ekk : k_lay (m m_kept_) 6 tk (k_C b (m m_ 13)) (k_V b (m m_ 13)) tk = k6 at *
    refine la_go_R hX2 28 [95] ?_
    show cw_C _ _ [vr m_, vi 6] (X2) _
    refine M_laysE (K := k6) hX2 (by decide) (by rw [x2f]; omega) eKX ⟨(kr_ok hX2), ?_⟩
    have hm21 : la_ok (cw_put (kr_m X2 (k6)) m_ 27 0) := la_put (kr_ok hX2) (by decide) (Or.inl rfl)
    have hm22 : la_ok (cw_put (cw_put (kr_m X2 (k6)) m_ 27 0) m_ 28 (-1)) := la_put hm21 (by decide) (Or.inl rfl)
    have hm23 : la_ok (cw_put (cw_put (cw_put (kr_m X2 (k6)) m_ 27 0) m_ 28 (-1)) m_ 46 2400) := la_put hm22 (by decide) (Or.inl rfl)
    refine And.intro (show 0 ≤ 57 ∧ 57 < 5658 by omega) ?_
    refine And.intro (show -2147483648 ≤ 2400 + (k6 57) ∧ 2400 + (k6 57) < 2147483648 by omega) ?_
    show cw_R _ _ 95 [vr m_, vi (X2 m_ 44), vi (2400 + (k6 57)), vi 0, none] [] (cw_put (cw_put (cw_put (kr_m X2 (k6)) m_ 27 0) m_ 28 (-1)) m_ 46 2400) _
    rw [show 2400 + k6 57 = 2400 + tk by rw [k57]]
    have hX3 : la_ok (cw_put (cw_put (cw_put (kr_m X2 k6) m_ 27 0) m_ 28 (-1)) m_ 46 2400) := hm23
    have x3c : ∀ c, c ≠ m_ → c ≠ m_kept_ → c ≠ m_aside_ → c ≠ m_leftAhead_ → (cw_put (cw_put (cw_put (kr_m X2 k6) m_ 27 0) m_ 28 (-1)) m_ 46 2400) c = M c := fun c a b p q => by rw [cw_put_ne a, cw_put_ne a, cw_put_ne a]; unfold kr_m; rw [cw_row_ne b]; exact x2c c p q
    have x3f : ∀ j, j ∉ U_F → (cw_put (cw_put (cw_put (kr_m X2 k6) m_ 27 0) m_ 28 (-1)) m_ 46 2400) m_ j = M m_ j := fun j a => by rw [cw_put_off (U_n a (by decide)), cw_put_off (U_n a (by decide)), cw_put_off (U_n a (by decide))]; unfold kr_m; rw [cw_row_ne (by decide), x2f]
    have hU := U_sR hR
    have uC : ∀ c, c ∉ U_C → c ≠ m_ → c ≠ m_kept_ → c ≠ m_left0_ → (cw_put (cw_put (cw_put (kr_m X2 k6) m_ 27 0) m_ 28 (-1)) m_ 46 2400) c = rd_m (cw_put m m_ 45 (-1)) (-1) c := fun c a b p q => by rw [x3c c b p (U_n a (by decide)) (U_n a (by decide))]; exact hU.1 c a b
    have uF : ∀ j, j ∉ U_F → j ≠ 44 → (cw_put (cw_put (cw_put (kr_m X2 k6) m_ 27 0) m_ 28 (-1)) m_ 46 2400) m_ j = rd_m (cw_put m m_ 45 (-1)) (-1) m_ j := fun j a _ => by rw [x3f j a]; exact hU.2 j a
    have x44 : (cw_put (cw_put (cw_put (kr_m X2 k6) m_ 27 0) m_ 28 (-1)) m_ 46 2400) m_ 44 = m m_ 44 := by rw [x3f 44 (by decide)]; exact hU.2 44 (by decide)
    have xl : (cw_put (cw_put (cw_put (kr_m X2 k6) m_ 27 0) m_ 28 (-1)) m_ 46 2400) m_left0_ = m m_left0_ := by rw [x3c _ (by decide) (by decide) (by decide) (by decide)]; exact hU.1 _ (by decide) (by decide)
    have ua4 : X2 m_ 44 = m m_ 44 := by rw [x2f]; exact hU.2 44 (by decide)
    rw [ua4]
    have hml : M m_left0_ = m m_left0_ := hU.1 _ (by decide) (by decide)
    generalize eX3 : cw_put (cw_put (cw_put (kr_m X2 k6) m_ 27 0) m_ 28 (-1)) m_ 46 2400 = X3 at *
    refine M_orders95 (m := X3) (L0 := m m_left0_) (K0 := k6) (u0 := m m_ 44) (c := k_C b (m m_ 13)) (v := k_V b (m m_ 13)) (n := tk) (s := (k6, [], 0, -1)) (Ks := Ks) (RR := o_l Ks 0 (k6, [], 0, -1)) tk4 (k_Cz hK2) (fun j a b => by rw [x3c _ (by decide) (by decide) (by decide) (by decide), hU.1 _ (by decide) (by decide)]; exact hc j a b) (fun X s' hS hKr e => ?_) (fun k X K L un w4 hX hP hKo hk e => ?_) ⟨hX3, ?_, by rw [← eX3]; rfl, by rw [← eX3]; rfl, hun⟩ (by rw [← eX3]; exact cw_put_eq) ⟨hK6, fun i a b => ⟨?_, ?_, k_Vn⟩, ⟨(by decide : (0 : Int) ≤ 0), (by decide : (0 : Int) ≤ 0)⟩, (by decide : (-1 : Int) ≤ -1), (by decide : (-1 : Int) ≤ 132), fun i _ => rfl⟩ hp rfl
    · exact hok tk Ks s' hK2 hp (by rw [ekk]; exact e) hKr hS.2.2.2.2 _ (gd_ok hS.1) (U_sg (U_st (st_U uC uF) (P_sU hS.2.1)))
    · refine M_orders114 hX (fun i a b => ?_) ?_
      · rw [hP.1 _ (by decide) (by decide), st_ne (by decide) (by decide) (by decide), x3c _ (by decide) (by decide) (by decide) (by decide), hU.1 _ (by decide) (by decide)]; exact hr i a b
      have xk : X m_kept_ = K := hP.1 _ (by decide) (by decide)
      have xa : X m_aside_ = X2 m_aside_ := by rw [hP.1 _ (by decide) (by decide), st_ne (by decide) (by decide) (by decide), ← eX3]; rfl
      have xla : X m_leftAhead_ = X2 m_leftAhead_ := by rw [hP.1 _ (by decide) (by decide), st_ne (by decide) (by decide) (by decide), ← eX3]; rfl
      have eKB : t_w (X m_kept_) 0 0 19 (fun x => X m_aside_ (19 * 1 + x)) = k6 := by
        funext i
        unfold t_w
        by_cases q : 0 + 0 ≤ i ∧ i < 0 + 0 + 19
        · rw [if_pos q, Int.sub_zero, xa]; show X2 m_aside_ (19 * 1 + i) = _; rw [x2a i (by omega) (by omega), ek, ← ekk, k_lay6 tk4 (by omega)]
        · rw [if_neg q, xk]; exact hKo i (by omega)
      rw [eKB, ← ekk]
      refine hfa tk Ks k hK2 hp (by rw [ekk]; exact e) hk _ _ (fun i a b => ?_) (rf_ok (la_put (la_put (ml_ok (kr_ok hX)) (by decide) (Or.inl rfl)) (by decide) (Or.inl rfl))) (U_sf (U_sp (st_U (A := rd_m (cw_put m m_ 45 (-1)) (-1)) (B := X) (fun c a b p q => ?_) (fun j a b => ?_))))
      · show t_w _ 0 0 320 _ i = _
        unfold t_w
        rw [if_pos (by omega), Int.sub_zero]
        show X m_leftAhead_ i = _
        rw [xla, x2l i a b, hml]
      · rw [(P_sU hP).1 c a b, st_ne p q b]; exact uC c a b p q
      · rw [(P_sU hP).2 j a, st_f b]; exact uF j a b
    · show P_s (st_m X3 k6 (m m_left0_) (m m_ 44)) X3
      have e3 : X3 m_kept_ = k6 := by rw [← eX3]; rfl
      rw [← xl, ← x44, ← e3, st_self]
      exact P_sr
    · show k6 _ = _
      rw [← ekk]; unfold k_lay; rw [if_neg (by omega), if_pos (by omega), show 58 + (2400 + i) - (58 + 400 * 6) = i by omega]
    · show k6 _ = _
      rw [← ekk]; unfold k_lay; rw [if_neg (by omega), if_neg (by omega), if_pos (by omega), show 2858 + (2400 + i) - (2858 + 400 * 6) = i by omega]
  · refine br_f (show ¬ ((0 : Int) ≠ 0) by decide) ?_
    show cw_C _ _ [vr m_, vi (-6)] (M) _
    refine M_refuses hM (by decide) (by rw [(U_sR hR).1 m_refused_ (by decide) (by decide)]; exact hr 6 (by decide) (by decide)) ⟨(rf_ok hM), ?_⟩
    show Q (some (vi (-6))) (rf_m M (-6))
    exact her tk e hK2 hp _ (rf_ok hM) (U_sf (U_sR hR))
