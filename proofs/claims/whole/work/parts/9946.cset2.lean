/-! What settles a reading, asked of the class (wip/whole/tools/m146.py). -/
def S_L : List Int := [x_settler_, x_settler_trial_, x_settler_wrong_]
theorem S_LV {m M : cw_M} (hM : ∀ c, c ∉ S_L → M c = m c) : V_p m M := ⟨fun c a _ => hM c (fun q => a ((show ∀ x ∈ S_L, x ∈ X_P by decide) c q)), fun j _ _ => by rw [hM x_ (by decide)]⟩
theorem Z_cP {m M : cw_M} {K : Int → Int} (h : Z_c m K) (hM : ∀ c, c ∉ S_L → M c = m c) : Z_c M K := by
  have ex := hM x_ (by decide)
  refine ⟨S_ce h.1 (hM _ (by decide)) (hM _ (by decide)) (hM _ (by decide)) (hM _ (by decide)) (by rw [ex]), fun i q => ?_, ?_, fun q => ?_⟩
  · rw [hM _ (by decide), hM _ (by decide)]; exact h.2.1 i q
  · rw [ex]; exact h.2.2.1
  · rw [ex] at q
    exact L_ce (h.2.2.2 q) (hM _ (by decide)) (hM _ (by decide)) (hM _ (by decide)) (hM _ (by decide)) (V_h (S_LV hM)) (hM _ (by decide))
theorem C_settle101 {d : Nat} {Y : cw_M} {Q : Option cw_V → cw_M → Prop} {K : Int → Int} {rd w t0 : Int} {w4 : cw_V} (hK : K_r K) (hY : la_ok Y) (hg : (0 ≤ rd ∧ rd < ((R_K K).length : Int)) ∧ 0 ≤ w ∧ w ≤ K 46 - 1) (hs : s_A K (t_g (R_K K) rd) (Y x_settler_ 1) (Y x_settler_trial_)) (h : ∀ r, s_R K rd w r → Q (some (vi r)) Y) : cw_R d k_C_settle 101 [vr x_, vi rd, vi w, vi t0, w4] [] Y Q := by
  have k46 := hK.1
  refine la_go_R hY 18 [] ?_
  refine And.intro (fun (c21 : Y x_settler_ 1 = (-1)) => ?_) (fun (c21 : ¬ (Y x_settler_ 1 = (-1))) => ?_)
  · show Q (some (vi (Y x_settler_ 1))) (Y)
    exact h _ ((s_RA hg hs).1 (by omega))
  · refine And.intro (fun (c22 : w ≠ 0) => ?_) (fun (c22 : ¬ (w ≠ 0)) => ?_)
    · refine And.intro (show -2147483648 ≤ w - 1 ∧ w - 1 < 2147483648 by omega) ?_
      refine And.intro (show 0 ≤ w - 1 ∧ w - 1 < 6 by omega) ?_
      show Q (some (vi (Y x_settler_trial_ (w - 1)))) (Y)
      exact h _ ((s_RA hg hs).2 (by omega) (by omega))
    · show Q (some (vi (Y x_settler_ 1))) (Y)
      exact h _ ((s_RA hg hs).1 (by omega))
theorem C_settle78 {d : Nat} {Y : cw_M} {Q : Option cw_V → cw_M → Prop} {K : Int → Int} {rd w t0 : Int} {w4 : cw_V} (hK : K_r K) (hY : la_ok Y) (hWY : W_r Y K) (hZY : Z_f Y K) (hg : (0 ≤ rd ∧ rd < ((R_K K).length : Int)) ∧ 0 ≤ w ∧ w ≤ K 46 - 1) (ht0 : t0 = (t_g (R_K K) rd)) (hkn : ∀ t, 0 ≤ t → t < t_tm (K 46) → Y x_ledger_isKnown_ t ≠ 0) (h : ∀ r M, s_R K rd w r → la_ok M → V_p Y M → Z_c M K → E_s M K → Q (some (vi r)) M) : cw_R (d + 8) k_C_settle 78 [vr x_, vi rd, vi w, vi t0, w4] [] Y Q := by
  have k46 := hK.1
  have tt := (R_Kr hK).2 rd hg.1.1 hg.1.2
  have tq := t_tmr (n := K 46) hK.1
  have hS := hZY.1.1
  have hS2 := hS.2.2 hZY.2.1
  have e5 : Y x_forest_ 5 = K 46 - 1 := hS2.1
  have eF : F_tr (K 46 - 1) = t_tm (K 46) := by
    unfold F_tr t_tm
    by_cases q : K 46 = 0
    · rw [if_pos (by omega), if_pos q]
    · rw [if_neg (by omega), if_neg q]
  have e0 : Y x_forest_ 0 = t_tm (K 46) := by rw [hS.1.2.1, e5, eF]
  have hF : F_k (K 46 - 1) (F_tr (K 46 - 1)) (Y x_forest_deep_) (Y x_forest_above_) := by
    have z := hS.1.2.2
    rw [hS.1.2.1, e5] at z
    exact z
  have hmk : ∀ j, 0 ≤ j → j < 6 → Y x_will_marks_ j = K j := hWY.2.2.2.1
  have hle : ∀ j, 0 ≤ j → j < 6 → 0 ≤ Y x_will_marks_ j ∧ Y x_will_marks_ j ≤ 3 := fun j a b => by rw [hmk j a b]; exact hK.2.1 j a b
  have hgo : ∀ t, 0 ≤ t → t < t_tm (K 46) → ∀ p, 0 ≤ p → p < 6 → Y x_ledger_got_ (t * 6 + p) = G_K K t p := fun t a b p x y => Z_fg hZY ⟨a, b⟩ (hkn t a b) ⟨x, y⟩
  refine la_go_R hY 14 [101] ?_
  show cw_C _ _ [vr x_settler_, vi t0, vr x_forest_, vr x_ledger_, vr x_will_marks_] (Y) _
  refine Se_search (m := Y) hY (by omega) hle (by omega) (by omega) (fun (wr tr : Int → Int) (mo : Int) hsw hres => ⟨(ss_m_ok hY), ?_⟩)
  show cw_R _ _ 101 [vr x_, vi rd, vi w, vi t0, w4] [] (ss_m Y wr tr t0 mo x_forest_ x_will_marks_) _
  rw [e5] at hres
  rw [e0] at hsw
  have sA := s_AF (K := K) (by omega) hmk hF hsw hgo (by rw [ht0]; exact tt.1) hres
  rw [ht0] at sA
  have fr : ∀ c, c ∉ S_L → ss_m Y wr tr t0 mo x_forest_ x_will_marks_ c = Y c := fun c q => ss_m_ne (U_n q (by decide)) (U_n q (by decide)) (U_n q (by decide))
  refine C_settle101 hK (ss_m_ok hY) hg sA (fun r hr => h r _ hr (ss_m_ok hY) (S_LV fr) (Z_cP hZY.1 fr) (Or.inr ⟨?_, ?_⟩))
  · show 0 ≤ t0 ∧ t0 < _
    rw [ht0]; exact tt.1
  · show s_A K t0 mo tr
    rw [ht0]; exact sA
theorem C_settle51 {d : Nat} {m : cw_M} {Q : Option cw_V → cw_M → Prop} {K : Int → Int} {rd w t0 : Int} (hm : la_ok m) (hK : K_r K) (hW : W_r m K) (hZ : Z_f m K) (hg : (0 ≤ rd ∧ rd < ((R_K K).length : Int)) ∧ 0 ≤ w ∧ w ≤ K 46 - 1) (ht0 : t0 = (t_g (R_K K) rd)) (h : ∀ r M, s_R K rd w r → la_ok M → V_p m M → Z_c M K → E_s M K → Q (some (vi r)) M) : cw_R (d + 13) k_C_settle 51 [vr x_, vi rd, vi w, vi t0, vi 0] [] m Q := by
  have tb := r_ll (mk := K) hK.1
  have tq := t_tmr (n := K 46) hK.1
  have eF : F_tr (K 46 - 1) = t_tm (K 46) := by
    unfold F_tr t_tm
    by_cases q : K 46 = 0
    · rw [if_pos (by omega), if_pos q]
    · rw [if_neg (by omega), if_neg q]
  have lp : ∀ (r : Nat) (k : Int) (X : cw_M), t_tm (K 46) < k + r → (0 ≤ k ∧ k ≤ t_tm (K 46)) → (la_ok X) → (V_s m X) → (Z_f X K) → (∀ i, 0 ≤ i → i < k → X x_ledger_isKnown_ i ≠ 0) → cw_R (d + 13) k_C_settle 51 [vr x_, vi rd, vi w, vi t0, vi k] [] X Q := by
    intro r
    induction r with
    | zero =>
      intro k X hr hk hX hV hZX hkn
      omega
    | succ r ih =>
      intro k X hr hk hX hV hZX hkn
      have hWX := W_rV hW hV
      have hS := hZX.1.1
      have hS2 := hS.2.2 hZX.2.1
      have e0 : X x_forest_ 0 = t_tm (K 46) := by rw [hS.1.2.1, hS2.1, eF]
      refine la_go_R hX 14 [51, 78] ?_
      refine And.intro (fun (c21 : X x_forest_ 0 ≤ k) => ?_) (fun (c21 : ¬ (X x_forest_ 0 ≤ k)) => ?_)
      · show cw_R _ _ 78 [vr x_, vi rd, vi w, vi t0, vi k] [] (X) _
        exact C_settle78 hK hX hWX hZX hg ht0 (fun t a b => hkn t a (by omega)) (fun r M a b c d e => h r M a b (V_pt (V_sp hV) c) d e)
      · show cw_C _ _ [vr x_ledger_, vi k] (X) _
        refine Le_know hX hK hWX hZX (by omega) (fun (Y : cw_M) (hY : la_ok Y) (hVY : V_s X Y) (hZY : Z_f Y K) (hNY : N_s X Y) hkY => ⟨hY, ?_⟩)
        refine And.intro (show -2147483648 ≤ k + 1 ∧ k + 1 < 2147483648 by omega) ?_
        show cw_R _ _ 51 [vr x_, vi rd, vi w, vi t0, vi (k + 1)] [] (Y) _
        exact ih (k + 1) Y (by omega) (by omega) hY (V_st hV hVY) hZY (fun i a b => by
          by_cases q : i = k
          · rw [q]; exact hkY
          · exact hNY _ (hkn i a (by omega)))
  exact lp ((t_tm (K 46)).toNat + 1) 0 m (by omega) (by omega) hm V_sr hZ (fun i a b => by omega)
theorem C_settle {d : Nat} {m : cw_M} {Q : Option cw_V → cw_M → Prop} {K : Int → Int} (hm : la_ok m) (hT : ∀ j, 0 ≤ j → j < 7 → m cw_TREES j = t_c j) (hK : K_r K) (hW : W_r m K) (hZ : Z_c m K) {rd w : Int} (hE : E_s m K) (h : ∀ r M, s_R K rd w r → la_ok M → V_p m M → Z_c M K → E_s M K → Q (some (vi r)) M) : cw_C (d + 13) k_C_settle [vr x_, vi rd, vi w] m Q := by
  have rk := R_Kr hK
  have k46 := hK.1
  refine la_go_C hm 27 [51, 101] ?_
  show cw_C _ _ [vr x_] (m) _
  refine C_freshen hm hT hK hW hZ (fun (X : cw_M) (hX : la_ok X) (hV : V_s m X) (hZc : Z_c X K) (h18 : X x_ 18 = 0) (h19 : X x_ 19 = 0) => ⟨hX, ?_⟩)
  have hWX := W_rV hW hV
  have hZX : Z_f X K := ⟨hZc, h18, h19⟩
  have wn : X x_will_ 0 = K 46 := hWX.1
  show cw_C _ _ [vi rd, vi ((R_K K).length : Int)] (X) _
  refine C_isBelow (fun (a21 : 0 ≤ rd) (a22 : rd < ((R_K K).length : Int)) => ⟨hX, ?_⟩) (fun (a23 : ¬ (0 ≤ rd ∧ rd < ((R_K K).length : Int))) => ⟨hX, ?_⟩)
  · refine br_f (show ¬ ((1 : Int) = 0) by decide) ?_
    show cw_C _ _ [vi w, vi (X x_will_ 0)] (X) _
    refine C_isBelow (fun (a24 : 0 ≤ w) (a25 : w < X x_will_ 0) => ⟨hX, ?_⟩) (fun (a26 : ¬ (0 ≤ w ∧ w < X x_will_ 0)) => ⟨hX, ?_⟩)
    · refine br_t (show (1 : Int) ≠ 0 by decide) ?_
      refine And.intro (show 0 ≤ rd ∧ rd < 132 by omega) ?_
      refine And.intro (fun (c27 : X x_settler_ 0 = X x_forest_list_ rd) => ?_) (fun (c27 : ¬ (X x_settler_ 0 = X x_forest_list_ rd)) => ?_)
      · show cw_R _ _ 101 [vr x_, vi rd, vi w, vi (X x_forest_list_ rd), none] [] (X) _
        have hg : (0 ≤ rd ∧ rd < ((R_K K).length : Int)) ∧ 0 ≤ w ∧ w ≤ K 46 - 1 := by omega
        have hl := Z_fl hZX rd (by omega) (by omega)
        have tt := (R_Kr hK).2 rd (by omega) (by omega)
        have hE2 := (E_sV hE hV).resolve_left (by omega)
        rw [show X x_settler_ 0 = t_g (R_K K) rd by omega] at hE2
        exact C_settle101 hK hX hg hE2.2 (fun r hr => h r X hr hX (V_sp hV) hZc (E_sV hE hV))
      · show cw_R _ _ 51 [vr x_, vi rd, vi w, vi (X x_forest_list_ rd), vi 0] [] (X) _
        have hg : (0 ≤ rd ∧ rd < ((R_K K).length : Int)) ∧ 0 ≤ w ∧ w ≤ K 46 - 1 := by omega
        have hl := Z_fl hZX rd (by omega) (by omega)
        have tt := (R_Kr hK).2 rd (by omega) (by omega)
        exact C_settle51 hX hK hWX hZX hg hl (fun r M a b c d e => h r M a b (V_pt (V_sp hV) c) d e)
    · refine br_f (show ¬ ((0 : Int) ≠ 0) by decide) ?_
      show Q (some (vi (-1))) (X)
      refine h (-1) X ?_ hX (V_sp hV) hZc (E_sV hE hV)
      unfold s_R
      rw [if_neg (by omega)]
  · refine br_t (show (0 : Int) = 0 by decide) ?_
    show Q (some (vi (-1))) (X)
    refine h (-1) X ?_ hX (V_sp hV) hZc (E_sV hE hV)
    unfold s_R
    rw [if_neg (by omega)]
