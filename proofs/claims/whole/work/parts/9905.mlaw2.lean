/-! Laws, by the reference (wip/whole/tools/m105.py). -/
def U_C : List Int := [m_low_, m_high_, m_marks_, m_treeOf_, m_asked_, m_would_, m_got_, m_bestMarks_, m_givesSo_, m_parts_, m_code_, m_value_, m_placed_, m_five_, m_aside_, m_leftAhead_, m_sums_]
def U_F : List Int := [8, 9, 10, 18, 19, 20, 21, 22, 23, 24, 25, 27, 28, 32, 35, 38, 46, 47, 48, 49, 50, 54]
/-- the same but for what is laid on paper -/
def U_s (m M : cw_M) : Prop := (∀ c, c ∉ U_C → c ≠ m_ → M c = m c) ∧ ∀ j, j ∉ U_F → M m_ j = m m_ j
theorem U_sr {m : cw_M} : U_s m m := ⟨fun _ _ _ => rfl, fun _ _ => rfl⟩
theorem U_st {m m1 m2 : cw_M} (h : U_s m m1) (h2 : U_s m1 m2) : U_s m m2 := ⟨fun c a b => by rw [h2.1 c a b, h.1 c a b], fun j a => by rw [h2.2 j a, h.2 j a]⟩
theorem U_n {l : List Int} {a c : Int} (h : c ∉ l) (ha : a ∈ l) : c ≠ a := fun q => h (by rw [q]; exact ha)
theorem U_sS {m M : cw_M} (h : S_f m M) : U_s m M := ⟨fun c a b => h.1 c (U_n a (by decide)) (U_n a (by decide)) (U_n a (by decide)) (U_n a (by decide)) (U_n a (by decide)) (U_n a (by decide)) (U_n a (by decide)) (U_n a (by decide)) (U_n a (by decide)) (U_n a (by decide)) b, fun j a => h.2 j (U_n a (by decide)) (U_n a (by decide)) (U_n a (by decide)) (U_n a (by decide)) (U_n a (by decide)) (U_n a (by decide)) (U_n a (by decide))⟩
theorem U_sp {m M : cw_M} {c i v : Int} (h : U_s m M) : U_s (cw_put m c i v) (cw_put M c i v) := by
  refine ⟨fun b x y => ?_, fun j x => ?_⟩
  · by_cases e : b = c
    · rw [e, cw_put_r, cw_put_r, ← e, h.1 b x y]
    · rw [cw_put_ne e, cw_put_ne e, h.1 b x y]
  · by_cases e : m_ = c
    · rw [← e, cw_put_r, cw_put_r]
      by_cases e2 : j = i
      · rw [e2, cw_up_eq, cw_up_eq]
      · rw [cw_up_ne e2, cw_up_ne e2, h.2 j x]
    · rw [cw_put_ne e, cw_put_ne e, h.2 j x]
theorem U_sk {m M : cw_M} {K : Int → Int} (h : U_s m M) : U_s (kr_m m K) (kr_m M K) := by
  refine ⟨fun b x y => ?_, fun j x => ?_⟩
  · unfold kr_m
    by_cases e : b = m_kept_
    · rw [e, cw_row_eq, cw_row_eq]
    · rw [cw_row_ne e, cw_row_ne e, h.1 b x y]
  · unfold kr_m
    rw [cw_row_ne (by decide), cw_row_ne (by decide), h.2 j x]
theorem U_sg {m M : cw_M} (h : U_s m M) : U_s (gd_m m) (gd_m M) := U_sp h
theorem U_sc {m M : cw_M} (h : U_s m M) {c : Int} (hc : c ∉ U_C) (hn : c ≠ m_) : M c = m c := h.1 c hc hn
theorem U_sf {m M : cw_M} {k : Int} (h : U_s m M) : U_s (rf_m m k) (rf_m M k) := by
  unfold rf_m
  rw [h.1 m_refused_ (by decide) (by decide)]
  exact U_sp (U_sp h)
/-- behind a text that was read -/
def rd_m (m : cw_M) (fa : Int) : cw_M := cw_put (cw_put m m_ 13 0) m_ 14 fa
theorem U_sR {m M : cw_M} {cd vl : Int → Int} {tk fa : Int} (h : R_p m M cd vl tk fa) : U_s (rd_m m fa) M := by
  obtain ⟨h1, h2, h3, h4, h5, h6, h7⟩ := h
  refine ⟨fun c a b => ?_, fun j a => ?_⟩
  · unfold rd_m
    rw [cw_put_ne b, cw_put_ne b]
    exact h1 c b (U_n a (by decide)) (U_n a (by decide)) (U_n a (by decide))
  · unfold rd_m
    by_cases e : j = 14
    · rw [e, cw_put_eq, h4]
    rw [cw_put_off e]
    by_cases e2 : j = 13
    · rw [e2, cw_put_eq, h3]
    rw [cw_put_off e2]
    exact h2 j (U_n a (by decide)) (U_n a (by decide)) (U_n a (by decide)) e2 e (U_n a (by decide)) (U_n a (by decide)) (U_n a (by decide)) (U_n a (by decide))
def k_law (K : Int → Int) (tk : Int) (cd vl : Int → Int) : Int → Int := cw_up (k_lay K (K 49) tk cd vl tk) 49 (K 49 + 1)
theorem k_lay49 {K : Int → Int} {t tk k i : Int} {cd vl : Int → Int} (h : i < 51) (ht : 0 ≤ t) : k_lay K t tk cd vl k i = K i := by
  unfold k_lay; rw [if_neg (by omega), if_neg (by omega), if_neg (by omega)]
theorem M_law {d : Nat} {m : cw_M} {Q : Option cw_V → cw_M → Prop} (hm : la_ok m) (hr : r_fb m) (htab : k_tab (m m_words_) 0 k_WL) (h49 : 0 ≤ m m_kept_ 49 ∧ m m_kept_ 49 ≤ 6) {b : Int → Int} (hn : 0 ≤ m m_ 13 ∧ m m_ 13 ≤ 400) (hb : ∀ i, 0 ≤ i → i < m m_ 13 → (0 ≤ b i ∧ b i ≤ 255) ∧ m m_tape_ i = cw_i2b (b i)) (h5 : m m_kept_ 49 = 6 → Q (some (vi (-5))) (rf_m (cw_put m m_ 13 0) (-5))) (her : ∀ tk e, m m_kept_ 49 < 6 → K_n b (m m_ 13) tk → p_all (k_C b (m m_ 13)) (k_V b (m m_ 13)) false tk = .error e → ∀ M, la_ok M → U_s (rf_m (rd_m m (k_P b (m m_ 13) e)) (-6)) M → Q (some (vi (-6))) M) (hok : ∀ tk cd vl Ks, m m_kept_ 49 < 6 → K_n b (m m_ 13) tk → (∀ i, 0 ≤ i → i ≤ tk → cd i = k_C b (m m_ 13) i ∧ vl i = k_V b (m m_ 13) i) → p_all (k_C b (m m_ 13)) (k_V b (m m_ 13)) false tk = .ok Ks → ∀ M, la_ok M → U_s (gd_m (kr_m (rd_m m (-1)) (k_law (m m_kept_) tk cd vl))) M → Q (some (vi (m m_kept_ 49))) M) : cw_C (d + 50) k_M_law [vr m_] m Q := by
  refine la_go_C hm 36 [] ?_
  refine And.intro (show 0 ≤ 49 ∧ 49 < 5658 by omega) ?_
  refine And.intro (fun (c21 : m m_kept_ 49 ≠ 6) => ?_) (fun (c21 : ¬ (m m_kept_ 49 ≠ 6)) => ?_)
  · show cw_C _ _ [vr m_, vi 0] (m) _
    refine M_readsAs0 hm htab hn hb (fun (M : cw_M) (cd vl : Int → Int) (tk : Int) (Ks : List p_K) (hM : la_ok M) (hR : R_p m M cd vl tk (-1)) (hK2 : K_n b (m m_ 13) tk) (hcv : ∀ i, 0 ≤ i → i ≤ tk → cd i = k_C b (m m_ 13) i ∧ vl i = k_V b (m m_ 13) i) (hp : p_all (k_C b (m m_ 13)) (k_V b (m m_ 13)) false tk = .ok Ks) => ⟨hM, ?_⟩) (fun (M : cw_M) (cd vl : Int → Int) (tk e : Int) (hM : la_ok M) (hR : R_p m M cd vl tk (k_P b (m m_ 13) e)) (hK2 : K_n b (m m_ 13) tk) (hp : p_all (k_C b (m m_ 13)) (k_V b (m m_ 13)) false tk = .error e) => ⟨hM, ?_⟩)
    · have ek : M m_kept_ = m m_kept_ := (U_sR hR).1 _ (by decide) (by decide)
      have e49 : M m_kept_ 49 = m m_kept_ 49 := by rw [ek]
      have e18 : M m_ 18 = tk := hR.2.2.2.2.1
      have tk4 : 0 ≤ tk ∧ tk ≤ 400 := by have := hK2.1; omega
      refine br_t (show (1 : Int) ≠ 0 by decide) ?_
      refine And.intro (show 0 ≤ 49 ∧ 49 < 5658 by omega) ?_
      show cw_C _ _ [vr m_, vi (M m_kept_ 49)] (M) _
      refine M_lays hM (by omega) (by omega) ⟨(kr_ok hM), ?_⟩
      have kl : k_lay (M m_kept_) (M m_kept_ 49) (M m_ 18) (M m_code_) (M m_value_) (M m_ 18) 49 = m m_kept_ 49 := by rw [k_lay49 (by decide) (by omega)]; exact e49
      refine And.intro (show 0 ≤ 49 ∧ 49 < 5658 by omega) ?_
      refine And.intro (show -2147483648 ≤ ((k_lay (M m_kept_) (M m_kept_ 49) (M m_ 18) (M m_code_) (M m_value_) (M m_ 18)) 49) + 1 ∧ ((k_lay (M m_kept_) (M m_kept_ 49) (M m_ 18) (M m_code_) (M m_value_) (M m_ 18)) 49) + 1 < 2147483648 by omega) ?_
      refine And.intro (show 0 ≤ 49 ∧ 49 < 5658 by omega) ?_
      have hm22 : la_ok (cw_put (kr_m M (k_lay (M m_kept_) (M m_kept_ 49) (M m_ 18) (M m_code_) (M m_value_) (M m_ 18))) m_kept_ 49 (((k_lay (M m_kept_) (M m_kept_ 49) (M m_ 18) (M m_code_) (M m_value_) (M m_ 18)) 49) + 1)) := la_put (kr_ok hM) (by decide) (Or.inr (by decide))
      refine And.intro (show 0 ≤ 49 ∧ 49 < 5658 by omega) ?_
      refine And.intro (show -2147483648 ≤ (((k_lay (M m_kept_) (M m_kept_ 49) (M m_ 18) (M m_code_) (M m_value_) (M m_ 18)) 49) + 1) - 1 ∧ (((k_lay (M m_kept_) (M m_kept_ 49) (M m_ 18) (M m_code_) (M m_value_) (M m_ 18)) 49) + 1) - 1 < 2147483648 by omega) ?_
      show cw_C _ _ [vr m_, vi ((((k_lay (M m_kept_) (M m_kept_ 49) (M m_ 18) (M m_code_) (M m_value_) (M m_ 18)) 49) + 1) - 1)] (cw_put (kr_m M (k_lay (M m_kept_) (M m_kept_ 49) (M m_ 18) (M m_code_) (M m_value_) (M m_ 18))) m_kept_ 49 (((k_lay (M m_kept_) (M m_kept_ 49) (M m_ 18) (M m_code_) (M m_value_) (M m_ 18)) 49) + 1)) _
      refine M_good hm22 ⟨(gd_ok hm22), ?_⟩
      show Q (some (vi ((((k_lay (M m_kept_) (M m_kept_ 49) (M m_ 18) (M m_code_) (M m_value_) (M m_ 18)) 49) + 1) - 1))) (gd_m (cw_put (kr_m M (k_lay (M m_kept_) (M m_kept_ 49) (M m_ 18) (M m_code_) (M m_value_) (M m_ 18))) m_kept_ 49 (((k_lay (M m_kept_) (M m_kept_ 49) (M m_ 18) (M m_code_) (M m_value_) (M m_ 18)) 49) + 1)))
      rw [kr_p2]
      have eK : cw_up (k_lay (M m_kept_) (M m_kept_ 49) (M m_ 18) (M m_code_) (M m_value_) (M m_ 18)) 49 (k_lay (M m_kept_) (M m_kept_ 49) (M m_ 18) (M m_code_) (M m_value_) (M m_ 18) 49 + 1) = k_law (m m_kept_) tk cd vl := by
        rw [kl]
        unfold k_law
        rw [ek, e18, hR.2.2.2.2.2.1, hR.2.2.2.2.2.2]
      rw [eK]
      rw [show (((k_lay (M m_kept_) (M m_kept_ 49) (M m_ 18) (M m_code_) (M m_value_) (M m_ 18)) 49) + 1) - 1 = m m_kept_ 49 by rw [kl]; omega]
      exact hok tk cd vl Ks (by omega) hK2 hcv hp _ (gd_ok (kr_ok hM)) (U_sg (U_sk (U_sR hR)))
    · refine br_f (show ¬ ((0 : Int) ≠ 0) by decide) ?_
      show cw_C _ _ [vr m_, vi (-6)] (M) _
      refine M_refuses hM (by decide) (by rw [(U_sR hR).1 m_refused_ (by decide) (by decide)]; exact hr 6 (by decide) (by decide)) ⟨(rf_ok hM), ?_⟩
      show Q (some (vi (-6))) (rf_m M (-6))
      exact her tk e (by omega) hK2 hp _ (rf_ok hM) (U_sf (U_sR hR))
  · have hm23 : la_ok (cw_put m m_ 13 0) := la_put hm (by decide) (Or.inl rfl)
    show cw_C _ _ [vr m_, vi (-5)] (cw_put m m_ 13 0) _
    refine M_refuses hm23 (by decide) (hr 5 (by decide) (by decide)) ⟨(rf_ok hm23), ?_⟩
    show Q (some (vi (-5))) (rf_m (cw_put m m_ 13 0) (-5))
    exact h5 (by omega)
