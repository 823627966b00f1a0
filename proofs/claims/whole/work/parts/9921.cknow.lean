/-! What the ledger knows, by the class (wip/whole/tools/m121.py). -/
/-- the caches stand as all does -/
def Z_f (m : cw_M) (K : Int → Int) : Prop := Z_c m K ∧ m x_ 18 = 0 ∧ m x_ 19 = 0
/-- more is known -/
def N_s (m M : cw_M) : Prop := ∀ t, m x_ledger_isKnown_ t ≠ 0 → M x_ledger_isKnown_ t ≠ 0
theorem N_sr {m : cw_M} : N_s m m := fun _ h => h
theorem N_st {m m1 m2 : cw_M} (h : N_s m m1) (h2 : N_s m1 m2) : N_s m m2 := fun t q => h2 t (h t q)
theorem F_pl {w t : Int} {de ab : Int → Int} (h : F_ok w (F_tr w) de ab) (hw : 0 ≤ w) (ht : 0 ≤ t ∧ t < t_c w) : t_pl (fun q => q.2.2.1) de (t * 6) 6 0 w t 0 (-1) := fun x a b => by
  have e : F_tr w = t_c w := by unfold F_tr; rw [if_neg (by omega)]
  have k := h.2.2.1 t x ht.1 (by rw [e]; exact ht.2) a (by omega)
  rw [show t * 6 + x = 6 * t + x by omega]
  exact k
theorem Pa_divK {d : Nat} {m : cw_M} {Q : Option cw_V → cw_M → Prop} {K : Int → Int} {t : Int} (hm : la_ok m) (hK : K_r K) (hW : W_r m K) (hZ : Z_f m K) (ht : 0 ≤ t ∧ t < t_tm (K 46)) (hQ : ∀ wd' ws' sk', c_w ws' (c_0 (K 18) (K 44)) → (∀ p, 0 ≤ p → p < 6 → wd' p = G_K K t p) → Q none (u2_m (cw_put m x_ledger_paper_ 8 (t * 6)) wd' ws' sk' x_forest_ x_will_)) : cw_C (d + 11) k_Pa_divide [vr x_ledger_paper_, vi t] m Q := by
  have hL := hZ.1.2.2.2 hZ.2.2
  have k46 := hK.1
  have hn1 : 1 ≤ K 46 := by
    by_cases q : K 46 = 0
    · unfold t_tm at ht; rw [if_pos q] at ht; omega
    · omega
  have htc : t < t_c (K 46 - 1) := by have := ht.2; unfold t_tm at this; rw [if_neg (by omega)] at this; exact this
  have tb := (r_ll (mk := K) hK.1).2
  have hnm : m x_will_ 0 = K 46 := hW.1
  have how : ∀ i, 0 ≤ i → i < 7 → m x_will_owner_ i = K (19 + i) := hW.2.1
  have hkd := hW.2.2.1
  have ht1 : m x_will_terms_ 1 = K 43 := hW.2.2.2.2.2.1.2.1
  have k43 := hK.2.2.2.2.2.2.1
  have k18 := hK.2.2.2.2.1
  have k44 := hK.2.2.2.2.2.2.2.1
  have hS := hZ.1.1
  have hS2 := hS.2.2 hZ.2.1
  have hFo := hS.1
  rw [hFo.2.1, hS2.1] at hFo
  have e := u2_m_self (m := m)
  rw [hL.1.1.1, hL.1.1.2] at e
  refine la_go_C0 e.symm ?_
  refine Pa_divide2 (Ks := l_fo K (K 50)) (w0 := m x_ledger_paper_sums_words_) hm hL.2.1 (c_0b hL.2.2.1 (by omega) (by omega)) (fun i a b => by rw [how i a b]; exact hK.2.2.2.2.2.1 i a b) (by omega) (fun _ _ => rfl) (by omega) (by rw [hnm]; exact htc) (by rw [hnm]; exact F_pl hFo (by omega) ⟨ht.1, htc⟩) (by omega) (fun wd' ws' sk' hc hp => ?_)
  refine hQ wd' ws' sk' (c_wt hc hL.2.2.1) (fun p a b => ?_)
  rw [hp p a b, hnm, ht1]
  rw [c_DE hL.2.2.1 (by omega) how hkd ⟨ht.1, htc⟩ ⟨a, b⟩, hL.2.2.2.1]
  rfl
theorem Le_know {d : Nat} {m : cw_M} {Q : Option cw_V → cw_M → Prop} {K : Int → Int} {t : Int} (hm : la_ok m) (hK : K_r K) (hW : W_r m K) (hZ : Z_f m K) (ht : 0 ≤ t ∧ t < t_tm (K 46)) (h : ∀ M, la_ok M → V_s m M → Z_f M K → N_s m M → M x_ledger_isKnown_ t ≠ 0 → Q none M) : cw_C (d + 12) k_Le_know [vr x_ledger_, vi t] m Q := by
  have tb := (r_ll (mk := K) hK.1).2
  refine la_go_C hm 29 [] ?_
  refine And.intro (show 0 ≤ t ∧ t < 132 by omega) ?_
  refine And.intro (fun (c21 : m x_ledger_isKnown_ t ≠ 0) => ?_) (fun (c21 : ¬ (m x_ledger_isKnown_ t ≠ 0)) => ?_)
  · show Q none (m)
    exact h m hm V_sr hZ N_sr (by omega)
  · show cw_C _ _ [vr x_ledger_paper_, vi t] (m) _
    refine Pa_divK hm hK hW hZ ht (fun (wd2 ws2 sk2 : Int → Int) (hcw : c_w ws2 (c_0 (K 18) (K 44))) (hwd : ∀ p, 0 ≤ p → p < 6 → wd2 p = G_K K t p) => ⟨(u2_m_ok (la_put hm (by decide) (Or.inl rfl))), ?_⟩)
    refine And.intro (show -2147483648 ≤ t * 6 ∧ t * 6 < 2147483648 by omega) ?_
    refine And.intro (show (0 ≤ 0 ∧ 0 ≤ t * 6 ∧ 0 ≤ 6) ∧ 0 + 6 ≤ 6 ∧ t * 6 + 6 ≤ 792 by omega) ?_
    have hm22 : la_ok (cw_cpy (u2_m (cw_put m x_ledger_paper_ 8 (t * 6)) wd2 ws2 sk2 x_forest_ x_will_) x_ledger_paper_would_ 0 x_ledger_got_ (t * 6) 6) := la_cpy (u2_m_ok (la_put hm (by decide) (Or.inl rfl))) rfl
    refine And.intro ⟨Or.inr rfl, show 0 ≤ t ∧ t < 132 by omega⟩ ?_
    have hm23 : la_ok (cw_put (cw_cpy (u2_m (cw_put m x_ledger_paper_ 8 (t * 6)) wd2 ws2 sk2 x_forest_ x_will_) x_ledger_paper_would_ 0 x_ledger_got_ (t * 6) 6) x_ledger_isKnown_ t 1) := la_put hm22 (by decide) (Or.inr (by decide))
    show Q none (cw_put (cw_cpy (u2_m (cw_put m x_ledger_paper_ 8 (t * 6)) wd2 ws2 sk2 x_forest_ x_will_) x_ledger_paper_would_ 0 x_ledger_got_ (t * 6) 6) x_ledger_isKnown_ t 1)
    generalize eX : u2_m (cw_put m x_ledger_paper_ 8 (t * 6)) wd2 ws2 sk2 x_forest_ x_will_ = X at *
    have hL := hZ.1.2.2.2 hZ.2.2
    have xc : ∀ c, c ∉ [x_ledger_paper_, x_ledger_paper_would_, x_ledger_paper_sums_words_, x_ledger_paper_sums_stack_] → X c = m c := fun c a => by rw [← eX, u2_m_ne (U_n a (by decide)) (U_n a (by decide)) (U_n a (by decide)) (U_n a (by decide)), cw_put_ne (U_n a (by decide))]
    generalize eM : cw_put (cw_cpy (X) x_ledger_paper_would_ 0 x_ledger_got_ (t * 6) 6) x_ledger_isKnown_ t 1 = M
    have hM : la_ok M := by rw [← eM]; exact hm23
    have mc : ∀ c, c ∉ [x_ledger_got_, x_ledger_isKnown_] → M c = X c := fun c a => by rw [← eM, cw_put_ne (U_n a (by decide)), cw_cpy_ne (U_n a (by decide))]
    have mi : ∀ j, M x_ledger_isKnown_ j = if j = t then 1 else m x_ledger_isKnown_ j := fun j => by
      rw [← eM]
      by_cases q : j = t
      · rw [if_pos q, q, cw_put_eq]
      · rw [if_neg q, cw_put_off q, cw_cpy_ne (by decide), xc _ (by decide)]
    have mg : ∀ j, M x_ledger_got_ j = if t * 6 ≤ j ∧ j < t * 6 + 6 then wd2 (j - t * 6) else m x_ledger_got_ j := fun j => by
      rw [← eM, cw_put_ne (by decide), cw_cpy_row, cw_row_eq]
      show (if t * 6 ≤ j ∧ j < t * 6 + 6 then X x_ledger_paper_would_ (0 + (j - t * 6)) else X x_ledger_got_ j) = _
      rw [Int.zero_add, xc x_ledger_got_ (by decide)]
      have ew : X x_ledger_paper_would_ = wd2 := by rw [← eX]; rfl
      rw [ew]
    have m1 : ∀ c, c ∉ X_C → M c = m c := fun c a => by
      rw [mc c (fun q => a ((show ∀ x ∈ [x_ledger_got_, x_ledger_isKnown_], x ∈ X_C by decide) c q)), xc c (fun q => a ((show ∀ x ∈ [x_ledger_paper_, x_ledger_paper_would_, x_ledger_paper_sums_words_, x_ledger_paper_sums_stack_], x ∈ X_C by decide) c q))]
    have ex : M x_ = m x_ := m1 x_ (by decide)
    have f1 : ∀ c, c ∈ [x_forest_, x_forest_deep_, x_forest_above_, x_forest_list_, x_paper_sums_words_] → M c = m c := fun c a => by
      have b : c ∉ [x_ledger_got_, x_ledger_isKnown_] ∧ c ∉ [x_ledger_paper_, x_ledger_paper_would_, x_ledger_paper_sums_words_, x_ledger_paper_sums_stack_] := (show ∀ x ∈ [x_forest_, x_forest_deep_, x_forest_above_, x_forest_list_, x_paper_sums_words_], x ∉ [x_ledger_got_, x_ledger_isKnown_] ∧ x ∉ [x_ledger_paper_, x_ledger_paper_would_, x_ledger_paper_sums_words_, x_ledger_paper_sums_stack_] by decide) c a
      rw [mc c b.1, xc c b.2]
    have ewd : M x_ledger_paper_sums_words_ = ws2 := by rw [mc _ (by decide), ← eX]; rfl
    have elp : ∀ j, j ≠ 5 → j ≠ 6 → j ≠ 8 → M x_ledger_paper_ j = m x_ledger_paper_ j := fun j a b e => by rw [mc _ (by decide), ← eX, u2_m_ox_ledger_paper_ a b, cw_put_off e]
    have hVM : V_s m M := ⟨fun c a _ => m1 c a, fun j _ _ => by rw [ex]⟩
    refine h M hM hVM ⟨⟨S_ce hZ.1.1 (f1 _ (by decide)) (f1 _ (by decide)) (f1 _ (by decide)) (f1 _ (by decide)) (by rw [ex]), fun i q => ⟨?_, ?_⟩, ?_, fun _ => ⟨⟨⟨?_, ?_⟩, ?_⟩, ?_, ?_, ?_, ?_, fun t1 a b q p p0 p1 => ?_⟩⟩, ?_, ?_⟩ (fun t1 q => ?_) (by rw [mi, if_pos rfl]; decide)
    · rw [ewd]; exact c_00 hcw i q
    · rw [f1 _ (by decide)]; exact (hZ.1.2.1 i q).2
    · rw [ex]; exact hZ.1.2.2.1
    · rw [mc _ (by decide), ← eX]; rfl
    · rw [mc _ (by decide), ← eX]; rfl
    · rw [elp 7 (by decide) (by decide) (by decide), m1 _ (by decide)]; exact hL.1.2
    · rw [elp 7 (by decide) (by decide) (by decide)]; exact T_oe hL.2.1 (V_h (V_sp hVM))
    · rw [ewd]; exact hcw
    · rw [elp 3 (by decide) (by decide) (by decide)]; exact hL.2.2.2.1
    · rw [elp 2 (by decide) (by decide) (by decide)]; exact hL.2.2.2.2.1
    · rw [mg]
      by_cases z : t1 = t
      · rw [z, if_pos (by omega), show t * 6 + p - t * 6 = p by omega]; exact hwd p p0 p1
      · rw [if_neg (by omega)]; rw [mi, if_neg z] at q; exact hL.2.2.2.2.2 t1 a b q p p0 p1
    · rw [ex]; exact hZ.2.1
    · rw [ex]; exact hZ.2.2
    · rw [mi]; split
      · decide
      · exact q
