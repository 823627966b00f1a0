/-! Few slips, by the class (wip/whole/tools/m140.py). -/
def P_L : List Int := [x_fitting_, x_chances_, x_paper_, x_paper_would_, x_paper_first_, x_paper_sums_words_, x_paper_sums_stack_]
theorem P_LV {m M : cw_M} (hM : ∀ c, c ∉ P_L → M c = m c) : V_s m M := ⟨fun c a _ => hM c (fun q => a ((show ∀ x ∈ P_L, x ∈ X_C by decide) c q)), fun j _ _ => by rw [hM x_ (by decide)]⟩
theorem Z_ce {m M : cw_M} {K : Int → Int} (h : Z_c m K) (hM : ∀ c, c ∉ P_L → M c = m c) (hw : ∀ i, (i < 0 ∨ 7 < i) → M x_paper_sums_words_ i = 0) : Z_c M K := by
  have ex := hM x_ (by decide)
  refine ⟨S_ce h.1 (hM _ (by decide)) (hM _ (by decide)) (hM _ (by decide)) (hM _ (by decide)) (by rw [ex]), fun i q => ⟨?_, hw i q⟩, ?_, fun q => ?_⟩
  · rw [hM _ (by decide)]; exact (h.2.1 i q).1
  · rw [ex]; exact h.2.2.1
  · rw [ex] at q
    exact L_ce (h.2.2.2 q) (hM _ (by decide)) (hM _ (by decide)) (hM _ (by decide)) (hM _ (by decide)) (V_h (V_sp (P_LV hM))) (hM _ (by decide))
def wx_m (m : cw_M) (ch : Int → Int) : cw_M := fun c => if c = x_chances_ then ch else m c
theorem wx_m_ne {m : cw_M} {ch : Int → Int} {c : Int} (h0 : c ≠ x_chances_) : wx_m m ch c = m c := by
  unfold wx_m; rw [if_neg h0]
theorem wx_m_ch {m : cw_M} {ch : Int → Int} : wx_m m ch x_chances_ = ch := rfl
theorem wx_m_ok {m : cw_M} {ch : Int → Int} (hm : la_ok m) : la_ok (wx_m m ch) := by
  refine ⟨by rw [wx_m_ne (by decide)]; exact hm.1, fun e he => ?_⟩
  obtain ⟨z1, h2, -, z4⟩ := la_lok e he
  have n0 : e.1 ≠ x_chances_ := fun q => by rw [q] at h2; revert h2; decide
  rw [wx_m_ne n0 ]; exact hm.2 e he
theorem wx_m_x {m M : cw_M} {ch : Int → Int} (r0 : M x_chances_ = ch)   (h : ∀ c, c ≠ x_chances_ → M c = m c) : M = wx_m m ch := by
  funext c
  by_cases h0 : c = x_chances_
  · rw [h0, r0]; rfl
  rw [h c h0, wx_m_ne h0]
theorem wx_m_rch {m : cw_M} {ch : Int → Int} {f : Int → Int} : cw_row (wx_m m ch) x_chances_ f = wx_m m f := by
  refine wx_m_x rfl  (fun c h0 => by rw [cw_row_ne h0, wx_m_ne h0])
theorem wx_m_pch {m : cw_M} {ch : Int → Int} {i v : Int} : cw_put (wx_m m ch) x_chances_ i v = wx_m m (cw_up ch i v) := by
  rw [cw_put_row, wx_m_rch, wx_m_ch]
theorem wx_m_2 {m : cw_M} {ch : Int → Int} {ch' : Int → Int} : wx_m (wx_m m ch) ch' = wx_m m ch' := by
  refine wx_m_x rfl  (fun c h0 => by rw [wx_m_ne h0, wx_m_ne h0])
theorem wx_m_self {m : cw_M} : wx_m m (m x_chances_)  = m := by
  refine (wx_m_x rfl  (fun _ _ => rfl)).symm
theorem C_few158 {d : Nat} {m : cw_M} {Q : Option cw_V → cw_M → Prop} (hm0 : la_ok m) {c W : Int → Int} {k n s : Int} (hk : 1 ≤ k ∧ k ≤ 20) (hWr : ∀ i, 0 ≤ W i ∧ W i ≤ 1000000000000) (hcW : ∀ i, 0 ≤ i → i < k → c i = W i) (hQ : Q (some (vl (w_s W k.toNat))) (wx_m m c)) : cw_R d k_C_few 158 [vr x_, vi k, vi n, vi s, vl 0, none, vi 0, none] [] (wx_m m c) Q := by
  have hm2 : la_ok (wx_m m c) := wx_m_ok hm0
  have lp : ∀ (r : Nat) (i : Int), k < i + r → (0 ≤ i ∧ i ≤ k) → cw_R (d) k_C_few 158 [vr x_, vi k, vi n, vi s, vl (w_s W i.toNat), none, vi i, none] [] (wx_m m c) Q := by
    intro r
    induction r with
    | zero =>
      intro i hr hi
      omega
    | succ r ih =>
      intro i hr hi
      have sr := w_sr hWr i.toNat
      have cv := hWr i
      have cw := hcW i hi.1
      refine la_go_R hm2 15 [158] ?_
      refine And.intro (fun (c21 : k ≤ i) => ?_) (fun (c21 : ¬ (k ≤ i)) => ?_)
      · show Q (some (vl (w_s W i.toNat))) (wx_m m c)
        rw [show i.toNat = k.toNat by omega]
        exact hQ
      · refine And.intro (show 0 ≤ i ∧ i < 20 by omega) ?_
        refine And.intro (show -9223372036854775808 ≤ (w_s W i.toNat) + (c i) ∧ (w_s W i.toNat) + (c i) < 9223372036854775808 by have e := cw (by omega); omega) ?_
        refine And.intro (show -2147483648 ≤ i + 1 ∧ i + 1 < 2147483648 by omega) ?_
        show cw_R _ _ 158 [vr x_, vi k, vi n, vi s, vl ((w_s W i.toNat) + (c i)), none, vi (i + 1), none] [] (wx_m m c) _
        rw [w_s1 hi.1 (hcW i hi.1 (by omega))]
        exact ih (i + 1) (by omega) (by omega)
  exact lp (k.toNat + 1) 0 (by omega) (by omega)
theorem C_few81 {d : Nat} {m : cw_M} {Q : Option cw_V → cw_M → Prop} (hm0 : la_ok m) {c W : Int → Int} {k n s q : Int} {w6 : cw_V} (hs : 0 ≤ s ∧ s ≤ 10) (hk : 1 ≤ k ∧ k ≤ 20) (hq : 0 ≤ q ∧ q < 99) (hWr : ∀ i, 0 ≤ W i ∧ W i ≤ 1000000000000) (hcW : ∀ i, 0 ≤ i → i < k → c i = W i) (fin : ∀ (c2 : Int → Int) (w6 : cw_V), (∀ i, 0 ≤ i → i < k → c2 i = w_1 s W i) → cw_R d k_C_few 70 [vr x_, vi k, vi n, vi s, vi (q + 1), vi (-1), w6, none] [] (wx_m m c2) Q) : cw_R d k_C_few 81 [vr x_, vi k, vi n, vi s, vi q, vi (k - 1), w6, none] [] (wx_m m c) Q := by
  have lp : ∀ (r : Nat) (i : Int) (c : Int → Int) (w6 : cw_V), i + 1 < r → (-1 ≤ i ∧ i < k) → ((∀ z, 0 ≤ z → z ≤ i → c z = W z) ∧ ∀ z, i < z → z < k → c z = w_1 s W z) → cw_R (d) k_C_few 81 [vr x_, vi k, vi n, vi s, vi q, vi i, w6, none] [] (wx_m m c) Q := by
    intro r
    induction r with
    | zero =>
      intro i c w6 hr hi hv
      omega
    | succ r ih =>
      intro i c w6 hr hi hv
      have hm2 : la_ok (wx_m m c) := wx_m_ok hm0
      have cI : 0 ≤ i → c i = W i := fun z => hv.1 i z (Int.le_refl _)
      have cJ : 0 < i → c (i - 1) = W (i - 1) := fun z => hv.1 (i - 1) (by omega) (by omega)
      have mi := w_mu (s := s) (c := W i) hs (hWr i)
      have mj := w_mu (s := s) (c := W (i - 1)) hs (hWr (i - 1))
      have tI : 0 ≤ i → Int.tdiv (c i * (10 - s)) 10 = W i * (10 - s) / 10 := fun z => by rw [cI z, t_10 (by omega)]
      have tJ : 0 < i → Int.tdiv (c (i - 1) * s) 10 = W (i - 1) * s / 10 := fun z => by rw [cJ z, t_10 (by omega)]
      refine la_go_R hm2 39 [70, 81] ?_
      refine And.intro (fun (c21 : i < 0) => ?_) (fun (c21 : ¬ (i < 0)) => ?_)
      · refine And.intro (show -2147483648 ≤ q + 1 ∧ q + 1 < 2147483648 by omega) ?_
        show cw_R _ _ 70 [vr x_, vi k, vi n, vi s, vi (q + 1), vi i, w6, none] [] (wx_m m c) _
        rw [show i = (-1 : Int) by omega]
        exact fin c w6 (fun z z0 z1 => hv.2 z (by omega) z1)
      · refine And.intro (fun (c22 : i ≤ 0) => ?_) (fun (c22 : ¬ (i ≤ 0)) => ?_)
        · refine And.intro (show 0 ≤ i ∧ i < 20 by omega) ?_
          refine And.intro (show -2147483648 ≤ 10 - s ∧ 10 - s < 2147483648 by omega) ?_
          refine And.intro (show -9223372036854775808 ≤ (c i) * (10 - s) ∧ (c i) * (10 - s) < 9223372036854775808 by rw [cI (by omega)]; omega) ?_
          refine And.intro (show (10 : Int) ≠ 0 ∧ -9223372036854775808 ≤ Int.tdiv ((c i) * (10 - s)) 10 ∧ Int.tdiv ((c i) * (10 - s)) 10 < 9223372036854775808 by rw [tI (by omega)]; omega) ?_
          refine And.intro (show -9223372036854775808 ≤ (Int.tdiv ((c i) * (10 - s)) 10) + 0 ∧ (Int.tdiv ((c i) * (10 - s)) 10) + 0 < 9223372036854775808 by first | (rw [tI (by omega), tJ (by omega)]; omega) | (rw [tI (by omega)]; omega)) ?_
          refine And.intro (show 0 ≤ i ∧ i < 20 by omega) ?_
          have hm23 : la_ok (cw_put (wx_m m c) x_chances_ i ((Int.tdiv ((c i) * (10 - s)) 10) + 0)) := la_put hm2 (by decide) (Or.inr (by decide))
          refine And.intro (show -2147483648 ≤ i + (-1) ∧ i + (-1) < 2147483648 by omega) ?_
          show cw_R _ _ 81 [vr x_, vi k, vi n, vi s, vi q, vi (i + (-1)), vl 0, none] [] (cw_put (wx_m m c) x_chances_ i ((Int.tdiv ((c i) * (10 - s)) 10) + 0)) _
          rw [wx_m_pch]
          have hm24 : la_ok (wx_m m (cw_up c i ((Int.tdiv ((c i) * (10 - s)) 10) + 0))) := wx_m_ok hm0
          refine ih (i + -1) _ _ (by omega) (by omega) ⟨fun z z0 z1 => ?_, fun z z0 z1 => ?_⟩
          · rw [cw_up_ne (by omega)]; exact hv.1 z z0 (by omega)
          · by_cases e : z = i
            · rw [e, cw_up_eq, tI (by omega)]
              unfold w_1
              rw [if_neg (by omega)]
            · rw [cw_up_ne e]; exact hv.2 z (by omega) z1
        · refine And.intro (show -2147483648 ≤ i - 1 ∧ i - 1 < 2147483648 by omega) ?_
          refine And.intro (show 0 ≤ i - 1 ∧ i - 1 < 20 by omega) ?_
          refine And.intro (show -9223372036854775808 ≤ (c (i - 1)) * s ∧ (c (i - 1)) * s < 9223372036854775808 by rw [cJ (by omega)]; omega) ?_
          refine And.intro (show (10 : Int) ≠ 0 ∧ -9223372036854775808 ≤ Int.tdiv ((c (i - 1)) * s) 10 ∧ Int.tdiv ((c (i - 1)) * s) 10 < 9223372036854775808 by rw [tJ (by omega)]; omega) ?_
          refine And.intro (show 0 ≤ i ∧ i < 20 by omega) ?_
          refine And.intro (show -2147483648 ≤ 10 - s ∧ 10 - s < 2147483648 by omega) ?_
          refine And.intro (show -9223372036854775808 ≤ (c i) * (10 - s) ∧ (c i) * (10 - s) < 9223372036854775808 by rw [cI (by omega)]; omega) ?_
          refine And.intro (show (10 : Int) ≠ 0 ∧ -9223372036854775808 ≤ Int.tdiv ((c i) * (10 - s)) 10 ∧ Int.tdiv ((c i) * (10 - s)) 10 < 9223372036854775808 by rw [tI (by omega)]; omega) ?_
          refine And.intro (show -9223372036854775808 ≤ (Int.tdiv ((c i) * (10 - s)) 10) + (Int.tdiv ((c (i - 1)) * s) 10) ∧ (Int.tdiv ((c i) * (10 - s)) 10) + (Int.tdiv ((c (i - 1)) * s) 10) < 9223372036854775808 by first | (rw [tI (by omega), tJ (by omega)]; omega) | (rw [tI (by omega)]; omega)) ?_
          refine And.intro (show 0 ≤ i ∧ i < 20 by omega) ?_
          have hm25 : la_ok (cw_put (wx_m m c) x_chances_ i ((Int.tdiv ((c i) * (10 - s)) 10) + (Int.tdiv ((c (i - 1)) * s) 10))) := la_put hm2 (by decide) (Or.inr (by decide))
          refine And.intro (show -2147483648 ≤ i + (-1) ∧ i + (-1) < 2147483648 by omega) ?_
          show cw_R _ _ 81 [vr x_, vi k, vi n, vi s, vi q, vi (i + (-1)), vl (Int.tdiv ((c (i - 1)) * s) 10), none] [] (cw_put (wx_m m c) x_chances_ i ((Int.tdiv ((c i) * (10 - s)) 10) + (Int.tdiv ((c (i - 1)) * s) 10))) _
          rw [wx_m_pch]
          have hm26 : la_ok (wx_m m (cw_up c i ((Int.tdiv ((c i) * (10 - s)) 10) + (Int.tdiv ((c (i - 1)) * s) 10)))) := wx_m_ok hm0
          refine ih (i + -1) _ _ (by omega) (by omega) ⟨fun z z0 z1 => ?_, fun z z0 z1 => ?_⟩
          · rw [cw_up_ne (by omega)]; exact hv.1 z z0 (by omega)
          · by_cases e : z = i
            · rw [e, cw_up_eq, tI (by omega)]
              unfold w_1
              rw [if_pos (by omega), tJ (by omega)]
            · rw [cw_up_ne e]; exact hv.2 z (by omega) z1
  exact lp (k.toNat + 1) (k - 1) c w6 (by omega) (by omega) ⟨fun z z0 z1 => hcW z z0 (by omega), fun z z0 z1 => by omega⟩
theorem C_few70 {d : Nat} {m : cw_M} {Q : Option cw_V → cw_M → Prop} (hm0 : la_ok m) {c : Int → Int} {k n s : Int} (hs : 0 ≤ s ∧ s ≤ 10) (hk : 1 ≤ k ∧ k ≤ 20) (hn : 0 ≤ n ∧ n ≤ 99) (hcW : ∀ i, 0 ≤ i → i < k → c i = w_n s 0 i) (hQ : ∀ c, Q (some (vl (w_s (w_n s n.toNat) k.toNat))) (wx_m m c)) : cw_R d k_C_few 70 [vr x_, vi k, vi n, vi s, vi 0, none, none, none] [] (wx_m m c) Q := by
  have lp : ∀ (r : Nat) (q : Int) (c : Int → Int) (w5 w6 : cw_V), n < q + r → (0 ≤ q ∧ q ≤ n) → (∀ i, 0 ≤ i → i < k → c i = w_n s q.toNat i) → cw_R (d) k_C_few 70 [vr x_, vi k, vi n, vi s, vi q, w5, w6, none] [] (wx_m m c) Q := by
    intro r
    induction r with
    | zero =>
      intro q c w5 w6 hr hq hcW
      omega
    | succ r ih =>
      intro q c w5 w6 hr hq hcW
      have hm2 : la_ok (wx_m m c) := wx_m_ok hm0
      refine la_go_R hm2 10 [70, 81, 158] ?_
      refine And.intro (fun (c21 : n ≤ q) => ?_) (fun (c21 : ¬ (n ≤ q)) => ?_)
      · show cw_R _ _ 158 [vr x_, vi k, vi n, vi s, vl 0, none, vi 0, none] [] (wx_m m c) _
        exact C_few158 hm0 hk (w_nr hs q.toNat) hcW (by rw [show q.toNat = n.toNat by omega]; exact hQ c)
      · refine And.intro (show -2147483648 ≤ k - 1 ∧ k - 1 < 2147483648 by omega) ?_
        show cw_R _ _ 81 [vr x_, vi k, vi n, vi s, vi q, vi (k - 1), w6, none] [] (wx_m m c) _
        exact C_few81 hm0 hs hk (by omega) (w_nr hs q.toNat) hcW (fun c2 w6 h2 => ih (q + 1) c2 _ _ (by omega) (by omega) (fun i a b => by rw [show (q + 1).toNat = q.toNat + 1 by omega]; exact h2 i a b))
  exact lp (n.toNat + 1) 0 c _ _ (by omega) (by omega) hcW
theorem C_few47 {d : Nat} {m : cw_M} {Q : Option cw_V → cw_M → Prop} (hm0 : la_ok m) {c : Int → Int} {k n s : Int} (hs : 0 ≤ s ∧ s ≤ 10) (hk : 1 ≤ k ∧ k ≤ 20) (hn : 0 ≤ n ∧ n ≤ 99) (hc0 : c 0 = 1000000000000) (hQ : ∀ c, Q (some (vl (w_s (w_n s n.toNat) k.toNat))) (wx_m m c)) : cw_R d k_C_few 47 [vr x_, vi k, vi n, vi s, vi 1, none, none, none] [] (wx_m m c) Q := by
  have lp : ∀ (r : Nat) (i : Int) (c : Int → Int), k < i + r → (1 ≤ i ∧ i ≤ k) → (∀ z, 0 ≤ z → z < i → c z = w_n s 0 z) → cw_R (d) k_C_few 47 [vr x_, vi k, vi n, vi s, vi i, none, none, none] [] (wx_m m c) Q := by
    intro r
    induction r with
    | zero =>
      intro i c hr hi hv
      omega
    | succ r ih =>
      intro i c hr hi hv
      have hm2 : la_ok (wx_m m c) := wx_m_ok hm0
      refine la_go_R hm2 13 [47, 70] ?_
      refine And.intro (fun (c21 : k ≤ i) => ?_) (fun (c21 : ¬ (k ≤ i)) => ?_)
      · show cw_R _ _ 70 [vr x_, vi k, vi n, vi s, vi 0, none, none, none] [] (wx_m m c) _
        exact C_few70 hm0 hs hk hn (fun z a b => hv z a (by omega)) hQ
      · refine And.intro (show 0 ≤ i ∧ i < 20 by omega) ?_
        have hm22 : la_ok (cw_put (wx_m m c) x_chances_ i 0) := la_put hm2 (by decide) (Or.inr (by decide))
        refine And.intro (show -2147483648 ≤ i + 1 ∧ i + 1 < 2147483648 by omega) ?_
        show cw_R _ _ 47 [vr x_, vi k, vi n, vi s, vi (i + 1), none, none, none] [] (cw_put (wx_m m c) x_chances_ i 0) _
        rw [wx_m_pch]
        have hm23 : la_ok (wx_m m (cw_up c i 0)) := wx_m_ok hm0
        refine ih (i + 1) _ (by omega) (by omega) (fun z a b => ?_)
        by_cases e : z = i
        · rw [e, cw_up_eq]
          show 0 = (if i = 0 then (1000000000000 : Int) else 0)
          rw [if_neg (by omega)]
        · rw [cw_up_ne e]; exact hv z a (by omega)
  exact lp (k.toNat + 1) 1 c (by omega) (by omega) (fun z a b => by rw [show z = 0 by omega, hc0]; rfl)
theorem C_few {d : Nat} {m : cw_M} {Q : Option cw_V → cw_M → Prop} {K : Int → Int} (hm : la_ok m) (hK : K_r K) (hW : W_r m K) (hZ : Z_c m K) {k n : Int} (h : ∀ M, la_ok M → V_s m M → Z_c M K → Q (some (vl (q_few K k n))) M) : cw_C d k_C_few [vr x_, vi k, vi n] m Q := by
  have hs : 0 ≤ K 45 ∧ K 45 ≤ 10 := hK.2.2.2.2.2.2.2.2.1
  have h45 : m x_will_terms_ 3 = K 45 := hW.2.2.2.2.2.1.2.2.2
  refine la_go_C hm 27 [47] ?_
  refine And.intro (fun (c21 : k < 1) => ?_) (fun (c21 : ¬ (k < 1)) => ?_)
  · show Q (some (vl (-1))) (m)
    have e : q_few K k n = -1 := by unfold q_few; rw [if_neg (by omega)]
    rw [e] at h
    exact h m hm V_sr hZ
  · refine And.intro (fun (c22 : 20 < k) => ?_) (fun (c22 : ¬ (20 < k)) => ?_)
    · show Q (some (vl (-1))) (m)
      have e : q_few K k n = -1 := by unfold q_few; rw [if_neg (by omega)]
      rw [e] at h
      exact h m hm V_sr hZ
    · refine And.intro (fun (c23 : n < 0) => ?_) (fun (c23 : ¬ (n < 0)) => ?_)
      · show Q (some (vl (-1))) (m)
        have e : q_few K k n = -1 := by unfold q_few; rw [if_neg (by omega)]
        rw [e] at h
        exact h m hm V_sr hZ
      · refine And.intro (fun (c24 : n ≤ 99) => ?_) (fun (c24 : ¬ (n ≤ 99)) => ?_)
        · refine And.intro (show 0 ≤ 3 ∧ 3 < 4 by omega) ?_
          refine And.intro (show 0 ≤ 0 ∧ 0 < 20 by omega) ?_
          have hm25 : la_ok (cw_put m x_chances_ 0 1000000000000) := la_put hm (by decide) (Or.inr (by decide))
          show cw_R _ _ 47 [vr x_, vi k, vi n, vi (m x_will_terms_ 3), vi 1, none, none, none] [] (cw_put m x_chances_ 0 1000000000000) _
          have hk : 1 ≤ k ∧ k ≤ 20 := by omega
          have hn : 0 ≤ n ∧ n ≤ 99 := by omega
          have e : q_few K k n = w_s (w_n (K 45) n.toNat) k.toNat := by unfold q_few; rw [if_pos ⟨hk, hn⟩]
          rw [e] at h
          have ef : ∀ c : Int → Int, ∀ z, z ∉ P_L → wx_m m c z = m z := fun c z q => wx_m_ne (U_n q (by decide))
          refine la_go_R0 (m' := wx_m m (cw_up (m x_chances_) 0 1000000000000)) (by rw [← wx_m_pch, wx_m_self]) ?_
          rw [h45]
          refine C_few47 hm hs hk hn cw_up_eq (fun c => h _ (wx_m_ok hm) (P_LV (ef c)) (Z_ce hZ (ef c) (fun i q => ?_)))
          rw [wx_m_ne (by decide)]; exact (hZ.2.1 i q).2
        · show Q (some (vl (-1))) (m)
          have e : q_few K k n = -1 := by unfold q_few; rw [if_neg (by omega)]
          rw [e] at h
          exact h m hm V_sr hZ
