/-! The reference reads tests (wip/whole/tools/m71.py). -/
theorem M_readBoth5b {d : Nat} {m : cw_M} {Q : Option cw_V → cw_M → Prop} {tk lv bd dp : Int} (hm0 : la_ok m) (hbd : 0 ≤ bd) (h : Q none (y_m m tk lv bd)) : cw_R (d + 2) k_M_readBoth 5 [vr m_, vi dp] [] (y_m m tk lv bd) Q := by
  have hm : la_ok (y_m m tk lv bd) := y_m_ok hm0
  refine la_go_R hm 8 [] ?_
  show cw_C _ _ [vr m_, vi 6] (y_m m tk lv bd) _
  refine M_takes00 hm0 (by omega) ⟨hm, ?_⟩
  refine br_t (show (0 : Int) = 0 by decide) ?_
  show Q none (y_m m tk lv bd)
  exact h
theorem M_readTest5b {d : Nat} {m : cw_M} {Q : Option cw_V → cw_M → Prop} {tk lv bd dp : Int} (hm0 : la_ok m) (hbd : 0 ≤ bd) (h : Q none (y_m m tk lv bd)) : cw_R (d + 2) k_M_readTest 5 [vr m_, vi dp] [] (y_m m tk lv bd) Q := by
  have hm : la_ok (y_m m tk lv bd) := y_m_ok hm0
  refine la_go_R hm 8 [] ?_
  show cw_C _ _ [vr m_, vi 5] (y_m m tk lv bd) _
  refine M_takes00 hm0 (by omega) ⟨hm, ?_⟩
  refine br_t (show (0 : Int) = 0 by decide) ?_
  show Q none (y_m m tk lv bd)
  exact h
theorem M_readT {m : cw_M} {c v pl : Int → Int} {o : Bool} {n : Int} (hm0 : la_ok m) (hY : Y_h m c v pl o n) : ∀ (f : Nat), (∀ (d : Nat) (dp i l : Int) (acc : p_D) (ng : Bool) (Q : Option cw_V → cw_M → Prop) (w : cw_V), 0 ≤ i → i ≤ n → 0 ≤ l → l ≤ 50 → 0 ≤ dp → dp ≤ 8 → 30 - 3 * dp ≤ d → 4 + 5 * (n - i) ≤ f → (∀ i1 l1 D, p_t c v o f 0 dp i l acc ng = .ok (i1, l1, D) → Q none (y_m m i1 l1 (-1))) → (∀ er tk lv bd, p_t c v o f 0 dp i l acc ng = .error er → bd = pl er → 0 ≤ bd → Q none (y_m m tk lv bd)) → cw_R d k_M_readPlain 2 [vr m_, vi dp, vi 1, w] [] (y_m m i l (-1)) Q) ∧ (∀ (d : Nat) (dp i l : Int) (acc : p_D) (ng : Bool) (Q : Option cw_V → cw_M → Prop), 0 ≤ i → i ≤ n → 0 ≤ l → l ≤ 50 → 0 ≤ dp → dp ≤ 8 → 31 - 3 * dp ≤ d → 5 + 5 * (n - i) ≤ f → (∀ i1 l1 D, p_t c v o f 1 dp i l acc ng = .ok (i1, l1, D) → Q none (y_m m i1 l1 (-1))) → (∀ er tk lv bd, p_t c v o f 1 dp i l acc ng = .error er → bd = pl er → 0 ≤ bd → Q none (y_m m tk lv bd)) → cw_C d k_M_readBoth [vr m_, vi dp] (y_m m i l (-1)) Q) ∧ (∀ (d : Nat) (dp i l : Int) (acc : p_D) (ng : Bool) (Q : Option cw_V → cw_M → Prop), 0 ≤ i → i ≤ n → 0 ≤ l → l ≤ 50 → 0 ≤ dp → dp ≤ 8 → 31 - 3 * dp ≤ d → 1 + 5 * (n - i) ≤ f → (∀ i1 l1 D, p_t c v o f 2 dp i l acc ng = .ok (i1, l1, D) → Q none (y_m m i1 l1 (-1))) → (∀ er tk lv bd, p_t c v o f 2 dp i l acc ng = .error er → bd = pl er → 0 ≤ bd → Q none (y_m m tk lv bd)) → cw_R d k_M_readBoth 5 [vr m_, vi dp] [] (y_m m i l (-1)) Q) ∧ (∀ (d : Nat) (dp i l : Int) (acc : p_D) (ng : Bool) (Q : Option cw_V → cw_M → Prop), 0 ≤ i → i ≤ n → 0 ≤ l → l ≤ 50 → 0 ≤ dp → dp ≤ 8 → 32 - 3 * dp ≤ d → 6 + 5 * (n - i) ≤ f → (∀ i1 l1 D, p_t c v o f 3 dp i l acc ng = .ok (i1, l1, D) → Q none (y_m m i1 l1 (-1))) → (∀ er tk lv bd, p_t c v o f 3 dp i l acc ng = .error er → bd = pl er → 0 ≤ bd → Q none (y_m m tk lv bd)) → cw_C d k_M_readTest [vr m_, vi dp] (y_m m i l (-1)) Q) ∧ (∀ (d : Nat) (dp i l : Int) (acc : p_D) (ng : Bool) (Q : Option cw_V → cw_M → Prop), 0 ≤ i → i ≤ n → 0 ≤ l → l ≤ 50 → 0 ≤ dp → dp ≤ 8 → 32 - 3 * dp ≤ d → 1 + 5 * (n - i) ≤ f → (∀ i1 l1 D, p_t c v o f 4 dp i l acc ng = .ok (i1, l1, D) → Q none (y_m m i1 l1 (-1))) → (∀ er tk lv bd, p_t c v o f 4 dp i l acc ng = .error er → bd = pl er → 0 ≤ bd → Q none (y_m m tk lv bd)) → cw_R d k_M_readTest 5 [vr m_, vi dp] [] (y_m m i l (-1)) Q)
  | 0 => ⟨fun d dp i l acc ng Q w a1 a2 a3 a4 a5 a6 a7 a8 => by omega, fun d dp i l acc ng Q a1 a2 a3 a4 a5 a6 a7 a8 => by omega, fun d dp i l acc ng Q a1 a2 a3 a4 a5 a6 a7 a8 => by omega, fun d dp i l acc ng Q a1 a2 a3 a4 a5 a6 a7 a8 => by omega, fun d dp i l acc ng Q a1 a2 a3 a4 a5 a6 a7 a8 => by omega⟩
  | f + 1 => by
    have ih := M_readT hm0 hY f
    have ihs := M_readS hm0 hY f
    have plain : ∀ (d : Nat) (dp i l : Int) (acc : p_D) (ng : Bool) (Q : Option cw_V → cw_M → Prop), 0 ≤ i → i ≤ n → 0 ≤ l → l ≤ 50 → 0 ≤ dp → dp ≤ 8 → 30 - 3 * dp ≤ d → 4 + 5 * (n - i) ≤ f → (∀ i1 l1 D, p_t c v o f 0 dp i l acc ng = .ok (i1, l1, D) → Q none (y_m m i1 l1 (-1))) → (∀ er tk lv bd, p_t c v o f 0 dp i l acc ng = .error er → bd = pl er → 0 ≤ bd → Q none (y_m m tk lv bd)) → cw_C d k_M_readPlain [vr m_, vi dp] (y_m m i l (-1)) Q := by
      intro d dp i l acc ng Q h0 h1 hl0 hl1 hd0 hd8 hd hf hok her
      have hm : la_ok (y_m m i l (-1)) := y_m_ok hm0
      refine la_go_C hm 5 [2] ?_
      show cw_R _ _ 2 [vr m_, vi dp, vi 1, none] [] (y_m m i l (-1)) _
      exact ih.1 _ dp i l acc ng Q none (by omega) (by omega) (by omega) (by omega) (by omega) (by omega) (by omega) (by omega) hok her
    refine ⟨?_, ?_, ?_, ?_, ?_⟩
    · intro d0 dp i l acc ng Q w h0 h1 hl0 hl1 hd0 hd8 hd hf hok her
      obtain ⟨d, rfl⟩ : ∃ k, d0 = k + 6 := ⟨d0 - 6, by omega⟩
      have yn := hY.1
      have y := hY.2.2.1 i h0 h1
      have hm : la_ok (y_m m i l (-1)) := y_m_ok hm0
      have hlt : c i ≠ 0 → i < n := fun q => by
        by_cases e : i = n
        · rw [e, hY.2.1] at q; exact absurd rfl q
        · omega
      have hi7 : c i = 7 ∨ c i = 140 → i < n := fun q => hlt (by omega)
      have ltn : ∀ z, 0 ≤ z → z ≤ n → c z ≠ 0 → z < n := fun z _ _ q => by
        by_cases e : z = n
        · rw [e, hY.2.1] at q; exact absurd rfl q
        · omega
      refine la_go_R hm 10 [2] ?_
      refine br_f (show ¬ ((1 : Int) = 0) by decide) ?_
      show cw_C _ _ [vr m_, vi 7] (y_m m i l (-1)) _
      refine M_takes01 hm0 hY (by omega) (by omega) (fun (a1 : c i = 7) => ⟨(y_m_ok hm0), ?_⟩) (fun (a1 : c i ≠ 7) => ⟨hm, ?_⟩)
      · show cw_R _ _ 2 [vr m_, vi dp, vi 1, w] [] (y_m m (i + 1) l (-1)) _
        exact ih.1 _ dp (i + 1) l acc (!ng) Q w (by omega) (by omega) (by omega) (by omega) (by omega) (by omega) (by omega) (by omega) (fun iz lz Dz ez => hok iz lz Dz (by rw [p_t0, if_pos (by omega)]; exact ez)) (fun er tk lv bd ez => her er tk lv bd (by rw [p_t0, if_pos (by omega)]; exact ez))
      · show cw_R _ _ 2 [vr m_, vi dp, vi 0, w] [] (y_m m i l (-1)) _
        refine la_go_R hm 41 [] ?_
        refine br_t (show (0 : Int) = 0 by decide) ?_
        show cw_C _ _ [vr m_] (y_m m i l (-1)) _
        refine M_fine1 hm0 ⟨hm, ?_⟩
        refine br_t (show (1 : Int) ≠ 0 by decide) ?_
        refine And.intro (show 0 ≤ i ∧ i < 401 by omega) ?_
        show cw_C _ _ [vi 40] (y_m m i l (-1)) _
        refine M_sign (by decide) rfl ⟨hm, ?_⟩
        refine And.intro (fun (c1 : m m_code_ i ≠ 140) => ?_) (fun (c1 : ¬ (m m_code_ i ≠ 140)) => ?_)
        · show cw_C _ _ [vr m_, vi dp] (y_m m i l (-1)) _
          refine ihs.2.2.2.1 _ dp i l acc _ (by omega) (by omega) (by omega) (by omega) (by omega) (by omega) (by omega) (by omega) (fun (i2 l2 : Int) (D2 : p_D) (e2 : p_s c v o f 3 dp i l acc = .ok (i2, l2, D2)) => ⟨(y_m_ok hm0), ?_⟩) (fun (r2 t2 u2 b2 : Int) (e2 : p_s c v o f 3 dp i l acc = .error r2) (eb2 : b2 = pl r2) (nb2 : 0 ≤ b2) => ⟨(y_m_ok hm0), ?_⟩)
          · have N2 := p_Nok ((p_sN (c := c) (v := v) (o := o) hY.2.1 f (dp := dp) (i := i) (l := l) (acc := acc) (by omega) (by omega) (by omega) (by omega)).2.2.2.1 (by omega)) e2
            have S2 := N2.2.2.2.2 rfl
            have L2 : c i2 ≠ 0 → i2 < n := ltn _ (by omega) (by omega)
            show cw_C _ _ [vi 60] (y_m m i2 l2 (-1)) _
            refine M_sign (by decide) rfl ⟨(y_m_ok hm0), ?_⟩
            show cw_C _ _ [vr m_, vi 160] (y_m m i2 l2 (-1)) _
            refine M_takes01 hm0 hY (by omega) (by omega) (fun (a3 : c i2 = 160) => ⟨(y_m_ok hm0), ?_⟩) (fun (a3 : c i2 ≠ 160) => ⟨(y_m_ok hm0), ?_⟩)
            · refine br_t (show (1 : Int) ≠ 0 by decide) ?_
              show cw_C _ _ [vr m_, vi dp] (y_m m (i2 + 1) l2 (-1)) _
              refine ihs.2.2.2.1 _ dp (i2 + 1) l2 acc _ (by omega) (by omega) (by omega) (by omega) (by omega) (by omega) (by omega) (by omega) (fun (i4 l4 : Int) (D4 : p_D) (e4 : p_s c v o f 3 dp (i2 + 1) l2 acc = .ok (i4, l4, D4)) => ⟨(y_m_ok hm0), ?_⟩) (fun (r4 t4 u4 b4 : Int) (e4 : p_s c v o f 3 dp (i2 + 1) l2 acc = .error r4) (eb4 : b4 = pl r4) (nb4 : 0 ≤ b4) => ⟨(y_m_ok hm0), ?_⟩)
              · have N4 := p_Nok ((p_sN (c := c) (v := v) (o := o) hY.2.1 f (dp := dp) (i := i2 + 1) (l := l2) (acc := acc) (by omega) (by omega) (by omega) (by omega)).2.2.2.1 (by omega)) e4
                have S4 := N4.2.2.2.2 rfl
                have L4 : c i4 ≠ 0 → i4 < n := ltn _ (by omega) (by omega)
                show Q none (y_m m i4 l4 (-1))
                exact hok _ _ _ (by rw [p_t0, if_neg (by omega), if_neg (by omega), e2]; show (if _ then _ else _) = _; rw [if_pos (by omega), e4]; rfl)
              · show Q none (y_m m t4 u4 b4)
                exact her r4 _ _ _ (by rw [p_t0, if_neg (by omega), if_neg (by omega), e2]; show (if _ then _ else _) = _; rw [if_pos (by omega), e4]; rfl) eb4 nb4
            · refine br_f (show ¬ ((0 : Int) ≠ 0) by decide) ?_
              show cw_C _ _ [vi 62] (y_m m i2 l2 (-1)) _
              refine M_sign (by decide) rfl ⟨(y_m_ok hm0), ?_⟩
              show cw_C _ _ [vr m_, vi 162] (y_m m i2 l2 (-1)) _
              refine M_takes01 hm0 hY (by omega) (by omega) (fun (a5 : c i2 = 162) => ⟨(y_m_ok hm0), ?_⟩) (fun (a5 : c i2 ≠ 162) => ⟨(y_m_ok hm0), ?_⟩)
              · refine br_t (show (1 : Int) ≠ 0 by decide) ?_
                show cw_C _ _ [vr m_, vi dp] (y_m m (i2 + 1) l2 (-1)) _
                refine ihs.2.2.2.1 _ dp (i2 + 1) l2 acc _ (by omega) (by omega) (by omega) (by omega) (by omega) (by omega) (by omega) (by omega) (fun (i6 l6 : Int) (D6 : p_D) (e6 : p_s c v o f 3 dp (i2 + 1) l2 acc = .ok (i6, l6, D6)) => ⟨(y_m_ok hm0), ?_⟩) (fun (r6 t6 u6 b6 : Int) (e6 : p_s c v o f 3 dp (i2 + 1) l2 acc = .error r6) (eb6 : b6 = pl r6) (nb6 : 0 ≤ b6) => ⟨(y_m_ok hm0), ?_⟩)
                · have N6 := p_Nok ((p_sN (c := c) (v := v) (o := o) hY.2.1 f (dp := dp) (i := i2 + 1) (l := l2) (acc := acc) (by omega) (by omega) (by omega) (by omega)).2.2.2.1 (by omega)) e6
                  have S6 := N6.2.2.2.2 rfl
                  have L6 : c i6 ≠ 0 → i6 < n := ltn _ (by omega) (by omega)
                  show Q none (y_m m i6 l6 (-1))
                  exact hok _ _ _ (by rw [p_t0, if_neg (by omega), if_neg (by omega), e2]; show (if _ then _ else _) = _; rw [if_pos (by omega), e6]; rfl)
                · show Q none (y_m m t6 u6 b6)
                  exact her r6 _ _ _ (by rw [p_t0, if_neg (by omega), if_neg (by omega), e2]; show (if _ then _ else _) = _; rw [if_pos (by omega), e6]; rfl) eb6 nb6
              · refine br_f (show ¬ ((0 : Int) ≠ 0) by decide) ?_
                show cw_C _ _ [vi 61] (y_m m i2 l2 (-1)) _
                refine M_sign (by decide) rfl ⟨(y_m_ok hm0), ?_⟩
                show cw_C _ _ [vr m_, vi 161] (y_m m i2 l2 (-1)) _
                refine M_must1 hm0 hY (by omega) (by omega) (fun (a7 : c i2 = 161) => ⟨(y_m_ok hm0), ?_⟩) (fun (a7 : c i2 ≠ 161) (b8 : Int) (eb8 : b8 = pl i2) (nb8 : 0 ≤ b8) => ⟨(y_m_ok hm0), ?_⟩)
                · show cw_C _ _ [vr m_, vi dp] (y_m m (i2 + 1) l2 (-1)) _
                  refine ihs.2.2.2.1 _ dp (i2 + 1) l2 acc _ (by omega) (by omega) (by omega) (by omega) (by omega) (by omega) (by omega) (by omega) (fun (i9 l9 : Int) (D9 : p_D) (e9 : p_s c v o f 3 dp (i2 + 1) l2 acc = .ok (i9, l9, D9)) => ⟨(y_m_ok hm0), ?_⟩) (fun (r9 t9 u9 b9 : Int) (e9 : p_s c v o f 3 dp (i2 + 1) l2 acc = .error r9) (eb9 : b9 = pl r9) (nb9 : 0 ≤ b9) => ⟨(y_m_ok hm0), ?_⟩)
                  · have N9 := p_Nok ((p_sN (c := c) (v := v) (o := o) hY.2.1 f (dp := dp) (i := i2 + 1) (l := l2) (acc := acc) (by omega) (by omega) (by omega) (by omega)).2.2.2.1 (by omega)) e9
                    have S9 := N9.2.2.2.2 rfl
                    have L9 : c i9 ≠ 0 → i9 < n := ltn _ (by omega) (by omega)
                    show Q none (y_m m i9 l9 (-1))
                    exact hok _ _ _ (by rw [p_t0, if_neg (by omega), if_neg (by omega), e2]; show (if _ then _ else _) = _; rw [if_pos (by omega), e9]; rfl)
                  · show Q none (y_m m t9 u9 b9)
                    exact her r9 _ _ _ (by rw [p_t0, if_neg (by omega), if_neg (by omega), e2]; show (if _ then _ else _) = _; rw [if_pos (by omega), e9]; rfl) eb9 nb9
                · show cw_C _ _ [vr m_, vi dp] (y_m m i2 l2 b8) _
                  refine M_readSum0 hm0 (by omega) ⟨(y_m_ok hm0), ?_⟩
                  show Q none (y_m m i2 l2 b8)
                  exact her _ _ _ _ (by rw [p_t0, if_neg (by omega), if_neg (by omega), e2]; show (if _ then _ else _) = _; rw [if_neg (by omega)]) eb8 nb8
          · show cw_C _ _ [vi 60] (y_m m t2 u2 b2) _
            refine M_sign (by decide) rfl ⟨(y_m_ok hm0), ?_⟩
            show cw_C _ _ [vr m_, vi 160] (y_m m t2 u2 b2) _
            refine M_takes00 hm0 (by omega) ⟨(y_m_ok hm0), ?_⟩
            refine br_f (show ¬ ((0 : Int) ≠ 0) by decide) ?_
            show cw_C _ _ [vi 62] (y_m m t2 u2 b2) _
            refine M_sign (by decide) rfl ⟨(y_m_ok hm0), ?_⟩
            show cw_C _ _ [vr m_, vi 162] (y_m m t2 u2 b2) _
            refine M_takes00 hm0 (by omega) ⟨(y_m_ok hm0), ?_⟩
            refine br_f (show ¬ ((0 : Int) ≠ 0) by decide) ?_
            show cw_C _ _ [vi 61] (y_m m t2 u2 b2) _
            refine M_sign (by decide) rfl ⟨(y_m_ok hm0), ?_⟩
            show cw_C _ _ [vr m_, vi 161] (y_m m t2 u2 b2) _
            refine M_must0 hm0 (by omega) ⟨(y_m_ok hm0), ?_⟩
            show cw_C _ _ [vr m_, vi dp] (y_m m t2 u2 b2) _
            refine M_readSum0 hm0 (by omega) ⟨(y_m_ok hm0), ?_⟩
            show Q none (y_m m t2 u2 b2)
            exact her r2 _ _ _ (by rw [p_t0, if_neg (by omega), if_neg (by omega), e2]; rfl) eb2 nb2
        · refine And.intro (fun (c10 : dp ≠ 8) => ?_) (fun (c10 : ¬ (dp ≠ 8)) => ?_)
          · show cw_C _ _ [vr m_] (y_m m i l (-1)) _
            refine M_fine1 hm0 ⟨hm, ?_⟩
            refine br_t (show (1 : Int) ≠ 0 by decide) ?_
            refine And.intro (show -2147483648 ≤ i + 1 ∧ i + 1 < 2147483648 by omega) ?_
            have hm11 : la_ok (cw_put (y_m m i l (-1)) m_ 19 (i + 1)) := la_put hm (by decide) (Or.inl rfl)
            refine And.intro (show -2147483648 ≤ dp + 1 ∧ dp + 1 < 2147483648 by omega) ?_
            show cw_C _ _ [vr m_, vi (dp + 1)] (cw_put (y_m m i l (-1)) m_ 19 (i + 1)) _
            rw [y_m_ftk]
            have hm12 : la_ok (y_m m (i + 1) l (-1)) := y_m_ok hm0
            refine ih.2.2.2.1 _ (dp + 1) (i + 1) l acc false _ (by omega) (by omega) (by omega) (by omega) (by omega) (by omega) (by omega) (by omega) (fun (i13 l13 : Int) (D13 : p_D) (e13 : p_t c v o f 3 (dp + 1) (i + 1) l acc false = .ok (i13, l13, D13)) => ⟨(y_m_ok hm0), ?_⟩) (fun (r13 t13 u13 b13 : Int) (e13 : p_t c v o f 3 (dp + 1) (i + 1) l acc false = .error r13) (eb13 : b13 = pl r13) (nb13 : 0 ≤ b13) => ⟨(y_m_ok hm0), ?_⟩)
            · have N13 := p_Nok ((p_tN (c := c) (v := v) (o := o) hY.2.1 f (dp := dp + 1) (i := i + 1) (l := l) (acc := acc) (ng := false) (by omega) (by omega) (by omega) (by omega)).2.2.2.1 (by omega)) e13
              have S13 := N13.2.2.2.2 rfl
              show cw_C _ _ [vi 41] (y_m m i13 l13 (-1)) _
              refine M_sign (by decide) rfl ⟨(y_m_ok hm0), ?_⟩
              show cw_C _ _ [vr m_, vi 141] (y_m m i13 l13 (-1)) _
              refine M_must1 hm0 hY (by omega) (by omega) (fun (a14 : c i13 = 141) => ⟨(y_m_ok hm0), ?_⟩) (fun (a14 : c i13 ≠ 141) (b15 : Int) (eb15 : b15 = pl i13) (nb15 : 0 ≤ b15) => ⟨(y_m_ok hm0), ?_⟩)
              · show Q none (y_m m (i13 + 1) l13 (-1))
                exact hok _ _ _ (by rw [p_t0, if_neg (by omega), if_pos (by omega), if_neg (by omega), e13]; show (if _ then _ else _) = _; rw [if_pos (by omega)])
              · show Q none (y_m m i13 l13 b15)
                exact her _ _ _ _ (by rw [p_t0, if_neg (by omega), if_pos (by omega), if_neg (by omega), e13]; show (if _ then _ else _) = _; rw [if_neg (by omega)]) eb15 nb15
            · show cw_C _ _ [vi 41] (y_m m t13 u13 b13) _
              refine M_sign (by decide) rfl ⟨(y_m_ok hm0), ?_⟩
              show cw_C _ _ [vr m_, vi 141] (y_m m t13 u13 b13) _
              refine M_must0 hm0 (by omega) ⟨(y_m_ok hm0), ?_⟩
              show Q none (y_m m t13 u13 b13)
              exact her r13 _ _ _ (by rw [p_t0, if_neg (by omega), if_pos (by omega), if_neg (by omega), e13]; rfl) eb13 nb13
          · show cw_C _ _ [vr m_] (y_m m i l (-1)) _
            refine M_faults1 hm0 hY (by omega) (by omega) (fun (b16 : Int) (eb16 : b16 = pl i) (nb16 : 0 ≤ b16) => ⟨(y_m_ok hm0), ?_⟩)
            show cw_C _ _ [vr m_] (y_m m i l b16) _
            refine M_fine0 hm0 (by omega) ⟨(y_m_ok hm0), ?_⟩
            refine br_f (show ¬ ((0 : Int) ≠ 0) by decide) ?_
            show Q none (y_m m i l b16)
            exact her _ _ _ _ (by rw [p_t0, if_neg (by omega), if_pos (by omega), if_pos (by omega)]) eb16 nb16
    · intro d0 dp i l acc ng Q h0 h1 hl0 hl1 hd0 hd8 hd hf hok her
      obtain ⟨d, rfl⟩ : ∃ k, d0 = k + 7 := ⟨d0 - 7, by omega⟩
      have yn := hY.1
      have y := hY.2.2.1 i h0 h1
      have hm : la_ok (y_m m i l (-1)) := y_m_ok hm0
      have hlt : c i ≠ 0 → i < n := fun q => by
        by_cases e : i = n
        · rw [e, hY.2.1] at q; exact absurd rfl q
        · omega
      refine la_go_C hm 6 [5] ?_
      show cw_C _ _ [vr m_, vi dp] (y_m m i l (-1)) _
      refine plain _ dp i l acc false _ (by omega) (by omega) (by omega) (by omega) (by omega) (by omega) (by omega) (by omega) (fun (i1 l1 : Int) (D1 : p_D) (e1 : p_t c v o f 0 dp i l acc false = .ok (i1, l1, D1)) => ⟨(y_m_ok hm0), ?_⟩) (fun (r1 t1 u1 b1 : Int) (e1 : p_t c v o f 0 dp i l acc false = .error r1) (eb1 : b1 = pl r1) (nb1 : 0 ≤ b1) => ⟨(y_m_ok hm0), ?_⟩)
      · have N1 := p_Nok ((p_tN (c := c) (v := v) (o := o) hY.2.1 f (dp := dp) (i := i) (l := l) (acc := acc) (ng := false) (by omega) (by omega) (by omega) (by omega)).1 (by omega)) e1
        have S1 := N1.2.2.2.2 rfl
        show cw_R _ _ 5 [vr m_, vi dp] [] (y_m m i1 l1 (-1)) _
        exact ih.2.2.1 _ dp i1 l1 D1 false _ (by omega) (by omega) (by omega) (by omega) (by omega) (by omega) (by omega) (by omega) (fun iz lz Dz ez => hok iz lz Dz (by rw [p_t1, e1]; exact ez)) (fun er tk lv bd ez => her er tk lv bd (by rw [p_t1, e1]; exact ez))
      · show cw_R _ _ 5 [vr m_, vi dp] [] (y_m m t1 u1 b1) _
        exact M_readBoth5b hm0 nb1 (her r1 _ _ _ (by rw [p_t1, e1]; rfl) eb1 nb1)
    · intro d0 dp i l acc ng Q h0 h1 hl0 hl1 hd0 hd8 hd hf hok her
      obtain ⟨d, rfl⟩ : ∃ k, d0 = k + 7 := ⟨d0 - 7, by omega⟩
      have yn := hY.1
      have y := hY.2.2.1 i h0 h1
      have hm : la_ok (y_m m i l (-1)) := y_m_ok hm0
      have hlt : c i ≠ 0 → i < n := fun q => by
        by_cases e : i = n
        · rw [e, hY.2.1] at q; exact absurd rfl q
        · omega
      have hin : c i = 6 → i < n := fun q => hlt (by omega)
      refine la_go_R hm 11 [5] ?_
      show cw_C _ _ [vr m_, vi 6] (y_m m i l (-1)) _
      refine M_takes01 hm0 hY (by omega) (by omega) (fun (a1 : c i = 6) => ⟨(y_m_ok hm0), ?_⟩) (fun (a1 : c i ≠ 6) => ⟨hm, ?_⟩)
      · refine br_f (show ¬ ((1 : Int) = 0) by decide) ?_
        show cw_C _ _ [vr m_, vi dp] (y_m m (i + 1) l (-1)) _
        refine plain _ dp (i + 1) l acc false _ (by omega) (by omega) (by omega) (by omega) (by omega) (by omega) (by omega) (by omega) (fun (i2 l2 : Int) (D2 : p_D) (e2 : p_t c v o f 0 dp (i + 1) l acc false = .ok (i2, l2, D2)) => ⟨(y_m_ok hm0), ?_⟩) (fun (r2 t2 u2 b2 : Int) (e2 : p_t c v o f 0 dp (i + 1) l acc false = .error r2) (eb2 : b2 = pl r2) (nb2 : 0 ≤ b2) => ⟨(y_m_ok hm0), ?_⟩)
        · have N2 := p_Nok ((p_tN (c := c) (v := v) (o := o) hY.2.1 f (dp := dp) (i := i + 1) (l := l) (acc := acc) (ng := false) (by omega) (by omega) (by omega) (by omega)).1 (by omega)) e2
          have S2 := N2.2.2.2.2 rfl
          show cw_R _ _ 5 [vr m_, vi dp] [] (y_m m i2 l2 (-1)) _
          exact ih.2.2.1 _ dp i2 l2 (p_and acc D2) false _ (by omega) (by omega) (by omega) (by omega) (by omega) (by omega) (by omega) (by omega) (fun iz lz Dz ez => hok iz lz Dz (by rw [p_t2, if_pos (by omega), e2]; exact ez)) (fun er tk lv bd ez => her er tk lv bd (by rw [p_t2, if_pos (by omega), e2]; exact ez))
        · show cw_R _ _ 5 [vr m_, vi dp] [] (y_m m t2 u2 b2) _
          exact M_readBoth5b hm0 nb2 (her r2 _ _ _ (by rw [p_t2, if_pos (by omega), e2]; rfl) eb2 nb2)
      · refine br_t (show (0 : Int) = 0 by decide) ?_
        show Q none (y_m m i l (-1))
        exact hok _ _ _ (by rw [p_t2, if_neg (by omega)])
    · intro d0 dp i l acc ng Q h0 h1 hl0 hl1 hd0 hd8 hd hf hok her
      obtain ⟨d, rfl⟩ : ∃ k, d0 = k + 8 := ⟨d0 - 8, by omega⟩
      have yn := hY.1
      have y := hY.2.2.1 i h0 h1
      have hm : la_ok (y_m m i l (-1)) := y_m_ok hm0
      have hlt : c i ≠ 0 → i < n := fun q => by
        by_cases e : i = n
        · rw [e, hY.2.1] at q; exact absurd rfl q
        · omega
      refine la_go_C hm 6 [5] ?_
      show cw_C _ _ [vr m_, vi dp] (y_m m i l (-1)) _
      refine ih.2.1 _ dp i l acc false _ (by omega) (by omega) (by omega) (by omega) (by omega) (by omega) (by omega) (by omega) (fun (i1 l1 : Int) (D1 : p_D) (e1 : p_t c v o f 1 dp i l acc false = .ok (i1, l1, D1)) => ⟨(y_m_ok hm0), ?_⟩) (fun (r1 t1 u1 b1 : Int) (e1 : p_t c v o f 1 dp i l acc false = .error r1) (eb1 : b1 = pl r1) (nb1 : 0 ≤ b1) => ⟨(y_m_ok hm0), ?_⟩)
      · have N1 := p_Nok ((p_tN (c := c) (v := v) (o := o) hY.2.1 f (dp := dp) (i := i) (l := l) (acc := acc) (ng := false) (by omega) (by omega) (by omega) (by omega)).2.1 (by omega)) e1
        have S1 := N1.2.2.2.2 rfl
        show cw_R _ _ 5 [vr m_, vi dp] [] (y_m m i1 l1 (-1)) _
        exact ih.2.2.2.2 _ dp i1 l1 D1 false _ (by omega) (by omega) (by omega) (by omega) (by omega) (by omega) (by omega) (by omega) (fun iz lz Dz ez => hok iz lz Dz (by rw [p_t3, e1]; exact ez)) (fun er tk lv bd ez => her er tk lv bd (by rw [p_t3, e1]; exact ez))
      · show cw_R _ _ 5 [vr m_, vi dp] [] (y_m m t1 u1 b1) _
        exact M_readTest5b hm0 nb1 (her r1 _ _ _ (by rw [p_t3, e1]; rfl) eb1 nb1)
    · intro d0 dp i l acc ng Q h0 h1 hl0 hl1 hd0 hd8 hd hf hok her
      obtain ⟨d, rfl⟩ : ∃ k, d0 = k + 8 := ⟨d0 - 8, by omega⟩
      have yn := hY.1
      have y := hY.2.2.1 i h0 h1
      have hm : la_ok (y_m m i l (-1)) := y_m_ok hm0
      have hlt : c i ≠ 0 → i < n := fun q => by
        by_cases e : i = n
        · rw [e, hY.2.1] at q; exact absurd rfl q
        · omega
      have hin : c i = 5 → i < n := fun q => hlt (by omega)
      refine la_go_R hm 11 [5] ?_
      show cw_C _ _ [vr m_, vi 5] (y_m m i l (-1)) _
      refine M_takes01 hm0 hY (by omega) (by omega) (fun (a1 : c i = 5) => ⟨(y_m_ok hm0), ?_⟩) (fun (a1 : c i ≠ 5) => ⟨hm, ?_⟩)
      · refine br_f (show ¬ ((1 : Int) = 0) by decide) ?_
        show cw_C _ _ [vr m_, vi dp] (y_m m (i + 1) l (-1)) _
        refine ih.2.1 _ dp (i + 1) l acc false _ (by omega) (by omega) (by omega) (by omega) (by omega) (by omega) (by omega) (by omega) (fun (i2 l2 : Int) (D2 : p_D) (e2 : p_t c v o f 1 dp (i + 1) l acc false = .ok (i2, l2, D2)) => ⟨(y_m_ok hm0), ?_⟩) (fun (r2 t2 u2 b2 : Int) (e2 : p_t c v o f 1 dp (i + 1) l acc false = .error r2) (eb2 : b2 = pl r2) (nb2 : 0 ≤ b2) => ⟨(y_m_ok hm0), ?_⟩)
        · have N2 := p_Nok ((p_tN (c := c) (v := v) (o := o) hY.2.1 f (dp := dp) (i := i + 1) (l := l) (acc := acc) (ng := false) (by omega) (by omega) (by omega) (by omega)).2.1 (by omega)) e2
          have S2 := N2.2.2.2.2 rfl
          show cw_R _ _ 5 [vr m_, vi dp] [] (y_m m i2 l2 (-1)) _
          exact ih.2.2.2.2 _ dp i2 l2 (p_or acc D2) false _ (by omega) (by omega) (by omega) (by omega) (by omega) (by omega) (by omega) (by omega) (fun iz lz Dz ez => hok iz lz Dz (by rw [p_t4, if_pos (by omega), e2]; exact ez)) (fun er tk lv bd ez => her er tk lv bd (by rw [p_t4, if_pos (by omega), e2]; exact ez))
        · show cw_R _ _ 5 [vr m_, vi dp] [] (y_m m t2 u2 b2) _
          exact M_readTest5b hm0 nb2 (her r2 _ _ _ (by rw [p_t4, if_pos (by omega), e2]; rfl) eb2 nb2)
      · refine br_t (show (0 : Int) = 0 by decide) ?_
        show Q none (y_m m i l (-1))
        exact hok _ _ _ (by rw [p_t4, if_neg (by omega)])
