/-! What orders look at, and their sums, by the class (wip/whole/tools/m168.py). -/
theorem O_Rc {X Y : cw_M} {K L : Int → Int} {un : Int} (hR : O_R X K L un) (hY : la_ok Y) (e : ∀ c, c ≠ x_orderSums_words_ → c ≠ x_orderSums_stack_ → Y c = X c) : O_R Y K L un := by
  obtain ⟨hX, ⟨hK, hW, hZ, hE⟩, hG⟩ := hR
  have n := fun c (a : c ∉ [x_orderSums_words_, x_orderSums_stack_]) => e c (U_n a (by decide)) (U_n a (by decide))
  have wl : x_orderSums_words_ < 130023424 ∧ x_orderSums_stack_ < 130023424 := by decide
  have hh : ∀ c, h_c c → Y c = X c := fun c q => by unfold h_c at q; exact e c (by omega) (by omega)
  refine ⟨hY, ⟨hK, W_mr (by rw [n x_will_ (by decide)]) (by rw [n x_will_ (by decide)]) (by rw [n x_will_ (by decide)]) (by rw [n x_will_ (by decide)]) (by rw [n x_will_ (by decide)]) (by rw [n x_will_ (by decide)]) (n _ (by decide)) (n _ (by decide)) (n _ (by decide)) (n _ (by decide)) (n _ (by decide)) (n _ (by decide)) (n _ (by decide)) (n _ (by decide)) (W_qe hW hh), ⟨S_ce hZ.1 (n _ (by decide)) (n _ (by decide)) (n _ (by decide)) (n _ (by decide)) (by rw [n x_ (by decide)]), fun i q => ?_, ?_, fun q => ?_⟩, ?_⟩, ?_⟩
  · rw [n x_ledger_paper_sums_words_ (by decide), n x_paper_sums_words_ (by decide)]; exact hZ.2.1 i q
  · rw [n x_ (by decide)]; exact hZ.2.2.1
  · rw [n x_ (by decide)] at q
    exact L_ce (hZ.2.2.2 q) (n _ (by decide)) (n _ (by decide)) (n _ (by decide)) (n _ (by decide)) hh (n _ (by decide))
  · unfold E_s at hE ⊢
    rw [n x_settler_ (by decide), n x_settler_trial_ (by decide)]
    exact hE
  · rw [n x_log_ (by decide), n x_log_what_ (by decide), n x_log_where_ (by decide), n x_log_was_ (by decide)]
    exact hG
def O_G (m X : cw_M) : Prop := (∀ c, c ∉ O_D → c ≠ x_orderSums_words_ → c ≠ x_orderSums_stack_ → X c = m c) ∧ (∀ j, j ≠ 18 → j ≠ 19 → X x_ j = m x_ j) ∧ ∀ j, j ≠ 4 → X x_will_ j = m x_will_ j
theorem O_Gr {m : cw_M} : O_G m m := ⟨fun _ _ _ _ => rfl, fun _ _ _ => rfl, fun _ _ => rfl⟩
theorem O_Gt {m a b : cw_M} (h : O_G m a) (h2 : O_G a b) : O_G m b := ⟨fun c q x y => by rw [h2.1 c q x y, h.1 c q x y], fun j x y => by rw [h2.2.1 j x y, h.2.1 j x y], fun j x => by rw [h2.2.2 j x, h.2.2 j x]⟩
theorem O_GF {m X : cw_M} (h : O_F m X) : O_G m X := ⟨fun c q _ _ => h.1 c q, h.2.1, h.2.2⟩
theorem O_Gc {X Y : cw_M} (e : ∀ c, c ≠ x_orderSums_words_ → c ≠ x_orderSums_stack_ → Y c = X c) : O_G X Y := ⟨fun c _ a b => e c a b, fun j _ _ => by rw [e x_ (by decide) (by decide)], fun j _ => by rw [e x_will_ (by decide) (by decide)]⟩
theorem O_Gx {m X : cw_M} {Ks : List p_K} (h : O_G m X) (ht : X_t true m Ks) : X_t true X Ks := by
  have n := fun c (a : c ∉ O_D) (b : c ≠ x_orderSums_words_) (d : c ≠ x_orderSums_stack_) => h.1 c a b d
  unfold X_t at ht ⊢
  rw [n x_reader_text_code_ (by decide) (by decide) (by decide), n x_reader_text_ (by decide) (by decide) (by decide), n x_reader_text_head_ (by decide) (by decide) (by decide), n x_reader_text_first_ (by decide) (by decide) (by decide), n x_reader_text_second_ (by decide) (by decide) (by decide), n x_reader_text_test_ (by decide) (by decide) (by decide), n x_reader_text_repeats_ (by decide) (by decide) (by decide)]
  exact ht
/-- words beyond those that there are don't matter -/
theorem e_stW {co W W' : Int → Int} {n : Int} (hc : e_ok co n) (hW : ∀ i, 0 ≤ i → i < 17 → W i = W' i) : ∀ (f : Nat) (p t : Int) (sk : Int → Int), e_st co n W f p t sk = e_st co n W' f p t sk
  | 0, _, _, _ => rfl
  | f + 1, p, t, sk => by
    rw [e_stS, e_stS, e_stW hc hW f, e_stW hc hW f, e_stW hc hW f, e_stW hc hW f, e_stW hc hW f]
    by_cases q : 0 ≤ p ∧ p < n
    · rw [if_pos q, if_pos q]
      have c := hc p q.1 q.2
      by_cases a : co p % 16 = 1 ∨ co p % 16 = 2
      · rw [if_pos a, if_pos a]
        by_cases b : 50 ≤ t ∨ (co p % 16 = 2 ∧ 17 ≤ co p / 16)
        · rw [if_pos b, if_pos b]
        · rw [if_neg b, if_neg b]
          by_cases d : co p % 16 = 1
          · rw [if_pos d, if_pos d]
          · rw [if_neg d, if_neg d, hW (co p / 16) (by omega) (by omega)]
      · rw [if_neg a, if_neg a]
    · rw [if_neg q, if_neg q]
/-- how great a sum can be -/
theorem e_stB {co W : Int → Int} {n : Int} (hc : e_ok co n) (hW : ∀ i, 0 ≤ i → i < 17 → -1000000 ≤ W i ∧ W i ≤ 1000000) : ∀ (f : Nat) (p t B : Int) (sk : Int → Int) (x : Int), 0 ≤ t → 0 ≤ B → (∀ i, 0 ≤ i → i < t → -1000000000 - B ≤ sk i ∧ sk i ≤ 1000000000 + B) → e_st co n W f p t sk = some x → -1000000000 - B - f ≤ x ∧ x ≤ 1000000000 + B + f
  | 0, _, _, _, _, _, _, _, _, h => by cases h
  | f + 1, p, t, B, sk, x, ht, hB, hs, h => by
    rw [e_stS] at h
    by_cases q : 0 ≤ p ∧ p < n
    · rw [if_pos q] at h
      have c := hc p q.1 q.2
      by_cases a : co p % 16 = 1 ∨ co p % 16 = 2
      · rw [if_pos a] at h
        by_cases b : 50 ≤ t ∨ (co p % 16 = 2 ∧ 17 ≤ co p / 16)
        · rw [if_pos b] at h; cases h
        · rw [if_neg b] at h
          have w : co p % 16 ≠ 1 → -1000000 ≤ W (co p / 16) ∧ W (co p / 16) ≤ 1000000 := fun d => hW (co p / 16) (by omega) (by omega)
          have r := e_stB hc hW f (p + 1) (t + 1) B _ x (by omega) hB (fun i u v => by
            by_cases e : i = t
            · rw [e, cw_up_eq]
              by_cases d : co p % 16 = 1
              · rw [if_pos d]; omega
              · rw [if_neg d]; have := w d; omega
            · rw [cw_up_ne e]; exact hs i u (by omega)) h
          omega
      · rw [if_neg a] at h
        by_cases b : t < 1 ∨ (5 < co p % 16 ∧ t < 2)
        · rw [if_pos b] at h; cases h
        · rw [if_neg b] at h
          have s1 := hs (t - 1) (by omega) (by omega)
          by_cases d0 : co p % 16 = 0
          · rw [if_pos d0] at h
            injection h with h
            omega
          · rw [if_neg d0] at h
            by_cases d3 : co p % 16 = 3
            · rw [if_pos d3] at h
              have r := e_stB hc hW f (p + 1) t (B + 1) _ x ht (by omega) (fun i u v => by
                by_cases e : i = t - 1
                · rw [e, cw_up_eq]; omega
                · rw [cw_up_ne e]; have := hs i u v; omega) h
              omega
            · rw [if_neg d3] at h
              by_cases d4 : (co p % 16 = 4 ∧ sk (t - 1) = 0) ∨ (co p % 16 = 5 ∧ sk (t - 1) ≠ 0)
              · rw [if_pos d4] at h
                have r := e_stB hc hW f (co p / 16) t B _ x ht hB hs h
                omega
              · rw [if_neg d4] at h
                by_cases d5 : co p % 16 = 4 ∨ co p % 16 = 5
                · rw [if_pos d5] at h
                  have r := e_stB hc hW f (p + 1) (t - 1) B _ x (by omega) hB (fun i u v => hs i u (by omega)) h
                  omega
                · rw [if_neg d5] at h
                  by_cases d6 : 1000000000 < e_cb (co p % 16) (sk (t - 2)) (sk (t - 1)) ∨ e_cb (co p % 16) (sk (t - 2)) (sk (t - 1)) < -1000000000
                  · rw [if_pos d6] at h; cases h
                  · rw [if_neg d6] at h
                    have r := e_stB hc hW f (p + 1) (t - 1) B _ x (by omega) hB (fun i u v => by
                      by_cases e : i = t - 2
                      · rw [e, cw_up_eq]; omega
                      · rw [cw_up_ne e]; exact hs i u (by omega)) h
                    omega
    · rw [if_neg q] at h; cases h
/-- a sum of the text, in the words that stand -/
theorem O_D2 {co W E : Int → Int} {sz p : Int} {D : p_D} (hc : e_ok co sz) (hz : 0 ≤ sz ∧ sz ≤ 400) (hW : ∀ i, 0 ≤ i → i < 17 → W i = E i) (hE : ∀ i, 0 ≤ i → i < 17 → -1000000 ≤ E i ∧ E i ≤ 1000000) (hp : e_pt co sz p (some D)) : D W = D E ∧ ∀ x, D E = some x → -2000000000 < x ∧ x < 2000000000 := by
  have a := (e_ptv (sk := fun _ => 0) (W := W) hp).2
  have b := (e_ptv (sk := fun _ => 0) (W := E) hp).2
  refine ⟨by rw [← a, ← b]; exact e_stW hc hW _ _ _ _, fun x q => ?_⟩
  rw [← b] at q
  have r := e_stB hc hE sz.toNat p 0 0 _ x (by decide) (by decide) (fun i u v => by omega) q
  omega
theorem O_ev {d : Nat} {X : cw_M} {Q : Option cw_V → cw_M → Prop} {p : Int} {D : p_D} {Ks : List p_K} (hX : la_ok X) (ht : X_t true X Ks) (hw : ∀ i, 0 ≤ i → i < 17 → -1000000 ≤ X x_orderSums_words_ i ∧ X x_orderSums_words_ i ≤ 1000000) (hp : e_pt (X x_reader_text_code_) (X x_reader_text_ 1) p (some D)) (h : ∀ sk, Q (some (vi ((D (X x_orderSums_words_)).getD (-2000000000)))) (v1_m X sk)) : cw_C (d + 1) k_Su_evaluate [vr x_orderSums_, vr x_reader_text_, vi p] X Q := by
  have e7 : X x_reader_text_ 7 = x_reader_text_code_ := la_get hX (by decide) (by decide) (by decide)
  have hs : v1_m X (X x_orderSums_stack_) = X := v1_m_self
  refine la_go_C0 hs.symm ?_
  refine Su_eval1 hX (T := x_reader_text_) (CA := x_reader_text_code_) (n := X x_reader_text_ 1) (co := X x_reader_text_code_) ⟨by decide, rfl, e7, by decide, ?_, by decide, by decide, fun i => rfl⟩ ht.2.2.1 ht.2.1 hw (fun sk' => ?_)
  · rw [show cw_ln x_reader_text_code_ = 400 by decide]; exact ht.2.2.1.2
  · rw [(e_ptv hp).2]; exact h sk'
def ow_m (m : cw_M) (w : Int → Int) : cw_M := fun c => if c = x_orderSums_words_ then w else m c
theorem ow_m_ne {m : cw_M} {w : Int → Int} {c : Int} (h0 : c ≠ x_orderSums_words_) : ow_m m w c = m c := by
  unfold ow_m; rw [if_neg h0]
theorem ow_m_w {m : cw_M} {w : Int → Int} : ow_m m w x_orderSums_words_ = w := rfl
theorem ow_m_ok {m : cw_M} {w : Int → Int} (hm : la_ok m) : la_ok (ow_m m w) := by
  refine ⟨by rw [ow_m_ne (by decide)]; exact hm.1, fun e he => ?_⟩
  obtain ⟨z1, h2, -, z4⟩ := la_lok e he
  have n0 : e.1 ≠ x_orderSums_words_ := fun q => by rw [q] at h2; revert h2; decide
  rw [ow_m_ne n0 ]; exact hm.2 e he
theorem ow_m_x {m M : cw_M} {w : Int → Int} (r0 : M x_orderSums_words_ = w)   (h : ∀ c, c ≠ x_orderSums_words_ → M c = m c) : M = ow_m m w := by
  funext c
  by_cases h0 : c = x_orderSums_words_
  · rw [h0, r0]; rfl
  rw [h c h0, ow_m_ne h0]
theorem ow_m_rw {m : cw_M} {w : Int → Int} {f : Int → Int} : cw_row (ow_m m w) x_orderSums_words_ f = ow_m m f := by
  refine ow_m_x rfl  (fun c h0 => by rw [cw_row_ne h0, ow_m_ne h0])
theorem ow_m_pw {m : cw_M} {w : Int → Int} {i v : Int} : cw_put (ow_m m w) x_orderSums_words_ i v = ow_m m (cw_up w i v) := by
  rw [cw_put_row, ow_m_rw, ow_m_w]
theorem ow_m_2 {m : cw_M} {w : Int → Int} {w' : Int → Int} : ow_m (ow_m m w) w' = ow_m m w' := by
  refine ow_m_x rfl  (fun c h0 => by rw [ow_m_ne h0, ow_m_ne h0])
theorem ow_m_self {m : cw_M} : ow_m m (m x_orderSums_words_)  = m := by
  refine (ow_m_x rfl  (fun _ _ => rfl)).symm
theorem o_E5 {K : Int → Int} {dn lt k : Int} (h0 : 0 ≤ k) (h1 : k < 6) : ((0 ≤ k ∧ k < K 46 - 1) → K k = o_E K dn lt (5 + k)) ∧ (¬ (0 ≤ k ∧ k < K 46 - 1) → -1 = o_E K dn lt (5 + k)) := by
  unfold o_E
  rw [if_neg (by omega), if_neg (by omega), if_neg (by omega), if_neg (by omega), if_neg (by omega), if_pos (by omega), show 5 + k - 5 = k by omega]
  exact ⟨fun q => by rw [if_pos q], fun q => by rw [if_neg q]⟩
theorem o_E11 {K : Int → Int} {dn lt k : Int} (h0 : 0 ≤ k) (h1 : k < 6) : ((0 ≤ k ∧ k < K 46 - 1) → K (6 + k) = o_E K dn lt (11 + k)) ∧ (¬ (0 ≤ k ∧ k < K 46 - 1) → -1 = o_E K dn lt (11 + k)) := by
  unfold o_E
  rw [if_neg (by omega), if_neg (by omega), if_neg (by omega), if_neg (by omega), if_neg (by omega), if_neg (by omega), show 11 + k - 11 = k by omega]
  exact ⟨fun q => by rw [if_pos q], fun q => by rw [if_neg q]⟩
theorem C_look42 {d : Nat} {X : cw_M} {Q : Option cw_V → cw_M → Prop} {K w : Int → Int} {dn lt : Int} {w3 : cw_V} (hX : la_ok X) (hn : 0 ≤ X x_will_ 0 ∧ X x_will_ 0 ≤ 7) (e0 : X x_will_ 0 = K 46) (emk : ∀ j, 0 ≤ j → j < 6 → X x_will_marks_ j = K j) (ekd : ∀ j, 0 ≤ j → j < 6 → X x_will_kinds_ j = K (6 + j)) (hv0 : ∀ i, 0 ≤ i → i < 5 → w i = o_E K dn lt i) (h : ∀ w, (∀ i, 0 ≤ i → i < 17 → w i = o_E K dn lt i) → Q none (ow_m X w)) : cw_R (d + 9) k_C_lookAround 42 [vr x_, vr x_orderSums_words_, vi 0, w3] [] (ow_m X w) Q := by
  have lp : ∀ (r : Nat) (k : Int) (w : Int → Int) (w3 : cw_V), 6 < k + r → (0 ≤ k ∧ k ≤ 6) → ((∀ i, 0 ≤ i → i < 5 → w i = o_E K dn lt i) ∧ ∀ j, 0 ≤ j → j < k → w (5 + j) = o_E K dn lt (5 + j) ∧ w (11 + j) = o_E K dn lt (11 + j)) → cw_R (d + 9) k_C_lookAround 42 [vr x_, vr x_orderSums_words_, vi k, w3] [] (ow_m X w) Q := by
    intro r
    induction r with
    | zero =>
      intro k w w3 hr hk hv
      omega
    | succ r ih =>
      intro k w w3 hr hk hv
      have hm2 : la_ok (ow_m X w) := ow_m_ok hX
      refine la_go_R hm2 39 [42] ?_
      refine And.intro (fun (c21 : 6 ≤ k) => ?_) (fun (c21 : ¬ (6 ≤ k)) => ?_)
      · show Q none (ow_m X w)
        refine h w (fun i a b => ?_)
        by_cases q : i < 5
        · exact hv.1 i a q
        · by_cases q2 : i < 11
          · have z := (hv.2 (i - 5) (by omega) (by omega)).1
            rw [show 5 + (i - 5) = i by omega] at z
            exact z
          · have z := (hv.2 (i - 11) (by omega) (by omega)).2
            rw [show 11 + (i - 11) = i by omega] at z
            exact z
      · show cw_C _ _ [vr x_will_, vi k] (ow_m X w) _
        refine Wi_hasJoin hm2 hn (fun (aj : 0 ≤ k ∧ k < X x_will_ 0 - 1) => ⟨hm2, ?_⟩) (fun (aj : ¬ (0 ≤ k ∧ k < X x_will_ 0 - 1)) => ⟨hm2, ?_⟩)
        · refine And.intro (show -2147483648 ≤ 5 + k ∧ 5 + k < 2147483648 by omega) ?_
          refine br_f (show ¬ ((1 : Int) = 0) by decide) ?_
          refine And.intro (show 0 ≤ k ∧ k < 6 by omega) ?_
          refine And.intro (show 0 ≤ 5 + k ∧ 5 + k < 17 by omega) ?_
          have hm22 : la_ok (cw_put (ow_m X w) x_orderSums_words_ (5 + k) (X x_will_marks_ k)) := la_put hm2 (by decide) (Or.inr (by decide))
          refine And.intro (show -2147483648 ≤ 11 + k ∧ 11 + k < 2147483648 by omega) ?_
          refine br_f (show ¬ ((1 : Int) = 0) by decide) ?_
          refine And.intro (show 0 ≤ k ∧ k < 6 by omega) ?_
          refine And.intro (show 0 ≤ 11 + k ∧ 11 + k < 17 by omega) ?_
          have hm23 : la_ok (cw_put (cw_put (ow_m X w) x_orderSums_words_ (5 + k) (X x_will_marks_ k)) x_orderSums_words_ (11 + k) (X x_will_kinds_ k)) := la_put hm22 (by decide) (Or.inr (by decide))
          refine And.intro (show -2147483648 ≤ k + 1 ∧ k + 1 < 2147483648 by omega) ?_
          show cw_R _ _ 42 [vr x_, vr x_orderSums_words_, vi (k + 1), vi 1] [] (cw_put (cw_put (ow_m X w) x_orderSums_words_ (5 + k) (X x_will_marks_ k)) x_orderSums_words_ (11 + k) (X x_will_kinds_ k)) _
          rw [ow_m_pw, ow_m_pw]
          have hm24 : la_ok (ow_m X (cw_up (cw_up w (5 + k) (X x_will_marks_ k)) (11 + k) (X x_will_kinds_ k))) := ow_m_ok hX
          refine ih (k + 1) _ _ (by omega) (by omega) ⟨fun i a b => ?_, fun j a b => ?_⟩
          · rw [cw_up_ne (by omega), cw_up_ne (by omega)]; exact hv.1 i a b
          · by_cases e : j = k
            · rw [e]
              refine ⟨?_, ?_⟩
              · rw [cw_up_ne (by omega), show 5 + k = 5 + k from rfl, cw_up_eq, emk k hk.1 (by omega)]
                exact (o_E5 (K := K) (dn := dn) (lt := lt) hk.1 (by omega)).1 (by omega)
              · rw [show 11 + k = 11 + k from rfl, cw_up_eq, ekd k hk.1 (by omega)]
                exact (o_E11 (K := K) (dn := dn) (lt := lt) hk.1 (by omega)).1 (by omega)
            · have z := hv.2 j a (by omega)
              rw [cw_up_ne (by omega), cw_up_ne (by omega), cw_up_ne (by omega), cw_up_ne (by omega)]
              exact z
        · refine And.intro (show -2147483648 ≤ 5 + k ∧ 5 + k < 2147483648 by omega) ?_
          refine br_t (show (0 : Int) = 0 by decide) ?_
          refine And.intro (show 0 ≤ 5 + k ∧ 5 + k < 17 by omega) ?_
          have hm25 : la_ok (cw_put (ow_m X w) x_orderSums_words_ (5 + k) (-1)) := la_put hm2 (by decide) (Or.inr (by decide))
          refine And.intro (show -2147483648 ≤ 11 + k ∧ 11 + k < 2147483648 by omega) ?_
          refine br_t (show (0 : Int) = 0 by decide) ?_
          refine And.intro (show 0 ≤ 11 + k ∧ 11 + k < 17 by omega) ?_
          have hm26 : la_ok (cw_put (cw_put (ow_m X w) x_orderSums_words_ (5 + k) (-1)) x_orderSums_words_ (11 + k) (-1)) := la_put hm25 (by decide) (Or.inr (by decide))
          refine And.intro (show -2147483648 ≤ k + 1 ∧ k + 1 < 2147483648 by omega) ?_
          show cw_R _ _ 42 [vr x_, vr x_orderSums_words_, vi (k + 1), vi 0] [] (cw_put (cw_put (ow_m X w) x_orderSums_words_ (5 + k) (-1)) x_orderSums_words_ (11 + k) (-1)) _
          rw [ow_m_pw, ow_m_pw]
          have hm27 : la_ok (ow_m X (cw_up (cw_up w (5 + k) (-1)) (11 + k) (-1))) := ow_m_ok hX
          refine ih (k + 1) _ _ (by omega) (by omega) ⟨fun i a b => ?_, fun j a b => ?_⟩
          · rw [cw_up_ne (by omega), cw_up_ne (by omega)]; exact hv.1 i a b
          · by_cases e : j = k
            · rw [e]
              refine ⟨?_, ?_⟩
              · rw [cw_up_ne (by omega), cw_up_eq]
                exact (o_E5 (K := K) (dn := dn) (lt := lt) hk.1 (by omega)).2 (by omega)
              · rw [cw_up_eq]
                exact (o_E11 (K := K) (dn := dn) (lt := lt) hk.1 (by omega)).2 (by omega)
            · have z := hv.2 j a (by omega)
              rw [cw_up_ne (by omega), cw_up_ne (by omega), cw_up_ne (by omega), cw_up_ne (by omega)]
              exact z
  exact lp 7 0 w w3 (by omega) (by omega) ⟨hv0, fun j a b => by omega⟩
theorem C_lookAround {d : Nat} {m : cw_M} {Q : Option cw_V → cw_M → Prop} {K L : Int → Int} {un : Int} (hR : O_R m K L un) (hT : ∀ j, 0 ≤ j → j < 7 → m cw_TREES j = t_c j) (h : ∀ X, O_G m X → O_R X K L un → (∀ i, 0 ≤ i → i < 17 → X x_orderSums_words_ i = o_E K (m x_orderSums_words_ 1) (m x_orderSums_words_ 2) i) → Q none X) : cw_C (d + 9) k_C_lookAround [vr x_] m Q := by
  have hm := hR.1
  have hK := hR.2.1.1
  have hW := hR.2.1.2.1
  refine la_go_C hm 19 [26] ?_
  refine And.intro (show 0 ≤ 0 ∧ 0 < 4 by omega) ?_
  refine And.intro (show 0 ≤ 0 ∧ 0 < 17 by omega) ?_
  have hm21 : la_ok (cw_put m x_orderSums_words_ 0 (m x_will_terms_ 0)) := la_put hm (by decide) (Or.inr (by decide))
  show cw_C _ _ [vr x_] (cw_put m x_orderSums_words_ 0 (m x_will_terms_ 0)) _
  have ok0 : la_ok (cw_put m x_orderSums_words_ 0 (m x_will_terms_ 0)) := la_put hm (by decide) (Or.inr (by decide))
  have r0 : O_R (cw_put m x_orderSums_words_ 0 (m x_will_terms_ 0)) K L un := O_Rc hR ok0 (fun c a b => cw_put_ne a)
  refine C_sift (K := K) ok0 (fun i a b => hT i a b) hK.1 r0.2.1.2.1 r0.2.1.2.2.1.1 (fun (X : cw_M) (hX : la_ok X) (hS1 : S_s (cw_put m x_orderSums_words_ 0 (m x_will_terms_ 0)) X) (h18 : X x_ 18 = 0) (hc1 : S_c X K) => ⟨hX, ?_⟩)
  show cw_R _ _ 26 [vr x_, vr x_orderSums_words_, none, none] [vi ((R_K K).length : Int), vi 3, vr x_orderSums_words_] (X) _
  have eF : ∀ c, c ∉ [x_forest_, x_forest_deep_, x_forest_above_, x_forest_list_, x_] → X c = (cw_put m x_orderSums_words_ 0 (m x_will_terms_ 0)) c := fun c a => hS1.1 c (U_n a (by decide)) (U_n a (by decide)) (U_n a (by decide)) (U_n a (by decide)) (U_n a (by decide))
  have xw : X x_orderSums_words_ = (cw_put m x_orderSums_words_ 0 (m x_will_terms_ 0)) x_orderSums_words_ := eF _ (by decide)
  have hWX : W_r X K := W_rV r0.2.1.2.1 (S_sV hS1)
  have e0 : X x_will_ 0 = K 46 := hWX.1
  have hn : 0 ≤ X x_will_ 0 ∧ X x_will_ 0 ≤ 7 := by rw [e0]; exact hK.1
  have hl := hWX.2.2.2.2.1.1
  have lv := hWX.2.2.2.2.1.2
  have hRX : O_R X K L un := ⟨hX, ⟨hK, hWX, Z_cS r0.2.1.2.2.1 hS1 hc1, E_sV r0.2.1.2.2.2 (S_sV hS1)⟩, by rw [eF x_log_ (by decide), eF x_log_what_ (by decide), eF x_log_where_ (by decide), eF x_log_was_ (by decide)]; exact r0.2.2⟩
  have gX : O_G m X := ⟨fun c a b d => by rw [eF c (fun z => a ((show ∀ t ∈ [x_forest_, x_forest_deep_, x_forest_above_, x_forest_list_, x_], t ∈ O_D by decide) c z)), cw_put_ne b], fun j a b => by rw [hS1.2 j a, cw_put_ne (by decide)], fun j a => by rw [eF x_will_ (by decide), cw_put_ne (by decide)]⟩
  refine la_go_R0 ow_m_self.symm ?_
  refine la_go_R (ow_m_ok hX) 13 [42] ?_
  refine And.intro (show 0 ≤ 3 ∧ 3 < 17 by omega) ?_
  have hm21 : la_ok (cw_put (ow_m X (X x_orderSums_words_)) x_orderSums_words_ 3 ((R_K K).length : Int)) := la_put (ow_m_ok hX) (by decide) (Or.inr (by decide))
  show cw_C _ _ [vi (X x_will_ 4)] (cw_put (ow_m X (X x_orderSums_words_)) x_orderSums_words_ 3 ((R_K K).length : Int)) _
  rw [ow_m_pw]
  have hm22 : la_ok (ow_m X (cw_up (X x_orderSums_words_) 3 ((R_K K).length : Int))) := ow_m_ok hX
  refine Ji_bitCount hm22 hl ⟨hm22, ?_⟩
  refine And.intro (show 0 ≤ 4 ∧ 4 < 17 by omega) ?_
  have hm23 : la_ok (cw_put (ow_m X (cw_up (X x_orderSums_words_) 3 ((R_K K).length : Int))) x_orderSums_words_ 4 (b_c (X x_will_ 4))) := la_put hm22 (by decide) (Or.inr (by decide))
  show cw_R _ _ 42 [vr x_, vr x_orderSums_words_, vi 0, none] [] (cw_put (ow_m X (cw_up (X x_orderSums_words_) 3 ((R_K K).length : Int))) x_orderSums_words_ 4 (b_c (X x_will_ 4))) _
  rw [ow_m_pw]
  have hm24 : la_ok (ow_m X (cw_up (cw_up (X x_orderSums_words_) 3 ((R_K K).length : Int)) 4 (b_c (X x_will_ 4)))) := ow_m_ok hX
  refine C_look42 (K := K) (dn := m x_orderSums_words_ 1) (lt := m x_orderSums_words_ 2) hX hn e0 hWX.2.2.2.1 hWX.2.2.1 (fun i a b => ?_) (fun w hw => ?_)
  · rcases (by omega : i = 0 ∨ i = 1 ∨ i = 2 ∨ i = 3 ∨ i = 4) with e | e | e | e | e <;> subst e
    · rw [cw_up_ne (by decide), cw_up_ne (by decide), xw, cw_put_r, cw_up_eq, hW.2.2.2.2.2.1.1]
      rfl
    · rw [cw_up_ne (by decide), cw_up_ne (by decide), xw, cw_put_r, cw_up_ne (by decide)]
      rfl
    · rw [cw_up_ne (by decide), cw_up_ne (by decide), xw, cw_put_r, cw_up_ne (by decide)]
      rfl
    · rw [cw_up_ne (by decide), cw_up_eq]
      rfl
    · rw [cw_up_eq]
      unfold b_c
      rw [lv 0 (by decide) (by decide), lv 1 (by decide) (by decide), lv 2 (by decide) (by decide), lv 3 (by decide) (by decide), lv 4 (by decide) (by decide), lv 5 (by decide) (by decide)]
      rfl
  · have eY : ∀ c, c ≠ x_orderSums_words_ → c ≠ x_orderSums_stack_ → ow_m X w c = X c := fun c a _ => ow_m_ne a
    refine h _ (O_Gt gX (O_Gc eY)) (O_Rc hRX (ow_m_ok hX) eY) hw
