/-! What a law tells, by the class (wip/whole/tools/m113.py). -/
/-- a cell that was made later than all that stand from the start -/
def h_c (c : Int) : Prop := 130023424 ≤ c
/-- a row of numbers, made later, with room -/
def h_a (c n : Int) : Prop := cw_tg c = 40 ∧ n ≤ cw_ln c ∧ h_c c
/-- a law's text -/
def T_l (m : cw_M) (T : Int) (Ks : List p_K) : Prop := (cw_tg T = 8 ∧ h_c T) ∧ ((0 ≤ m T 1 ∧ m T 1 ≤ 400) ∧ m T 0 = Ks.length ∧ Ks.length ≤ 12) ∧ (h_a (m T 2) Ks.length ∧ h_a (m T 3) Ks.length ∧ h_a (m T 5) Ks.length ∧ h_a (m T 7) (m T 1)) ∧ (∃ se re, e_cls false (m (m T 7)) (m T 1) (m (m T 2)) (m (m T 3)) se (m (m T 5)) re Ks) ∧ e_ok (m (m T 7)) (m T 1)
theorem T_le {m M : cw_M} {T : Int} {Ks : List p_K} (h : T_l m T Ks) (hM : ∀ c, h_c c → M c = m c) : T_l M T Ks := by
  obtain ⟨h1, h2, h3, h4, h5⟩ := h
  have e := hM T h1.2
  unfold T_l
  rw [e, hM _ h3.1.2.2, hM _ h3.2.1.2.2, hM _ h3.2.2.1.2.2, hM _ h3.2.2.2.2.2]
  exact ⟨h1, h2, h3, h4, h5⟩
/-- the law of a paper: none, or one that was read -/
def T_o (m : cw_M) (T : Int) (Ks : List p_K) : Prop := (T = 0 ∧ Ks = []) ∨ T_l m T Ks
theorem T_oe {m M : cw_M} {T : Int} {Ks : List p_K} (h : T_o m T Ks) (hM : ∀ c, h_c c → M c = m c) : T_o M T Ks := h.elim Or.inl (fun q => Or.inr (T_le q hM))
theorem l_tl1 {Ks : List p_K} {K : p_K} {h wo : Int} {E : Int → Int} : l_tl (Ks ++ [K]) h wo E = l_st h E (l_tl Ks h wo E) K := by
  unfold l_tl
  rw [List.foldl_append]
  rfl
theorem l_tk {Ks : List p_K} {c : Int} (h0 : 0 ≤ c) (h1 : c < Ks.length) : ∃ K, Ks[c.toNat]? = some K ∧ Ks.take (c + 1).toNat = Ks.take c.toNat ++ [K] := by
  refine ⟨Ks[c.toNat]'(by omega), List.getElem?_eq_getElem (by omega), ?_⟩
  rw [show (c + 1).toNat = c.toNat + 1 by omega, List.take_succ, List.getElem?_eq_getElem (by omega)]
  rfl
theorem e_ptv {co sk W : Int → Int} {sz p : Int} {D : p_D} (h : e_pt co sz p (some D)) : p ≠ -1 ∧ e_st co sz W sz.toNat p 0 sk = D W := by
  obtain ⟨h0, b, l, h1, h2, h3, h4, h5⟩ := h
  exact ⟨by omega, e_fin h1 h2 h0 h5 h4 h3⟩
theorem e_stb {co W : Int → Int} {n : Int} (hW : ∀ i, 0 ≤ i → i < 17 → -1000000 ≤ W i ∧ W i ≤ 1000000) (hco : e_ok co n) {x : Int} : ∀ (f : Nat) (p t : Int) (sk : Int → Int) (B : Int), 1000000000 ≤ B → (∀ i, 0 ≤ i → i < t → -B ≤ sk i ∧ sk i ≤ B) → e_st co n W f p t sk = some x → -(B + f) ≤ x ∧ x ≤ B + f
  | 0, p, t, sk, B, hB, hs, h => by cases h
  | f + 1, p, t, sk, B, hB, hs, h => by
    rw [e_stS] at h
    have ih := e_stb hW hco (x := x) f
    by_cases q0 : 0 ≤ p ∧ p < n
    · rw [if_pos q0] at h
      have hc := hco p q0.1 q0.2
      by_cases q1 : co p % 16 = 1 ∨ co p % 16 = 2
      · rw [if_pos q1] at h
        by_cases q2 : 50 ≤ t ∨ (co p % 16 = 2 ∧ 17 ≤ co p / 16)
        · rw [if_pos q2] at h; cases h
        rw [if_neg q2] at h
        have := ih _ _ _ B hB (fun i a b => by
          by_cases e : i = t
          · rw [e, cw_up_eq]
            by_cases q3 : co p % 16 = 1
            · rw [if_pos q3]; omega
            · rw [if_neg q3]; have := hW (co p / 16) (by omega) (by omega); omega
          · rw [cw_up_ne e]; exact hs i a (by omega)) h
        omega
      rw [if_neg q1] at h
      by_cases q2 : t < 1 ∨ (5 < co p % 16 ∧ t < 2)
      · rw [if_pos q2] at h; cases h
      rw [if_neg q2] at h
      have h1 := hs (t - 1) (by omega) (by omega)
      by_cases q3 : co p % 16 = 0
      · rw [if_pos q3] at h
        injection h with h
        omega
      rw [if_neg q3] at h
      by_cases q4 : co p % 16 = 3
      · rw [if_pos q4] at h
        have := ih _ _ _ (B + 1) (by omega) (fun i a b => by
          by_cases e : i = t - 1
          · rw [e, cw_up_eq]; omega
          · rw [cw_up_ne e]; have := hs i a b; omega) h
        omega
      rw [if_neg q4] at h
      by_cases q5 : (co p % 16 = 4 ∧ sk (t - 1) = 0) ∨ (co p % 16 = 5 ∧ sk (t - 1) ≠ 0)
      · rw [if_pos q5] at h
        have := ih _ _ _ B hB hs h
        omega
      rw [if_neg q5] at h
      by_cases q6 : co p % 16 = 4 ∨ co p % 16 = 5
      · rw [if_pos q6] at h
        have := ih _ _ _ B hB (fun i a b => hs i a (by omega)) h
        omega
      rw [if_neg q6] at h
      by_cases q7 : 1000000000 < e_cb (co p % 16) (sk (t - 2)) (sk (t - 1)) ∨ e_cb (co p % 16) (sk (t - 2)) (sk (t - 1)) < -1000000000
      · rw [if_pos q7] at h; cases h
      rw [if_neg q7] at h
      have := ih _ _ _ B hB (fun i a b => by
        by_cases e : i = t - 2
        · rw [e, cw_up_eq]; omega
        · rw [cw_up_ne e]; exact hs i a (by omega)) h
      omega
    · rw [if_neg q0] at h; cases h
theorem Pa_ev2 {d : Nat} {m : cw_M} {Q : Option cw_V → cw_M → Prop} (hm : la_ok m) {T p : Int} {Ks : List p_K} {sk : Int → Int} {D : Option p_D} (hT : T_l m T Ks) (hW : ∀ i, 0 ≤ i → i < 17 → -1000000 ≤ m x_ledger_paper_sums_words_ i ∧ m x_ledger_paper_sums_words_ i ≤ 1000000) (hp : e_pt (m (m T 7)) (m T 1) p D) (hne : p ≠ -1) (hQ : ∀ y sk', y = ((D.getD (fun _ => none)) (m x_ledger_paper_sums_words_)).getD (-2000000000) → (y = -2000000000 → (D.getD (fun _ => none)) (m x_ledger_paper_sums_words_) = none) → Q (some (vi y)) (v2_m m sk')) : cw_C (d + 1) k_Su_evaluate [vr x_ledger_paper_sums_, vr T, vi p] (v2_m m sk) Q := by
  cases D with
  | none => exact absurd hp hne
  | some D =>
    obtain ⟨h1, h2, h3, h4, h5⟩ := hT
    refine Su_eval2 hm (T := T) (CA := m T 7) (n := m T 1) (co := m (m T 7)) ⟨h1.1, rfl, rfl, h3.2.2.2.1, h3.2.2.2.2.1, ?_, ?_, fun i => rfl⟩ h2.1 h5 hW (fun sk' => ?_)
    · intro q; have := h1.2; rw [q] at this; exact absurd this (by unfold h_c; decide)
    · intro q; have := h3.2.2.2.2.2; rw [q] at this; exact absurd this (by unfold h_c; decide)
    · have ev := e_ptv (sk := sk) (W := (m x_ledger_paper_sums_words_)) hp
      rw [ev.2]
      refine hQ _ sk' rfl (fun q => ?_)
      show D (m x_ledger_paper_sums_words_) = none
      cases hx : D (m x_ledger_paper_sums_words_) with
      | none => rfl
      | some x =>
        have b := e_stb hW h5 (x := x) _ _ 0 sk 1000000000 (by decide) (fun i a b => by omega) (ev.2.trans hx)
        rw [hx] at q
        have q2 : x = -2000000000 := q
        omega
theorem Pa_tells2 {d : Nat} {m : cw_M} {Q : Option cw_V → cw_M → Prop} (hm : la_ok m) {h wo : Int} {sk : Int → Int} {Ks : List p_K} (hT : T_o m (m x_ledger_paper_ 7) Ks) (hW : ∀ i, 0 ≤ i → i < 17 → -1000000 ≤ m x_ledger_paper_sums_words_ i ∧ m x_ledger_paper_sums_words_ i ≤ 1000000) (hQ : ∀ sk', Q (some (vi (l_tl Ks h wo (m x_ledger_paper_sums_words_)))) (v2_m m sk')) : cw_C (d + 2) k_Pa_lawTells [vr x_ledger_paper_, vi h, vi wo] (v2_m m sk) Q := by
  rcases hT with hT | hT
  · skip
    refine la_go_CV (v2_m_ok hm) 8 [] [] ?_
    refine br_f (show ¬ (m x_ledger_paper_ 7 ≠ 0) by exact fun q => q hT.1) ?_
    show Q (some (vi wo)) (v2_m m sk)
    rw [hT.2] at hQ
    exact hQ _
  have hcT := hT.1.2
  have a2 := hT.2.2.1.1
  have a3 := hT.2.2.1.2.1
  have a5 := hT.2.2.1.2.2.1
  have t8 := hT.1.1
  have tn := hT.2.1.2.1
  have tl := hT.2.1.2.2
  have vt : ∀ (sk : Int → Int) (c : Int), h_c c → v2_m m sk c = m c := fun sk c q => v2_m_ne (fun e => by rw [e] at q; exact absurd q (by unfold h_c; decide))
  have eT : ∀ sk, v2_m m sk (m x_ledger_paper_ 7) = m (m x_ledger_paper_ 7) := fun sk => vt sk _ hcT
  have e2 : ∀ {c : Int} (sk : Int → Int), (v2_m m sk) ((v2_m m sk) (m x_ledger_paper_ 7) 2) c = m (m (m x_ledger_paper_ 7) 2) c := fun {c} sk => by rw [eT, vt _ _ a2.2.2]
  have e3 : ∀ {c : Int} (sk : Int → Int), (v2_m m sk) ((v2_m m sk) (m x_ledger_paper_ 7) 3) c = m (m (m x_ledger_paper_ 7) 3) c := fun {c} sk => by rw [eT, vt _ _ a3.2.2]
  have e5 : ∀ {c : Int} (sk : Int → Int), (v2_m m sk) ((v2_m m sk) (m x_ledger_paper_ 7) 5) c = m (m (m x_ledger_paper_ 7) 5) c := fun {c} sk => by rw [eT, vt _ _ a5.2.2]
  obtain ⟨se, re, hcl⟩ := hT.2.2.2.1
  have z0 : ∀ (c : Int) (sk : Int → Int) (w4 : cw_V), c = -1 → l_tl (Ks.take (c + 1).toNat) h wo (m x_ledger_paper_sums_words_) = l_tl Ks h wo (m x_ledger_paper_sums_words_) → cw_R (d + 2) k_Pa_lawTells 19 [vr x_ledger_paper_, vi h, vi wo, vi c, w4] [] (v2_m m sk) Q := by
    intro c sk w4 hc hR
    refine la_go_RV (v2_m_ok hm) 4 [] [19] ?_
    refine br_t (show c < 0 by omega) ?_
    show Q (some (vi wo)) (v2_m m sk)
    rw [show (c + 1).toNat = 0 by omega] at hR
    have hQ2 := hQ sk
    rw [← hR] at hQ2
    exact hQ2
  have lp : ∀ (r : Nat) (c : Int) (sk : Int → Int) (w4 : cw_V), c < r → (-1 ≤ c) → (c < Ks.length) → (l_tl (Ks.take (c + 1).toNat) h wo (m x_ledger_paper_sums_words_) = l_tl Ks h wo (m x_ledger_paper_sums_words_)) → cw_R (d + 2) k_Pa_lawTells 19 [vr x_ledger_paper_, vi h, vi wo, vi c, w4] [] (v2_m m sk) Q := by
    intro r
    induction r with
    | zero =>
      intro c sk w4 hr hc hcn hR
      exact z0 c sk w4 (by omega) hR
    | succ r ih =>
      intro c sk w4 hr hc hcn hR
      by_cases hc0 : c < 0
      · refine la_go_RV (v2_m_ok hm) 4 [] [19] ?_
        refine br_t (show c < 0 by omega) ?_
        show Q (some (vi wo)) (v2_m m sk)
        rw [show (c + 1).toNat = 0 by omega] at hR
        have hQ2 := hQ sk
        rw [← hR] at hQ2
        exact hQ2
      obtain ⟨K, hK1, hK2⟩ := l_tk (Ks := Ks) (c := c) (by omega) (by omega)
      have kc := hcl c.toNat K hK1
      rw [show ((c.toNat : Nat) : Int) = c by omega] at kc
      have k1 := kc.1
      have k5 := kc.2.2.2.2
      have kA : K.1 ≠ 2 → e_pt (m (m (m x_ledger_paper_ 7) 7)) (m (m x_ledger_paper_ 7) 1) (m (m (m x_ledger_paper_ 7) 3) c) (some K.2.1) := fun q => by have := kc.2.2.1; unfold p_A at this; rw [if_neg (by decide), if_neg q] at this; exact this
      refine la_go_RV (v2_m_ok hm) 54 [27, 31, 40, 44, 61, 65, 94, 98] [19] ?_
      refine br_f (show ¬ (c < 0) by omega) ?_
      refine And.intro (show cw_tg (m x_ledger_paper_ 7) = 8 by assumption) ?_
      refine And.intro (show cw_tg ((v2_m m sk) (m x_ledger_paper_ 7) 2) = 40 ∧ 0 ≤ c ∧ c < cw_ln ((v2_m m sk) (m x_ledger_paper_ 7) 2) by rw [eT sk]; exact ⟨a2.1, by omega, by have := a2.2.1; omega⟩) ?_
      refine And.intro (fun (c21 : (v2_m m sk) ((v2_m m sk) (m x_ledger_paper_ 7) 2) c ≠ h) => ?_) (fun (c21 : ¬ ((v2_m m sk) ((v2_m m sk) (m x_ledger_paper_ 7) 2) c ≠ h)) => ?_)
      · refine And.intro (show -2147483648 ≤ c + (-1) ∧ c + (-1) < 2147483648 by omega) ?_
        show cw_R _ _ 19 [vr x_ledger_paper_, vi h, vi wo, vi (c + (-1)), w4] [] (v2_m m sk) _
        have el : l_st h (m x_ledger_paper_sums_words_) (l_tl (Ks.take c.toNat) h wo (m x_ledger_paper_sums_words_)) K = l_tl (Ks.take c.toNat) h wo (m x_ledger_paper_sums_words_) := by
          refine l_st0 (fun q => ?_)
          have z := q.1
          have z2 := e2 (c := c) sk
          omega
        rw [hK2, l_tl1, el] at hR
        exact ih (c + (-1)) sk w4 (by omega) (by omega) (by omega) (by rw [show c + (-1) + 1 = c by omega]; exact hR)
      · refine And.intro (show cw_tg (m x_ledger_paper_ 7) = 8 by assumption) ?_
        refine And.intro (show cw_tg ((v2_m m sk) (m x_ledger_paper_ 7) 5) = 40 ∧ 0 ≤ c ∧ c < cw_ln ((v2_m m sk) (m x_ledger_paper_ 7) 5) by rw [eT sk]; exact ⟨a5.1, by omega, by have := a5.2.1; omega⟩) ?_
        refine And.intro (fun (c22 : (v2_m m sk) ((v2_m m sk) (m x_ledger_paper_ 7) 5) c = (-1)) => ?_) (fun (c22 : ¬ ((v2_m m sk) ((v2_m m sk) (m x_ledger_paper_ 7) 5) c = (-1))) => ?_)
        · refine And.intro (fun (c23 : h ≠ 2) => ?_) (fun (c23 : ¬ (h ≠ 2)) => ?_)
          · refine And.intro (show cw_tg (m x_ledger_paper_ 7) = 8 by assumption) ?_
            refine And.intro (show cw_tg ((v2_m m sk) (m x_ledger_paper_ 7) 3) = 40 ∧ 0 ≤ c ∧ c < cw_ln ((v2_m m sk) (m x_ledger_paper_ 7) 3) by rw [eT sk]; exact ⟨a3.1, by omega, by have := a3.2.1; omega⟩) ?_
            show cw_C _ _ [vr x_ledger_paper_sums_, vr (m x_ledger_paper_ 7), vi ((v2_m m sk) ((v2_m m sk) (m x_ledger_paper_ 7) 3) c)] (v2_m m sk) _
            refine Pa_ev2 hm (T := (m x_ledger_paper_ 7)) hT hW (D := some K.2.1) (by rw [e3 sk]; exact kA (by have := e2 (c := c) sk; omega)) (by rw [e3 sk]; have := (kA (by have := e2 (c := c) sk; omega)).1; omega) (fun (y2 : Int) (sk2 : Int → Int) (y2e : y2 = ((some K.2.1).getD (fun _ => none) (m x_ledger_paper_sums_words_)).getD (-2000000000)) (y2n : y2 = -2000000000 → (some K.2.1).getD (fun _ => none) (m x_ledger_paper_sums_words_) = none) => ⟨(v2_m_ok hm), ?_⟩)
            refine And.intro (fun (c24 : y2 = (-2000000000)) => ?_) (fun (c24 : ¬ (y2 = (-2000000000))) => ?_)
            · refine And.intro (show -2147483648 ≤ c + (-1) ∧ c + (-1) < 2147483648 by omega) ?_
              show cw_R _ _ 19 [vr x_ledger_paper_, vi h, vi wo, vi (c + (-1)), vi y2] [] (v2_m m sk2) _
              have el : l_st h (m x_ledger_paper_sums_words_) (l_tl (Ks.take c.toNat) h wo (m x_ledger_paper_sums_words_)) K = l_tl (Ks.take c.toNat) h wo (m x_ledger_paper_sums_words_) := by
                refine l_st0 (fun q => ?_)
                refine q.2.2 ?_
                unfold k_vl2
                rw [if_neg (by have := e2 (c := c) sk; omega)]
                exact y2n (by omega)
              rw [hK2, l_tl1, el] at hR
              exact ih (c + (-1)) sk2 (vi y2) (by omega) (by omega) (by omega) (by rw [show c + (-1) + 1 = c by omega]; exact hR)
            · show cw_C _ _ [vi 100, vi y2] (v2_m m sk2) _
              refine Jm_min ⟨(v2_m_ok hm), ?_⟩
              show cw_C _ _ [vi 0, vi (min 100 y2)] (v2_m m sk2) _
              refine Jm_max ⟨(v2_m_ok hm), ?_⟩
              show Q (some (vi (max 0 (min 100 y2)))) (v2_m m sk2)
              have hd : k_hd K.2.2.2.2 (m x_ledger_paper_sums_words_) := by
                intro t ht
                first
                | (rw [ht] at k5; have z := e5 (c := c) sk; have z1 := k5.1; exfalso; omega)
                | (rw [ht] at y1e; have z : y1 = (t (m x_ledger_paper_sums_words_)).getD (-2000000000) := y1e; cases ht2 : t (m x_ledger_paper_sums_words_) with | none => (rw [ht2] at z; have z2 : y1 = -2000000000 := z; exfalso; omega) | some x => (rw [ht2] at z; have z2 : y1 = x := z; rw [show x = 1 by omega]))
              have vl : k_vl2 K (m x_ledger_paper_sums_words_) = some y2 := by
                unfold k_vl2
                rw [if_neg (by have := e2 (c := c) sk; omega)]
                have z : y2 = (K.2.1 (m x_ledger_paper_sums_words_)).getD (-2000000000) := y2e
                cases hx : K.2.1 (m x_ledger_paper_sums_words_) with
                | none => rw [hx] at z; have z2 : y2 = -2000000000 := z; exfalso; omega
                | some x => rw [hx] at z; rw [z]; rfl
              have el := l_st1 (a := l_tl (Ks.take c.toNat) h wo (m x_ledger_paper_sums_words_)) (h := h) (by have := e2 (c := c) sk; omega) hd vl
              rw [hK2, l_tl1, el] at hR
              have hQ2 := hQ sk2
              rw [← hR] at hQ2
              exact hQ2
          · refine br_f (show ¬ ((1 : Int) = (-2000000000)) by decide) ?_
            show cw_C _ _ [vi 100, vi 1] (v2_m m sk) _
            refine Jm_min ⟨(v2_m_ok hm), ?_⟩
            show cw_C _ _ [vi 0, vi (min 100 1)] (v2_m m sk) _
            refine Jm_max ⟨(v2_m_ok hm), ?_⟩
            show Q (some (vi (max 0 (min 100 1)))) (v2_m m sk)
            have hd : k_hd K.2.2.2.2 (m x_ledger_paper_sums_words_) := by
              intro t ht
              first
              | (rw [ht] at k5; have z := e5 (c := c) sk; have z1 := k5.1; exfalso; omega)
              | (rw [ht] at y1e; have z : y1 = (t (m x_ledger_paper_sums_words_)).getD (-2000000000) := y1e; cases ht2 : t (m x_ledger_paper_sums_words_) with | none => (rw [ht2] at z; have z2 : y1 = -2000000000 := z; exfalso; omega) | some x => (rw [ht2] at z; have z2 : y1 = x := z; rw [show x = 1 by omega]))
            have vl : k_vl2 K (m x_ledger_paper_sums_words_) = some 1 := by unfold k_vl2; rw [if_pos (by have := e2 (c := c) sk; omega)]
            have el := l_st1 (a := l_tl (Ks.take c.toNat) h wo (m x_ledger_paper_sums_words_)) (h := h) (by have := e2 (c := c) sk; omega) hd vl
            rw [hK2, l_tl1, el] at hR
            have hQ2 := hQ sk
            rw [← hR] at hQ2
            exact hQ2
        · refine And.intro (show cw_tg (m x_ledger_paper_ 7) = 8 by assumption) ?_
          refine And.intro (show cw_tg ((v2_m m sk) (m x_ledger_paper_ 7) 5) = 40 ∧ 0 ≤ c ∧ c < cw_ln ((v2_m m sk) (m x_ledger_paper_ 7) 5) by rw [eT sk]; exact ⟨a5.1, by omega, by have := a5.2.1; omega⟩) ?_
          show cw_C _ _ [vr x_ledger_paper_sums_, vr (m x_ledger_paper_ 7), vi ((v2_m m sk) ((v2_m m sk) (m x_ledger_paper_ 7) 5) c)] (v2_m m sk) _
          refine Pa_ev2 hm (T := (m x_ledger_paper_ 7)) hT hW (D := K.2.2.2.2) (by rw [e5 sk]; exact k5) (by have := e5 (c := c) sk; omega) (fun (y1 : Int) (sk1 : Int → Int) (y1e : y1 = ((K.2.2.2.2).getD (fun _ => none) (m x_ledger_paper_sums_words_)).getD (-2000000000)) (y1n : y1 = -2000000000 → (K.2.2.2.2).getD (fun _ => none) (m x_ledger_paper_sums_words_) = none) => ⟨(v2_m_ok hm), ?_⟩)
          refine And.intro (fun (c25 : y1 ≠ 1) => ?_) (fun (c25 : ¬ (y1 ≠ 1)) => ?_)
          · refine And.intro (show -2147483648 ≤ c + (-1) ∧ c + (-1) < 2147483648 by omega) ?_
            show cw_R _ _ 19 [vr x_ledger_paper_, vi h, vi wo, vi (c + (-1)), w4] [] (v2_m m sk1) _
            have el : l_st h (m x_ledger_paper_sums_words_) (l_tl (Ks.take c.toNat) h wo (m x_ledger_paper_sums_words_)) K = l_tl (Ks.take c.toNat) h wo (m x_ledger_paper_sums_words_) := by
              refine l_st0 (fun q => ?_)
              obtain ⟨t, ht⟩ : ∃ t, K.2.2.2.2 = some t := by
                cases hq : K.2.2.2.2 with
                | none => rw [hq] at k5; have z2 := e5 (c := c) sk; have z : m (m (m x_ledger_paper_ 7) 5) c = -1 := k5; omega
                | some t => exact ⟨t, rfl⟩
              have z := q.2.1 t ht
              rw [ht] at y1e
              have z2 : y1 = (t (m x_ledger_paper_sums_words_)).getD (-2000000000) := y1e
              rw [z] at z2
              have z3 : y1 = 1 := z2
              omega
            rw [hK2, l_tl1, el] at hR
            exact ih (c + (-1)) sk1 w4 (by omega) (by omega) (by omega) (by rw [show c + (-1) + 1 = c by omega]; exact hR)
          · refine And.intro (fun (c26 : h ≠ 2) => ?_) (fun (c26 : ¬ (h ≠ 2)) => ?_)
            · refine And.intro (show cw_tg (m x_ledger_paper_ 7) = 8 by assumption) ?_
              refine And.intro (show cw_tg ((v2_m m sk1) (m x_ledger_paper_ 7) 3) = 40 ∧ 0 ≤ c ∧ c < cw_ln ((v2_m m sk1) (m x_ledger_paper_ 7) 3) by rw [eT sk1]; exact ⟨a3.1, by omega, by have := a3.2.1; omega⟩) ?_
              show cw_C _ _ [vr x_ledger_paper_sums_, vr (m x_ledger_paper_ 7), vi ((v2_m m sk1) ((v2_m m sk1) (m x_ledger_paper_ 7) 3) c)] (v2_m m sk1) _
              refine Pa_ev2 hm (T := (m x_ledger_paper_ 7)) hT hW (D := some K.2.1) (by rw [e3 sk1]; exact kA (by have := e2 (c := c) sk; omega)) (by rw [e3 sk1]; have := (kA (by have := e2 (c := c) sk; omega)).1; omega) (fun (y2 : Int) (sk2 : Int → Int) (y2e : y2 = ((some K.2.1).getD (fun _ => none) (m x_ledger_paper_sums_words_)).getD (-2000000000)) (y2n : y2 = -2000000000 → (some K.2.1).getD (fun _ => none) (m x_ledger_paper_sums_words_) = none) => ⟨(v2_m_ok hm), ?_⟩)
              refine And.intro (fun (c27 : y2 = (-2000000000)) => ?_) (fun (c27 : ¬ (y2 = (-2000000000))) => ?_)
              · refine And.intro (show -2147483648 ≤ c + (-1) ∧ c + (-1) < 2147483648 by omega) ?_
                show cw_R _ _ 19 [vr x_ledger_paper_, vi h, vi wo, vi (c + (-1)), vi y2] [] (v2_m m sk2) _
                have el : l_st h (m x_ledger_paper_sums_words_) (l_tl (Ks.take c.toNat) h wo (m x_ledger_paper_sums_words_)) K = l_tl (Ks.take c.toNat) h wo (m x_ledger_paper_sums_words_) := by
                  refine l_st0 (fun q => ?_)
                  refine q.2.2 ?_
                  unfold k_vl2
                  rw [if_neg (by have := e2 (c := c) sk; omega)]
                  exact y2n (by omega)
                rw [hK2, l_tl1, el] at hR
                exact ih (c + (-1)) sk2 (vi y2) (by omega) (by omega) (by omega) (by rw [show c + (-1) + 1 = c by omega]; exact hR)
              · show cw_C _ _ [vi 100, vi y2] (v2_m m sk2) _
                refine Jm_min ⟨(v2_m_ok hm), ?_⟩
                show cw_C _ _ [vi 0, vi (min 100 y2)] (v2_m m sk2) _
                refine Jm_max ⟨(v2_m_ok hm), ?_⟩
                show Q (some (vi (max 0 (min 100 y2)))) (v2_m m sk2)
                have hd : k_hd K.2.2.2.2 (m x_ledger_paper_sums_words_) := by
                  intro t ht
                  first
                  | (rw [ht] at k5; have z := e5 (c := c) sk; have z1 := k5.1; exfalso; omega)
                  | (rw [ht] at y1e; have z : y1 = (t (m x_ledger_paper_sums_words_)).getD (-2000000000) := y1e; cases ht2 : t (m x_ledger_paper_sums_words_) with | none => (rw [ht2] at z; have z2 : y1 = -2000000000 := z; exfalso; omega) | some x => (rw [ht2] at z; have z2 : y1 = x := z; rw [show x = 1 by omega]))
                have vl : k_vl2 K (m x_ledger_paper_sums_words_) = some y2 := by
                  unfold k_vl2
                  rw [if_neg (by have := e2 (c := c) sk; omega)]
                  have z : y2 = (K.2.1 (m x_ledger_paper_sums_words_)).getD (-2000000000) := y2e
                  cases hx : K.2.1 (m x_ledger_paper_sums_words_) with
                  | none => rw [hx] at z; have z2 : y2 = -2000000000 := z; exfalso; omega
                  | some x => rw [hx] at z; rw [z]; rfl
                have el := l_st1 (a := l_tl (Ks.take c.toNat) h wo (m x_ledger_paper_sums_words_)) (h := h) (by have := e2 (c := c) sk; omega) hd vl
                rw [hK2, l_tl1, el] at hR
                have hQ2 := hQ sk2
                rw [← hR] at hQ2
                exact hQ2
            · refine br_f (show ¬ ((1 : Int) = (-2000000000)) by decide) ?_
              show cw_C _ _ [vi 100, vi 1] (v2_m m sk1) _
              refine Jm_min ⟨(v2_m_ok hm), ?_⟩
              show cw_C _ _ [vi 0, vi (min 100 1)] (v2_m m sk1) _
              refine Jm_max ⟨(v2_m_ok hm), ?_⟩
              show Q (some (vi (max 0 (min 100 1)))) (v2_m m sk1)
              have hd : k_hd K.2.2.2.2 (m x_ledger_paper_sums_words_) := by
                intro t ht
                first
                | (rw [ht] at k5; have z := e5 (c := c) sk; have z1 := k5.1; exfalso; omega)
                | (rw [ht] at y1e; have z : y1 = (t (m x_ledger_paper_sums_words_)).getD (-2000000000) := y1e; cases ht2 : t (m x_ledger_paper_sums_words_) with | none => (rw [ht2] at z; have z2 : y1 = -2000000000 := z; exfalso; omega) | some x => (rw [ht2] at z; have z2 : y1 = x := z; rw [show x = 1 by omega]))
              have vl : k_vl2 K (m x_ledger_paper_sums_words_) = some 1 := by unfold k_vl2; rw [if_pos (by have := e2 (c := c) sk; omega)]
              have el := l_st1 (a := l_tl (Ks.take c.toNat) h wo (m x_ledger_paper_sums_words_)) (h := h) (by have := e2 (c := c) sk; omega) hd vl
              rw [hK2, l_tl1, el] at hR
              have hQ2 := hQ sk1
              rw [← hR] at hQ2
              exact hQ2
  refine la_go_CV (v2_m_ok hm) 12 [13] [19] ?_
  refine br_t (show m x_ledger_paper_ 7 ≠ 0 by intro q; rw [q] at t8; exact absurd t8 (by decide)) ?_
  refine And.intro (show cw_tg (m x_ledger_paper_ 7) = 8 by assumption) ?_
  refine And.intro (show -2147483648 ≤ ((v2_m m sk) (m x_ledger_paper_ 7) 0) - 1 ∧ ((v2_m m sk) (m x_ledger_paper_ 7) 0) - 1 < 2147483648 by rw [eT sk, tn]; omega) ?_
  show cw_R _ _ 19 [vr x_ledger_paper_, vi h, vi wo, vi (((v2_m m sk) (m x_ledger_paper_ 7) 0) - 1), none] [] (v2_m m sk) _
  rw [eT sk, tn]
  exact lp (Ks.length + 1) _ sk _ (by omega) (by omega) (by omega) (by rw [show (Ks.length : Int) - 1 + 1 = Ks.length by omega, Int.toNat_natCast, List.take_length])
theorem Pa_ev3 {d : Nat} {m : cw_M} {Q : Option cw_V → cw_M → Prop} (hm : la_ok m) {T p : Int} {Ks : List p_K} {sk : Int → Int} {D : Option p_D} (hT : T_l m T Ks) (hW : ∀ i, 0 ≤ i → i < 17 → -1000000 ≤ m x_paper_sums_words_ i ∧ m x_paper_sums_words_ i ≤ 1000000) (hp : e_pt (m (m T 7)) (m T 1) p D) (hne : p ≠ -1) (hQ : ∀ y sk', y = ((D.getD (fun _ => none)) (m x_paper_sums_words_)).getD (-2000000000) → (y = -2000000000 → (D.getD (fun _ => none)) (m x_paper_sums_words_) = none) → Q (some (vi y)) (v3_m m sk')) : cw_C (d + 1) k_Su_evaluate [vr x_paper_sums_, vr T, vi p] (v3_m m sk) Q := by
  cases D with
  | none => exact absurd hp hne
  | some D =>
    obtain ⟨h1, h2, h3, h4, h5⟩ := hT
    refine Su_eval3 hm (T := T) (CA := m T 7) (n := m T 1) (co := m (m T 7)) ⟨h1.1, rfl, rfl, h3.2.2.2.1, h3.2.2.2.2.1, ?_, ?_, fun i => rfl⟩ h2.1 h5 hW (fun sk' => ?_)
    · intro q; have := h1.2; rw [q] at this; exact absurd this (by unfold h_c; decide)
    · intro q; have := h3.2.2.2.2.2; rw [q] at this; exact absurd this (by unfold h_c; decide)
    · have ev := e_ptv (sk := sk) (W := (m x_paper_sums_words_)) hp
      rw [ev.2]
      refine hQ _ sk' rfl (fun q => ?_)
      show D (m x_paper_sums_words_) = none
      cases hx : D (m x_paper_sums_words_) with
      | none => rfl
      | some x =>
        have b := e_stb hW h5 (x := x) _ _ 0 sk 1000000000 (by decide) (fun i a b => by omega) (ev.2.trans hx)
        rw [hx] at q
        have q2 : x = -2000000000 := q
        omega
theorem Pa_tells3 {d : Nat} {m : cw_M} {Q : Option cw_V → cw_M → Prop} (hm : la_ok m) {h wo : Int} {sk : Int → Int} {Ks : List p_K} (hT : T_o m (m x_paper_ 7) Ks) (hW : ∀ i, 0 ≤ i → i < 17 → -1000000 ≤ m x_paper_sums_words_ i ∧ m x_paper_sums_words_ i ≤ 1000000) (hQ : ∀ sk', Q (some (vi (l_tl Ks h wo (m x_paper_sums_words_)))) (v3_m m sk')) : cw_C (d + 2) k_Pa_lawTells [vr x_paper_, vi h, vi wo] (v3_m m sk) Q := by
  rcases hT with hT | hT
  · skip
    refine la_go_CV (v3_m_ok hm) 8 [] [] ?_
    refine br_f (show ¬ (m x_paper_ 7 ≠ 0) by exact fun q => q hT.1) ?_
    show Q (some (vi wo)) (v3_m m sk)
    rw [hT.2] at hQ
    exact hQ _
  have hcT := hT.1.2
  have a2 := hT.2.2.1.1
  have a3 := hT.2.2.1.2.1
  have a5 := hT.2.2.1.2.2.1
  have t8 := hT.1.1
  have tn := hT.2.1.2.1
  have tl := hT.2.1.2.2
  have vt : ∀ (sk : Int → Int) (c : Int), h_c c → v3_m m sk c = m c := fun sk c q => v3_m_ne (fun e => by rw [e] at q; exact absurd q (by unfold h_c; decide))
  have eT : ∀ sk, v3_m m sk (m x_paper_ 7) = m (m x_paper_ 7) := fun sk => vt sk _ hcT
  have e2 : ∀ {c : Int} (sk : Int → Int), (v3_m m sk) ((v3_m m sk) (m x_paper_ 7) 2) c = m (m (m x_paper_ 7) 2) c := fun {c} sk => by rw [eT, vt _ _ a2.2.2]
  have e3 : ∀ {c : Int} (sk : Int → Int), (v3_m m sk) ((v3_m m sk) (m x_paper_ 7) 3) c = m (m (m x_paper_ 7) 3) c := fun {c} sk => by rw [eT, vt _ _ a3.2.2]
  have e5 : ∀ {c : Int} (sk : Int → Int), (v3_m m sk) ((v3_m m sk) (m x_paper_ 7) 5) c = m (m (m x_paper_ 7) 5) c := fun {c} sk => by rw [eT, vt _ _ a5.2.2]
  obtain ⟨se, re, hcl⟩ := hT.2.2.2.1
  have z0 : ∀ (c : Int) (sk : Int → Int) (w4 : cw_V), c = -1 → l_tl (Ks.take (c + 1).toNat) h wo (m x_paper_sums_words_) = l_tl Ks h wo (m x_paper_sums_words_) → cw_R (d + 2) k_Pa_lawTells 19 [vr x_paper_, vi h, vi wo, vi c, w4] [] (v3_m m sk) Q := by
    intro c sk w4 hc hR
    refine la_go_RV (v3_m_ok hm) 4 [] [19] ?_
    refine br_t (show c < 0 by omega) ?_
    show Q (some (vi wo)) (v3_m m sk)
    rw [show (c + 1).toNat = 0 by omega] at hR
    have hQ2 := hQ sk
    rw [← hR] at hQ2
    exact hQ2
  have lp : ∀ (r : Nat) (c : Int) (sk : Int → Int) (w4 : cw_V), c < r → (-1 ≤ c) → (c < Ks.length) → (l_tl (Ks.take (c + 1).toNat) h wo (m x_paper_sums_words_) = l_tl Ks h wo (m x_paper_sums_words_)) → cw_R (d + 2) k_Pa_lawTells 19 [vr x_paper_, vi h, vi wo, vi c, w4] [] (v3_m m sk) Q := by
    intro r
    induction r with
    | zero =>
      intro c sk w4 hr hc hcn hR
      exact z0 c sk w4 (by omega) hR
    | succ r ih =>
      intro c sk w4 hr hc hcn hR
      by_cases hc0 : c < 0
      · refine la_go_RV (v3_m_ok hm) 4 [] [19] ?_
        refine br_t (show c < 0 by omega) ?_
        show Q (some (vi wo)) (v3_m m sk)
        rw [show (c + 1).toNat = 0 by omega] at hR
        have hQ2 := hQ sk
        rw [← hR] at hQ2
        exact hQ2
      obtain ⟨K, hK1, hK2⟩ := l_tk (Ks := Ks) (c := c) (by omega) (by omega)
      have kc := hcl c.toNat K hK1
      rw [show ((c.toNat : Nat) : Int) = c by omega] at kc
      have k1 := kc.1
      have k5 := kc.2.2.2.2
      have kA : K.1 ≠ 2 → e_pt (m (m (m x_paper_ 7) 7)) (m (m x_paper_ 7) 1) (m (m (m x_paper_ 7) 3) c) (some K.2.1) := fun q => by have := kc.2.2.1; unfold p_A at this; rw [if_neg (by decide), if_neg q] at this; exact this
      refine la_go_RV (v3_m_ok hm) 54 [27, 31, 40, 44, 61, 65, 94, 98] [19] ?_
      refine br_f (show ¬ (c < 0) by omega) ?_
      refine And.intro (show cw_tg (m x_paper_ 7) = 8 by assumption) ?_
      refine And.intro (show cw_tg ((v3_m m sk) (m x_paper_ 7) 2) = 40 ∧ 0 ≤ c ∧ c < cw_ln ((v3_m m sk) (m x_paper_ 7) 2) by rw [eT sk]; exact ⟨a2.1, by omega, by have := a2.2.1; omega⟩) ?_
      refine And.intro (fun (c21 : (v3_m m sk) ((v3_m m sk) (m x_paper_ 7) 2) c ≠ h) => ?_) (fun (c21 : ¬ ((v3_m m sk) ((v3_m m sk) (m x_paper_ 7) 2) c ≠ h)) => ?_)
      · refine And.intro (show -2147483648 ≤ c + (-1) ∧ c + (-1) < 2147483648 by omega) ?_
        show cw_R _ _ 19 [vr x_paper_, vi h, vi wo, vi (c + (-1)), w4] [] (v3_m m sk) _
        have el : l_st h (m x_paper_sums_words_) (l_tl (Ks.take c.toNat) h wo (m x_paper_sums_words_)) K = l_tl (Ks.take c.toNat) h wo (m x_paper_sums_words_) := by
          refine l_st0 (fun q => ?_)
          have z := q.1
          have z2 := e2 (c := c) sk
          omega
        rw [hK2, l_tl1, el] at hR
        exact ih (c + (-1)) sk w4 (by omega) (by omega) (by omega) (by rw [show c + (-1) + 1 = c by omega]; exact hR)
      · refine And.intro (show cw_tg (m x_paper_ 7) = 8 by assumption) ?_
        refine And.intro (show cw_tg ((v3_m m sk) (m x_paper_ 7) 5) = 40 ∧ 0 ≤ c ∧ c < cw_ln ((v3_m m sk) (m x_paper_ 7) 5) by rw [eT sk]; exact ⟨a5.1, by omega, by have := a5.2.1; omega⟩) ?_
        refine And.intro (fun (c22 : (v3_m m sk) ((v3_m m sk) (m x_paper_ 7) 5) c = (-1)) => ?_) (fun (c22 : ¬ ((v3_m m sk) ((v3_m m sk) (m x_paper_ 7) 5) c = (-1))) => ?_)
        · refine And.intro (fun (c23 : h ≠ 2) => ?_) (fun (c23 : ¬ (h ≠ 2)) => ?_)
          · refine And.intro (show cw_tg (m x_paper_ 7) = 8 by assumption) ?_
            refine And.intro (show cw_tg ((v3_m m sk) (m x_paper_ 7) 3) = 40 ∧ 0 ≤ c ∧ c < cw_ln ((v3_m m sk) (m x_paper_ 7) 3) by rw [eT sk]; exact ⟨a3.1, by omega, by have := a3.2.1; omega⟩) ?_
            show cw_C _ _ [vr x_paper_sums_, vr (m x_paper_ 7), vi ((v3_m m sk) ((v3_m m sk) (m x_paper_ 7) 3) c)] (v3_m m sk) _
            refine Pa_ev3 hm (T := (m x_paper_ 7)) hT hW (D := some K.2.1) (by rw [e3 sk]; exact kA (by have := e2 (c := c) sk; omega)) (by rw [e3 sk]; have := (kA (by have := e2 (c := c) sk; omega)).1; omega) (fun (y2 : Int) (sk2 : Int → Int) (y2e : y2 = ((some K.2.1).getD (fun _ => none) (m x_paper_sums_words_)).getD (-2000000000)) (y2n : y2 = -2000000000 → (some K.2.1).getD (fun _ => none) (m x_paper_sums_words_) = none) => ⟨(v3_m_ok hm), ?_⟩)
            refine And.intro (fun (c24 : y2 = (-2000000000)) => ?_) (fun (c24 : ¬ (y2 = (-2000000000))) => ?_)
            · refine And.intro (show -2147483648 ≤ c + (-1) ∧ c + (-1) < 2147483648 by omega) ?_
              show cw_R _ _ 19 [vr x_paper_, vi h, vi wo, vi (c + (-1)), vi y2] [] (v3_m m sk2) _
              have el : l_st h (m x_paper_sums_words_) (l_tl (Ks.take c.toNat) h wo (m x_paper_sums_words_)) K = l_tl (Ks.take c.toNat) h wo (m x_paper_sums_words_) := by
                refine l_st0 (fun q => ?_)
                refine q.2.2 ?_
                unfold k_vl2
                rw [if_neg (by have := e2 (c := c) sk; omega)]
                exact y2n (by omega)
              rw [hK2, l_tl1, el] at hR
              exact ih (c + (-1)) sk2 (vi y2) (by omega) (by omega) (by omega) (by rw [show c + (-1) + 1 = c by omega]; exact hR)
            · show cw_C _ _ [vi 100, vi y2] (v3_m m sk2) _
              refine Jm_min ⟨(v3_m_ok hm), ?_⟩
              show cw_C _ _ [vi 0, vi (min 100 y2)] (v3_m m sk2) _
              refine Jm_max ⟨(v3_m_ok hm), ?_⟩
              show Q (some (vi (max 0 (min 100 y2)))) (v3_m m sk2)
              have hd : k_hd K.2.2.2.2 (m x_paper_sums_words_) := by
                intro t ht
                first
                | (rw [ht] at k5; have z := e5 (c := c) sk; have z1 := k5.1; exfalso; omega)
                | (rw [ht] at y1e; have z : y1 = (t (m x_paper_sums_words_)).getD (-2000000000) := y1e; cases ht2 : t (m x_paper_sums_words_) with | none => (rw [ht2] at z; have z2 : y1 = -2000000000 := z; exfalso; omega) | some x => (rw [ht2] at z; have z2 : y1 = x := z; rw [show x = 1 by omega]))
              have vl : k_vl2 K (m x_paper_sums_words_) = some y2 := by
                unfold k_vl2
                rw [if_neg (by have := e2 (c := c) sk; omega)]
                have z : y2 = (K.2.1 (m x_paper_sums_words_)).getD (-2000000000) := y2e
                cases hx : K.2.1 (m x_paper_sums_words_) with
                | none => rw [hx] at z; have z2 : y2 = -2000000000 := z; exfalso; omega
                | some x => rw [hx] at z; rw [z]; rfl
              have el := l_st1 (a := l_tl (Ks.take c.toNat) h wo (m x_paper_sums_words_)) (h := h) (by have := e2 (c := c) sk; omega) hd vl
              rw [hK2, l_tl1, el] at hR
              have hQ2 := hQ sk2
              rw [← hR] at hQ2
              exact hQ2
          · refine br_f (show ¬ ((1 : Int) = (-2000000000)) by decide) ?_
            show cw_C _ _ [vi 100, vi 1] (v3_m m sk) _
            refine Jm_min ⟨(v3_m_ok hm), ?_⟩
            show cw_C _ _ [vi 0, vi (min 100 1)] (v3_m m sk) _
            refine Jm_max ⟨(v3_m_ok hm), ?_⟩
            show Q (some (vi (max 0 (min 100 1)))) (v3_m m sk)
            have hd : k_hd K.2.2.2.2 (m x_paper_sums_words_) := by
              intro t ht
              first
              | (rw [ht] at k5; have z := e5 (c := c) sk; have z1 := k5.1; exfalso; omega)
              | (rw [ht] at y1e; have z : y1 = (t (m x_paper_sums_words_)).getD (-2000000000) := y1e; cases ht2 : t (m x_paper_sums_words_) with | none => (rw [ht2] at z; have z2 : y1 = -2000000000 := z; exfalso; omega) | some x => (rw [ht2] at z; have z2 : y1 = x := z; rw [show x = 1 by omega]))
            have vl : k_vl2 K (m x_paper_sums_words_) = some 1 := by unfold k_vl2; rw [if_pos (by have := e2 (c := c) sk; omega)]
            have el := l_st1 (a := l_tl (Ks.take c.toNat) h wo (m x_paper_sums_words_)) (h := h) (by have := e2 (c := c) sk; omega) hd vl
            rw [hK2, l_tl1, el] at hR
            have hQ2 := hQ sk
            rw [← hR] at hQ2
            exact hQ2
        · refine And.intro (show cw_tg (m x_paper_ 7) = 8 by assumption) ?_
          refine And.intro (show cw_tg ((v3_m m sk) (m x_paper_ 7) 5) = 40 ∧ 0 ≤ c ∧ c < cw_ln ((v3_m m sk) (m x_paper_ 7) 5) by rw [eT sk]; exact ⟨a5.1, by omega, by have := a5.2.1; omega⟩) ?_
          show cw_C _ _ [vr x_paper_sums_, vr (m x_paper_ 7), vi ((v3_m m sk) ((v3_m m sk) (m x_paper_ 7) 5) c)] (v3_m m sk) _
          refine Pa_ev3 hm (T := (m x_paper_ 7)) hT hW (D := K.2.2.2.2) (by rw [e5 sk]; exact k5) (by have := e5 (c := c) sk; omega) (fun (y1 : Int) (sk1 : Int → Int) (y1e : y1 = ((K.2.2.2.2).getD (fun _ => none) (m x_paper_sums_words_)).getD (-2000000000)) (y1n : y1 = -2000000000 → (K.2.2.2.2).getD (fun _ => none) (m x_paper_sums_words_) = none) => ⟨(v3_m_ok hm), ?_⟩)
          refine And.intro (fun (c25 : y1 ≠ 1) => ?_) (fun (c25 : ¬ (y1 ≠ 1)) => ?_)
          · refine And.intro (show -2147483648 ≤ c + (-1) ∧ c + (-1) < 2147483648 by omega) ?_
            show cw_R _ _ 19 [vr x_paper_, vi h, vi wo, vi (c + (-1)), w4] [] (v3_m m sk1) _
            have el : l_st h (m x_paper_sums_words_) (l_tl (Ks.take c.toNat) h wo (m x_paper_sums_words_)) K = l_tl (Ks.take c.toNat) h wo (m x_paper_sums_words_) := by
              refine l_st0 (fun q => ?_)
              obtain ⟨t, ht⟩ : ∃ t, K.2.2.2.2 = some t := by
                cases hq : K.2.2.2.2 with
                | none => rw [hq] at k5; have z2 := e5 (c := c) sk; have z : m (m (m x_paper_ 7) 5) c = -1 := k5; omega
                | some t => exact ⟨t, rfl⟩
              have z := q.2.1 t ht
              rw [ht] at y1e
              have z2 : y1 = (t (m x_paper_sums_words_)).getD (-2000000000) := y1e
              rw [z] at z2
              have z3 : y1 = 1 := z2
              omega
            rw [hK2, l_tl1, el] at hR
            exact ih (c + (-1)) sk1 w4 (by omega) (by omega) (by omega) (by rw [show c + (-1) + 1 = c by omega]; exact hR)
          · refine And.intro (fun (c26 : h ≠ 2) => ?_) (fun (c26 : ¬ (h ≠ 2)) => ?_)
            · refine And.intro (show cw_tg (m x_paper_ 7) = 8 by assumption) ?_
              refine And.intro (show cw_tg ((v3_m m sk1) (m x_paper_ 7) 3) = 40 ∧ 0 ≤ c ∧ c < cw_ln ((v3_m m sk1) (m x_paper_ 7) 3) by rw [eT sk1]; exact ⟨a3.1, by omega, by have := a3.2.1; omega⟩) ?_
              show cw_C _ _ [vr x_paper_sums_, vr (m x_paper_ 7), vi ((v3_m m sk1) ((v3_m m sk1) (m x_paper_ 7) 3) c)] (v3_m m sk1) _
              refine Pa_ev3 hm (T := (m x_paper_ 7)) hT hW (D := some K.2.1) (by rw [e3 sk1]; exact kA (by have := e2 (c := c) sk; omega)) (by rw [e3 sk1]; have := (kA (by have := e2 (c := c) sk; omega)).1; omega) (fun (y2 : Int) (sk2 : Int → Int) (y2e : y2 = ((some K.2.1).getD (fun _ => none) (m x_paper_sums_words_)).getD (-2000000000)) (y2n : y2 = -2000000000 → (some K.2.1).getD (fun _ => none) (m x_paper_sums_words_) = none) => ⟨(v3_m_ok hm), ?_⟩)
              refine And.intro (fun (c27 : y2 = (-2000000000)) => ?_) (fun (c27 : ¬ (y2 = (-2000000000))) => ?_)
              · refine And.intro (show -2147483648 ≤ c + (-1) ∧ c + (-1) < 2147483648 by omega) ?_
                show cw_R _ _ 19 [vr x_paper_, vi h, vi wo, vi (c + (-1)), vi y2] [] (v3_m m sk2) _
                have el : l_st h (m x_paper_sums_words_) (l_tl (Ks.take c.toNat) h wo (m x_paper_sums_words_)) K = l_tl (Ks.take c.toNat) h wo (m x_paper_sums_words_) := by
                  refine l_st0 (fun q => ?_)
                  refine q.2.2 ?_
                  unfold k_vl2
                  rw [if_neg (by have := e2 (c := c) sk; omega)]
                  exact y2n (by omega)
                rw [hK2, l_tl1, el] at hR
                exact ih (c + (-1)) sk2 (vi y2) (by omega) (by omega) (by omega) (by rw [show c + (-1) + 1 = c by omega]; exact hR)
              · show cw_C _ _ [vi 100, vi y2] (v3_m m sk2) _
                refine Jm_min ⟨(v3_m_ok hm), ?_⟩
                show cw_C _ _ [vi 0, vi (min 100 y2)] (v3_m m sk2) _
                refine Jm_max ⟨(v3_m_ok hm), ?_⟩
                show Q (some (vi (max 0 (min 100 y2)))) (v3_m m sk2)
                have hd : k_hd K.2.2.2.2 (m x_paper_sums_words_) := by
                  intro t ht
                  first
                  | (rw [ht] at k5; have z := e5 (c := c) sk; have z1 := k5.1; exfalso; omega)
                  | (rw [ht] at y1e; have z : y1 = (t (m x_paper_sums_words_)).getD (-2000000000) := y1e; cases ht2 : t (m x_paper_sums_words_) with | none => (rw [ht2] at z; have z2 : y1 = -2000000000 := z; exfalso; omega) | some x => (rw [ht2] at z; have z2 : y1 = x := z; rw [show x = 1 by omega]))
                have vl : k_vl2 K (m x_paper_sums_words_) = some y2 := by
                  unfold k_vl2
                  rw [if_neg (by have := e2 (c := c) sk; omega)]
                  have z : y2 = (K.2.1 (m x_paper_sums_words_)).getD (-2000000000) := y2e
                  cases hx : K.2.1 (m x_paper_sums_words_) with
                  | none => rw [hx] at z; have z2 : y2 = -2000000000 := z; exfalso; omega
                  | some x => rw [hx] at z; rw [z]; rfl
                have el := l_st1 (a := l_tl (Ks.take c.toNat) h wo (m x_paper_sums_words_)) (h := h) (by have := e2 (c := c) sk; omega) hd vl
                rw [hK2, l_tl1, el] at hR
                have hQ2 := hQ sk2
                rw [← hR] at hQ2
                exact hQ2
            · refine br_f (show ¬ ((1 : Int) = (-2000000000)) by decide) ?_
              show cw_C _ _ [vi 100, vi 1] (v3_m m sk1) _
              refine Jm_min ⟨(v3_m_ok hm), ?_⟩
              show cw_C _ _ [vi 0, vi (min 100 1)] (v3_m m sk1) _
              refine Jm_max ⟨(v3_m_ok hm), ?_⟩
              show Q (some (vi (max 0 (min 100 1)))) (v3_m m sk1)
              have hd : k_hd K.2.2.2.2 (m x_paper_sums_words_) := by
                intro t ht
                first
                | (rw [ht] at k5; have z := e5 (c := c) sk; have z1 := k5.1; exfalso; omega)
                | (rw [ht] at y1e; have z : y1 = (t (m x_paper_sums_words_)).getD (-2000000000) := y1e; cases ht2 : t (m x_paper_sums_words_) with | none => (rw [ht2] at z; have z2 : y1 = -2000000000 := z; exfalso; omega) | some x => (rw [ht2] at z; have z2 : y1 = x := z; rw [show x = 1 by omega]))
              have vl : k_vl2 K (m x_paper_sums_words_) = some 1 := by unfold k_vl2; rw [if_pos (by have := e2 (c := c) sk; omega)]
              have el := l_st1 (a := l_tl (Ks.take c.toNat) h wo (m x_paper_sums_words_)) (h := h) (by have := e2 (c := c) sk; omega) hd vl
              rw [hK2, l_tl1, el] at hR
              have hQ2 := hQ sk1
              rw [← hR] at hQ2
              exact hQ2
  refine la_go_CV (v3_m_ok hm) 12 [13] [19] ?_
  refine br_t (show m x_paper_ 7 ≠ 0 by intro q; rw [q] at t8; exact absurd t8 (by decide)) ?_
  refine And.intro (show cw_tg (m x_paper_ 7) = 8 by assumption) ?_
  refine And.intro (show -2147483648 ≤ ((v3_m m sk) (m x_paper_ 7) 0) - 1 ∧ ((v3_m m sk) (m x_paper_ 7) 0) - 1 < 2147483648 by rw [eT sk, tn]; omega) ?_
  show cw_R _ _ 19 [vr x_paper_, vi h, vi wo, vi (((v3_m m sk) (m x_paper_ 7) 0) - 1), none] [] (v3_m m sk) _
  rw [eT sk, tn]
  exact lp (Ks.length + 1) _ sk _ (by omega) (by omega) (by omega) (by rw [show (Ks.length : Int) - 1 + 1 = Ks.length by omega, Int.toNat_natCast, List.take_length])
