/-! What is ruled, by the class (wip/whole/tools/m127.py). -/
theorem j_two {K : Int → Int} {p x y : Int} (h : x ≠ y) : ∀ n : Nat, c_n (j_p K p x) n + c_n (j_p K p y) n ≤ n
  | 0 => by show (0 : Int) + 0 ≤ _; omega
  | n + 1 => by
    have i := j_two (K := K) (p := p) h n
    show (c_n (j_p K p x) n + @ite _ (j_p K p x n) (Classical.propDecidable _) 1 0) + (c_n (j_p K p y) n + @ite _ (j_p K p y n) (Classical.propDecidable _) 1 0) ≤ _
    by_cases a : j_p K p x n
    · have b : ¬ j_p K p y n := fun b => h (a.2.symm.trans b.2)
      rw [@if_pos _ (Classical.propDecidable _) a, @if_neg _ (Classical.propDecidable _) b]
      omega
    · rw [@if_neg _ (Classical.propDecidable _) a]
      by_cases b : j_p K p y n
      · rw [@if_pos _ (Classical.propDecidable _) b]; omega
      · rw [@if_neg _ (Classical.propDecidable _) b]; omega
theorem r_ue {K : Int → Int} {p : Int} : ∀ n : Nat, (r_u K p n = -1 ∧ ∀ k : Int, 0 ≤ k → k < n → ¬ r_q K p k) ∨ ∃ k : Int, (0 ≤ k ∧ k < n) ∧ r_q K p k ∧ r_u K p n = G_R K (K (26 + k)) p
  | 0 => Or.inl ⟨rfl, fun k a b => by omega⟩
  | n + 1 => by
    have s := r_us (K := K) (p := p) (k := n) (by omega)
    rw [show ((n : Int) + 1).toNat = n + 1 by omega, Int.toNat_natCast] at s
    by_cases q : r_q K p n
    · exact Or.inr ⟨n, by omega, q, s.1 q⟩
    · rw [s.2 q]
      rcases r_ue (K := K) (p := p) n with i | ⟨k, a, b, c⟩
      · refine Or.inl ⟨i.1, fun k a b => ?_⟩
        by_cases e : k = n
        · rw [e]; exact q
        · exact i.2 k a (by omega)
      · exact Or.inr ⟨k, by omega, b, c⟩
theorem r_uq {K : Int → Int} {p k : Int} (hJ : 0 ≤ K 47) (hk : 0 ≤ k ∧ k < K 47) (h : r_q K p k) : r_u K p (K 47).toNat = G_R K (K (26 + k)) p := by
  rcases r_ue (K := K) (p := p) (K 47).toNat with i | ⟨k', a, b, c⟩
  · exact absurd h (i.2 k hk.1 (by omega))
  · rw [c]
    by_cases e : G_R K (K (26 + k')) p = G_R K (K (26 + k)) p
    · exact e
    · have z := j_two (K := K) (p := p) e (K 47).toNat
      have b2 := b.2
      have h2 := h.2
      unfold j_c at b2 h2
      omega
theorem r_un {K : Int → Int} {p : Int} (hJ : 0 ≤ K 47) (h : ∀ k : Int, 0 ≤ k → k < K 47 → ¬ r_q K p k) : r_u K p (K 47).toNat = -1 := by
  rcases r_ue (K := K) (p := p) (K 47).toNat with i | ⟨k', a, b, c⟩
  · exact i.1
  · exact absurd b (h k' a.1 (by omega))
/-- the judges' readings are known -/
def J_c (K : Int → Int) (X : cw_M) (n : Int) : Prop := ∀ i, 0 ≤ i → i < n → K (26 + i) < ((R_K K).length : Int) → X x_ledger_isKnown_ (t_g (R_K K) (K (26 + i))) ≠ 0
theorem C_amountE {d : Nat} {m : cw_M} {Q : Option cw_V → cw_M → Prop} {K : Int → Int} {r r' p : Int} (hm : la_ok m) (hK : K_r K) (hZ : Z_f m K) (e : r = r') (hr : 0 ≤ r ∧ r < ((R_K K).length : Int)) (hp : 0 ≤ p ∧ p < 6) (hk : m x_ledger_isKnown_ (t_g (R_K K) r') ≠ 0) (h : Q (some (vi (G_R K r' p))) m) : cw_C d k_C_amount [vr x_, vi r, vi p] m Q := by
  subst e
  exact C_amount hm hK hZ hr hp hk h
theorem C_judgesFor {d : Nat} {X : cw_M} {Q : Option cw_V → cw_M → Prop} {K : Int → Int} {p mu : Int} (hX : la_ok X) (hK : K_r K) (hW : W_r X K) (hZ : Z_f X K) (hJ : J_c K X (K 47)) (hp : 0 ≤ p ∧ p < 6) (h : Q (some (vi (j_c K p mu))) X) : cw_C (d + 1) k_C_judgesFor [vr x_, vi p, vi mu, vi ((R_K K).length : Int)] X Q := by
  have wj : X x_will_ 6 = K 47 := hW.2.2.2.2.2.2.1
  have k47 := hK.2.2.2.2.2.2.2.2.2.1
  have rk := (R_Kr hK).1
  have lp : ∀ (r : Nat) (k : Int), K 47 < k + r → (0 ≤ k ∧ k ≤ K 47) → cw_R (d + 1) k_C_judgesFor 6 [vr x_, vi p, vi mu, vi ((R_K K).length : Int), vi (c_n (j_p K p mu) k.toNat), vi k] [] X Q := by
    intro r
    induction r with
    | zero =>
      intro k hr hk
      omega
    | succ r ih =>
      intro k hr hk
      have wh := fun (z : k < 5) => hW.2.2.2.2.2.2.2.1 k hk.1 z
      have kh := fun (z : k < 5) => hK.2.2.2.2.2.2.2.2.2.2.2.2.2.1 k hk.1 z
      have cr := c_nr (P := j_p K p mu) k.toNat
      refine la_go_R hX 28 [6] ?_
      refine And.intro (fun (c21 : X x_will_ 6 ≤ k) => ?_) (fun (c21 : ¬ (X x_will_ 6 ≤ k)) => ?_)
      · show Q (some (vi (c_n (j_p K p mu) k.toNat))) (X)
        rw [show k = K 47 by omega]
        exact h
      · refine And.intro (show 0 ≤ k ∧ k < 5 by omega) ?_
        refine And.intro (fun (c22 : ((R_K K).length : Int) ≤ X x_will_held_ k) => ?_) (fun (c22 : ¬ (((R_K K).length : Int) ≤ X x_will_held_ k)) => ?_)
        · refine And.intro (show -2147483648 ≤ k + 1 ∧ k + 1 < 2147483648 by omega) ?_
          show cw_R _ _ 6 [vr x_, vi p, vi mu, vi ((R_K K).length : Int), vi (c_n (j_p K p mu) k.toNat), vi (k + 1)] [] (X) _
          have wk := wh (by omega)
          have kk := kh (by omega)
          have e := (c_ns (P := j_p K p mu) (k := k) (by omega)).2 (fun z => by have := z.1; have := z.2; omega)
          rw [Int.add_zero] at e
          rw [e]
          exact ih (k + 1) (by omega) (by omega)
        · refine And.intro (show 0 ≤ k ∧ k < 5 by omega) ?_
          show cw_C _ _ [vr x_, vi (X x_will_held_ k), vi p] (X) _
          refine C_amountE hX hK hZ (wh (by omega)) (by have := kh (by omega); omega) (by omega) (hJ k (by omega) (by omega) (by have := wh (by omega); omega)) ⟨hX, ?_⟩
          refine And.intro (fun (c23 : G_R K (K (26 + k)) p ≠ mu) => ?_) (fun (c23 : ¬ (G_R K (K (26 + k)) p ≠ mu)) => ?_)
          · refine And.intro (show -2147483648 ≤ k + 1 ∧ k + 1 < 2147483648 by omega) ?_
            show cw_R _ _ 6 [vr x_, vi p, vi mu, vi ((R_K K).length : Int), vi (c_n (j_p K p mu) k.toNat), vi (k + 1)] [] (X) _
            have wk := wh (by omega)
            have kk := kh (by omega)
            have e := (c_ns (P := j_p K p mu) (k := k) (by omega)).2 (fun z => by have := z.1; have := z.2; omega)
            rw [Int.add_zero] at e
            rw [e]
            exact ih (k + 1) (by omega) (by omega)
          · refine And.intro (show -2147483648 ≤ (c_n (j_p K p mu) k.toNat) + 1 ∧ (c_n (j_p K p mu) k.toNat) + 1 < 2147483648 by omega) ?_
            refine And.intro (show -2147483648 ≤ k + 1 ∧ k + 1 < 2147483648 by omega) ?_
            show cw_R _ _ 6 [vr x_, vi p, vi mu, vi ((R_K K).length : Int), vi ((c_n (j_p K p mu) k.toNat) + 1), vi (k + 1)] [] (X) _
            have wk := wh (by omega)
            have kk := kh (by omega)
            rw [(c_ns (P := j_p K p mu) (k := k) (by omega)).1 ⟨by omega, by omega⟩]
            exact ih (k + 1) (by omega) (by omega)
  refine la_go_C hX 7 [6] ?_
  show cw_R _ _ 6 [vr x_, vi p, vi mu, vi ((R_K K).length : Int), vi 0, vi 0] [] (X) _
  exact lp ((K 47).toNat + 1) 0 (by omega) (by omega)
theorem C_ruled74 {d : Nat} {m X : cw_M} {Q : Option cw_V → cw_M → Prop} {K : Int → Int} {p : Int} {w4 : cw_V} (hX : la_ok X) (hK : K_r K) (hW : W_r X K) (hZ : Z_f X K) (hJ : J_c K X (K 47)) (hV : V_s m X) (hp : 0 ≤ p ∧ p < 6) (h : ∀ M, la_ok M → V_s m M → Z_c M K → Q (some (vi (q_rul K p))) M) : cw_R (d + 13) k_C_ruled 74 [vr x_, vi p, vi ((R_K K).length : Int), vi 0, w4] [] X Q := by
  have wj : X x_will_ 6 = K 47 := hW.2.2.2.2.2.2.1
  have k47 := hK.2.2.2.2.2.2.2.2.2.1
  have rk := (R_Kr hK).1
  have lp : ∀ (r : Nat) (k : Int) (w4 : cw_V), K 47 < k + r → (0 ≤ k ∧ k ≤ K 47) → (∀ i : Int, 0 ≤ i → i < k → ¬ r_q K p i) → cw_R (d + 13) k_C_ruled 74 [vr x_, vi p, vi ((R_K K).length : Int), vi k, w4] [] X Q := by
    intro r
    induction r with
    | zero =>
      intro k w4 hr hk hno
      omega
    | succ r ih =>
      intro k w4 hr hk hno
      have wh := fun (z : k < 5) => hW.2.2.2.2.2.2.2.1 k hk.1 z
      have kh := fun (z : k < 5) => hK.2.2.2.2.2.2.2.2.2.2.2.2.2.1 k hk.1 z
      refine la_go_R hX 37 [74] ?_
      refine And.intro (fun (c21 : X x_will_ 6 ≤ k) => ?_) (fun (c21 : ¬ (X x_will_ 6 ≤ k)) => ?_)
      · show Q (some (vi (-1))) (X)
        have e : q_rul K p = -1 := by unfold q_rul; rw [if_pos (by omega)]; exact r_un (by omega) (fun i a b => hno i a (by omega))
        rw [← e]
        exact h X hX hV hZ.1
      · refine And.intro (show 0 ≤ k ∧ k < 5 by omega) ?_
        refine And.intro (fun (c22 : ((R_K K).length : Int) ≤ X x_will_held_ k) => ?_) (fun (c22 : ¬ (((R_K K).length : Int) ≤ X x_will_held_ k)) => ?_)
        · refine And.intro (show -2147483648 ≤ k + 1 ∧ k + 1 < 2147483648 by omega) ?_
          show cw_R _ _ 74 [vr x_, vi p, vi ((R_K K).length : Int), vi (k + 1), w4] [] (X) _
          have wk := wh (by omega)
          have kk := kh (by omega)
          refine ih (k + 1) _ (by omega) (by omega) (fun i a b => ?_)
          by_cases z : i = k
          · rw [z]
            intro q
            have q1 := q.1
            have q2 := q.2
            omega
          · exact hno i a (by omega)
        · refine And.intro (show 0 ≤ k ∧ k < 5 by omega) ?_
          show cw_C _ _ [vr x_, vi (X x_will_held_ k), vi p] (X) _
          refine C_amountE hX hK hZ (wh (by omega)) (by have := kh (by omega); omega) (by omega) (hJ k (by omega) (by omega) (by have := wh (by omega); omega)) ⟨hX, ?_⟩
          show cw_C _ _ [vr x_, vi p, vi (G_R K (K (26 + k)) p), vi ((R_K K).length : Int)] (X) _
          refine C_judgesFor hX hK hW hZ hJ (by omega) ⟨hX, ?_⟩
          have jr := c_nr (P := j_p K p (G_R K (K (26 + k)) p)) (K 47).toNat
          have jr2 : 0 ≤ j_c K p (G_R K (K (26 + k)) p) ∧ j_c K p (G_R K (K (26 + k)) p) ≤ (K 47).toNat := jr
          refine And.intro (show -2147483648 ≤ 2 * (j_c K p (G_R K (K (26 + k)) p)) ∧ 2 * (j_c K p (G_R K (K (26 + k)) p)) < 2147483648 by omega) ?_
          refine And.intro (fun (c23 : 2 * (j_c K p (G_R K (K (26 + k)) p)) ≤ X x_will_ 6) => ?_) (fun (c23 : ¬ (2 * (j_c K p (G_R K (K (26 + k)) p)) ≤ X x_will_ 6)) => ?_)
          · refine And.intro (show -2147483648 ≤ k + 1 ∧ k + 1 < 2147483648 by omega) ?_
            show cw_R _ _ 74 [vr x_, vi p, vi ((R_K K).length : Int), vi (k + 1), vi (G_R K (K (26 + k)) p)] [] (X) _
            have wk := wh (by omega)
            have kk := kh (by omega)
            refine ih (k + 1) _ (by omega) (by omega) (fun i a b => ?_)
            by_cases z : i = k
            · rw [z]
              intro q
              have q1 := q.1
              have q2 := q.2
              omega
            · exact hno i a (by omega)
          · show Q (some (vi (G_R K (K (26 + k)) p))) (X)
            have wk := wh (by omega)
            have kk := kh (by omega)
            have e : q_rul K p = G_R K (K (26 + k)) p := by unfold q_rul; rw [if_pos (by omega)]; exact r_uq (by omega) (by omega) ⟨by omega, by omega⟩
            rw [← e]
            exact h X hX hV hZ.1
  exact lp ((K 47).toNat + 1) 0 w4 (by omega) (by omega) (fun i a b => by omega)
theorem C_ruled18 {d : Nat} {m X : cw_M} {Q : Option cw_V → cw_M → Prop} {K : Int → Int} {p : Int} (hK : K_r K) (hW : W_r m K) (hp : 0 ≤ p ∧ p < 6) (hX : la_ok X) (hV : V_s m X) (hZX : Z_f X K) (h : ∀ M, la_ok M → V_s m M → Z_c M K → Q (some (vi (q_rul K p))) M) : cw_R (d + 13) k_C_ruled 18 [vr x_, vi p, vi ((R_K K).length : Int), vi 0, none] [] X Q := by
  have k47 := hK.2.2.2.2.2.2.2.2.2.1
  have ex : ∀ {k : Int} (X : cw_M), la_ok X → V_s m X → Z_f X K → J_c K X (K 47) → cw_R (d + 13) k_C_ruled 72 [vr x_, vi p, vi ((R_K K).length : Int), vi k, none] [] X Q := by
    intro k X hX hV hZX hJ
    refine la_go_R hX 5 [74] ?_
    show cw_R _ _ 74 [vr x_, vi p, vi ((R_K K).length : Int), vi 0, none] [] (X) _
    exact C_ruled74 hX hK (W_rV hW hV) hZX hJ hV hp h
  have lp : ∀ (r : Nat) (k : Int) (X : cw_M), K 47 < k + r → (0 ≤ k ∧ k ≤ K 47) → (la_ok X) → (V_s m X) → (Z_f X K) → (J_c K X k) → cw_R (d + 13) k_C_ruled 18 [vr x_, vi p, vi ((R_K K).length : Int), vi k, none] [] X Q := by
    intro r
    induction r with
    | zero =>
      intro k X hr hk hX hV hZX hJ
      omega
    | succ r ih =>
      intro k X hr hk hX hV hZX hJ
      have hW := W_rV hW hV
      have wj : X x_will_ 6 = K 47 := hW.2.2.2.2.2.2.1
      have k47 := hK.2.2.2.2.2.2.2.2.2.1
      have rk := (R_Kr hK).1
      have wh := fun (z : k < 5) => hW.2.2.2.2.2.2.2.1 k hk.1 z
      have kh := fun (z : k < 5) => hK.2.2.2.2.2.2.2.2.2.2.2.2.2.1 k hk.1 z
      refine la_go_R hX 29 [18, 72] ?_
      refine And.intro (fun (c21 : X x_will_ 6 ≤ k) => ?_) (fun (c21 : ¬ (X x_will_ 6 ≤ k)) => ?_)
      · show cw_R _ _ 72 [vr x_, vi p, vi ((R_K K).length : Int), vi k, none] [] (X) _
        exact ex X hX hV hZX (fun i a b c => hJ i a (by omega) c)
      · refine And.intro (show 0 ≤ k ∧ k < 5 by omega) ?_
        refine And.intro (fun (c22 : ((R_K K).length : Int) ≤ X x_will_held_ k) => ?_) (fun (c22 : ¬ (((R_K K).length : Int) ≤ X x_will_held_ k)) => ?_)
        · refine And.intro (show -2147483648 ≤ k + 1 ∧ k + 1 < 2147483648 by omega) ?_
          show cw_R _ _ 18 [vr x_, vi p, vi ((R_K K).length : Int), vi (k + 1), none] [] (X) _
          exact ih (k + 1) X (by omega) (by omega) hX hV hZX (fun i a b c => by
            by_cases z : i = k
            · rw [z] at c; have := wh (by omega); omega
            · exact hJ i a (by omega) c)
        · refine And.intro (show 0 ≤ k ∧ k < 5 by omega) ?_
          have wk := wh (by omega)
          have kk := kh (by omega)
          have hl : X x_forest_list_ (X x_will_held_ k) = t_g (R_K K) (K (26 + k)) := by rw [wk]; exact Z_fl hZX _ (by omega) (by omega)
          have tt := (R_Kr hK).2 (K (26 + k)) (by omega) (by omega)
          refine And.intro (show 0 ≤ X x_will_held_ k ∧ X x_will_held_ k < 132 by omega) ?_
          show cw_C _ _ [vr x_ledger_, vi (X x_forest_list_ (X x_will_held_ k))] (X) _
          refine Le_know hX hK hW hZX (by rw [hl]; exact tt.1) (fun (Y : cw_M) (hY : la_ok Y) (hVY : V_s X Y) (hZY : Z_f Y K) (hNY : N_s X Y) hkY => ⟨hY, ?_⟩)
          rw [hl] at hkY
          refine And.intro (show -2147483648 ≤ k + 1 ∧ k + 1 < 2147483648 by omega) ?_
          show cw_R _ _ 18 [vr x_, vi p, vi ((R_K K).length : Int), vi (k + 1), none] [] (Y) _
          exact ih (k + 1) Y (by omega) (by omega) hY (V_st hV hVY) hZY (fun i a b c => by
            by_cases z : i = k
            · rw [z]; exact hkY
            · exact hNY _ (hJ i a (by omega) c))
  exact lp ((K 47).toNat + 1) 0 X (by omega) (by omega) hX hV hZX (fun i a b c => by omega)
theorem C_ruled {d : Nat} {m : cw_M} {Q : Option cw_V → cw_M → Prop} {K : Int → Int} (hm : la_ok m) (hT : ∀ j, 0 ≤ j → j < 7 → m cw_TREES j = t_c j) (hK : K_r K) (hW : W_r m K) (hZ : Z_c m K) {p : Int} (h : ∀ M, la_ok M → V_s m M → Z_c M K → Q (some (vi (q_rul K p))) M) : cw_C (d + 13) k_C_ruled [vr x_, vi p] m Q := by
  refine la_go_C hm 12 [18] ?_
  show cw_C _ _ [vi p, vi 6] (m) _
  refine C_isBelow (fun (a21 : 0 ≤ p) (a22 : p < 6) => ⟨hm, ?_⟩) (fun (a23 : ¬ (0 ≤ p ∧ p < 6)) => ⟨hm, ?_⟩)
  · refine br_t (show (1 : Int) ≠ 0 by decide) ?_
    show cw_C _ _ [vr x_] (m) _
    refine C_freshen hm hT hK hW hZ (fun (X : cw_M) (hX : la_ok X) (hV : V_s m X) (hZc : Z_c X K) (h18 : X x_ 18 = 0) (h19 : X x_ 19 = 0) => ⟨hX, ?_⟩)
    show cw_R _ _ 18 [vr x_, vi p, vi ((R_K K).length : Int), vi 0, none] [] (X) _
    exact C_ruled18 hK hW (by omega) hX hV ⟨hZc, h18, h19⟩ h
  · refine br_f (show ¬ ((0 : Int) ≠ 0) by decide) ?_
    show Q (some (vi (-1))) (m)
    have e : q_rul K p = -1 := by unfold q_rul; rw [if_neg (by omega)]
    rw [← e]
    exact h m hm V_sr hZ
