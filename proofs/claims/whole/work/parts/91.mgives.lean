/-! What goes to whom, by the reference (wip/whole/tools/m91.py). -/
def H_p (m : cw_M) (t : Int) (f : Nat) (a n k dp ov : Int) : Prop := t_pl (fun q => q.1) (m m_low_) (6 * t) f a n k dp ov ∧ t_pl (fun q => q.2.1) (m m_high_) (6 * t) f a n k dp ov
theorem H_pL {m : cw_M} {t : Int} {f : Nat} {a n k dp ov : Int} (h : H_p m t (f + 1) a n k dp ov) (ht : t_top n k < n) : H_p m t f a (t_top n k) (t_lk n k) (dp + 1) (a + t_top n k) := ⟨t_plL h.1 ht, t_plL h.2 ht⟩
theorem H_pR {m : cw_M} {t : Int} {f : Nat} {a n k dp ov : Int} (h : H_p m t (f + 1) a n k dp ov) (ht : 0 ≤ t_top n k) : H_p m t f (a + t_top n k + 1) (n - t_top n k - 1) (t_rk n k) (dp + 1) (a + t_top n k) := ⟨t_plR h.1 ht, t_plR h.2 ht⟩
theorem H_p0 {m : cw_M} {t n : Int} (h : t_L n (t_c n) (m m_low_) (m m_high_)) (ht : 0 ≤ t ∧ t < t_c n) : H_p m t 6 0 n t 0 (-1) := ⟨fun x h0 h1 => (h t x ht.1 ht.2 h0 (by omega)).1, fun x h0 h1 => (h t x ht.1 ht.2 h0 (by omega)).2⟩
theorem M_topOf {d : Nat} {m : cw_M} {Q : Option cw_V → cw_M → Prop} {f : Nat} {t a n k dp ov : Int} (hm : la_ok m) (ht : 0 ≤ t ∧ t < 132) (ha : 0 ≤ a) (hn : 1 ≤ n ∧ n ≤ 6) (hf : n ≤ f + 1) (hab : a + n ≤ 6) (hk : 0 ≤ k ∧ k < t_c n) (hH : H_p m t (f + 1) a n k dp ov) (h : Q (some (vi (a + t_top n k))) m) : cw_C d k_M_topOf [vr m_, vi t, vi a, vi (a + n)] m Q := by
  have tk := t_ok hn hk
  have lp : ∀ (r : Nat) (j : Int), a + n ≤ j + r → (a ≤ j ∧ j ≤ a + t_top n k) → cw_R (d) k_M_topOf 3 [vr m_, vi t, vi a, vi (a + n), vi j] [] m Q := by
    intro r
    induction r with
    | zero =>
      intro j hr hj
      omega
    | succ r ih =>
      intro j hr hj
      have e1 := hH.1 j hj.1 (by omega)
      have e2 := hH.2 j hj.1 (by omega)
      have e1 : m m_low_ (6 * t + j) = (t_q (f + 1) a n k dp ov j).1 := e1
      have e2 : m m_high_ (6 * t + j) = (t_q (f + 1) a n k dp ov j).2.1 := e2
      have hq := (t_q_in (f + 1) (a := a) (n := n) (k := k) (dp := dp) (ov := ov) (x := j) (by omega) hn hk ⟨hj.1, by omega⟩).2.2.2
      have hq := fun z => (hq z).2.1
      have hp : j = a + t_top n k → (t_q (f + 1) a n k dp ov j).1 = a ∧ (t_q (f + 1) a n k dp ov j).2.1 = a + n := fun z => by rw [z, t_q_top]; exact ⟨rfl, rfl⟩
      refine la_go_R hm 25 [3] ?_
      refine And.intro (show -2147483648 ≤ 6 * t ∧ 6 * t < 2147483648 by omega) ?_
      refine And.intro (show -2147483648 ≤ (6 * t) + j ∧ (6 * t) + j < 2147483648 by omega) ?_
      refine And.intro (show 0 ≤ (6 * t) + j ∧ (6 * t) + j < 792 by omega) ?_
      refine And.intro (fun (c21 : m m_low_ ((6 * t) + j) ≠ a) => ?_) (fun (c21 : ¬ (m m_low_ ((6 * t) + j) ≠ a)) => ?_)
      · refine And.intro (show -2147483648 ≤ j + 1 ∧ j + 1 < 2147483648 by omega) ?_
        show cw_R _ _ 3 [vr m_, vi t, vi a, vi (a + n), vi (j + 1)] [] (m) _
        exact ih (j + 1) (by omega) (by omega)
      · refine And.intro (show -2147483648 ≤ 6 * t ∧ 6 * t < 2147483648 by omega) ?_
        refine And.intro (show -2147483648 ≤ (6 * t) + j ∧ (6 * t) + j < 2147483648 by omega) ?_
        refine And.intro (show 0 ≤ (6 * t) + j ∧ (6 * t) + j < 792 by omega) ?_
        refine And.intro (fun (c22 : m m_high_ ((6 * t) + j) = a + n) => ?_) (fun (c22 : ¬ (m m_high_ ((6 * t) + j) = a + n)) => ?_)
        · show Q (some (vi j)) (m)
          rw [show j = a + t_top n k by omega]
          exact h
        · refine And.intro (show -2147483648 ≤ j + 1 ∧ j + 1 < 2147483648 by omega) ?_
          show cw_R _ _ 3 [vr m_, vi t, vi a, vi (a + n), vi (j + 1)] [] (m) _
          exact ih (j + 1) (by omega) (by omega)
  refine la_go_C hm 5 [3] ?_
  show cw_R _ _ 3 [vr m_, vi t, vi a, vi (a + n), vi a] [] (m) _
  exact lp n.toNat a (by omega) (by omega)
theorem M_takesIn0 {d : Nat} {m : cw_M} {Q : Option cw_V → cw_M → Prop} {f : Nat} {t a n k out : Int} (hm : la_ok m) (ha : 0 ≤ a ∧ a ≤ 6) (hn : n = 0) (h1 : g_tk (fun j => m m_kept_ (6 + j)) (fun i => m m_kept_ (19 + i)) (m m_ 38) f a n k out = true → Q (some (vi 1)) m) (h0 : g_tk (fun j => m m_kept_ (6 + j)) (fun i => m m_kept_ (19 + i)) (m m_ 38) f a n k out ≠ true → Q (some (vi 0)) m) : cw_C (d + 1) k_M_takesIn [vr m_, vi t, vi a, vi (a + n), vi out] m Q := by
  have hg := g_tk0 (kd := (fun j => m m_kept_ (6 + j))) (nm := (fun i => m m_kept_ (19 + i))) (fit := (m m_ 38)) (f := f) (a := a) (n := n) (k := k) (out := out) (by omega)
  unfold g_lf at hg
  refine la_go_C hm 20 [] ?_
  refine br_f (show ¬ (a ≠ a + n) by omega) ?_
  refine And.intro (show -2147483648 ≤ 19 + a ∧ 19 + a < 2147483648 by omega) ?_
  refine And.intro (show 0 ≤ 19 + a ∧ 19 + a < 5658 by omega) ?_
  show cw_C _ _ [vi (cw_iand (m m_ 38) (cw_ixor out (-1))), vi (m m_kept_ (19 + a))] (m) _
  refine M_isIn hm (fun (ax : cw_iand (cw_ishr (cw_iand (m m_ 38) (cw_ixor out (-1))) (m m_kept_ (19 + a))) 1 = 1) => ⟨hm, ?_⟩) (fun (ax : cw_iand (cw_ishr (cw_iand (m m_ 38) (cw_ixor out (-1))) (m m_kept_ (19 + a))) 1 ≠ 1) => ⟨hm, ?_⟩)
  · refine And.intro (Or.inr rfl) ?_
    show Q (some (vi 1)) (m)
    exact h1 (by rw [hg]; exact decide_eq_true ax)
  · refine And.intro (Or.inl rfl) ?_
    show Q (some (vi 0)) (m)
    exact h0 (by rw [hg]; exact fun z => ax (of_decide_eq_true z))
theorem M_takesIn : ∀ (f : Nat) {d : Nat} {m : cw_M} {Q : Option cw_V → cw_M → Prop} {t a b n k out dp ov : Int}, f + 1 ≤ d → la_ok m → 0 ≤ t ∧ t < 132 → 0 ≤ a → b = a + n → 0 ≤ n → n ≤ f → b ≤ 6 → 0 ≤ k ∧ k < t_c n → H_p m t f a n k dp ov → (g_tk (fun j => m m_kept_ (6 + j)) (fun i => m m_kept_ (19 + i)) (m m_ 38) f a n k out = true → Q (some (vi 1)) m) → (g_tk (fun j => m m_kept_ (6 + j)) (fun i => m m_kept_ (19 + i)) (m m_ 38) f a n k out ≠ true → Q (some (vi 0)) m) → cw_C d k_M_takesIn [vr m_, vi t, vi a, vi b, vi out] m Q
  | 0, d, m, Q, t, a, b, n, k, out, dp, ov, hd, hm, ht, ha, hb, hn, hf, hab, hk, hH, h1, h0 => by
    subst hb
    obtain ⟨d, rfl⟩ : ∃ e, d = e + 1 := ⟨d - 1, by omega⟩
    exact M_takesIn0 hm (by omega) (by omega) h1 h0
  | f + 1, d, m, Q, t, a, b, n, k, out, dp, ov, hd, hm, ht, ha, hb, hn, hf, hab, hk, hH, h1, h0 => by
    subst hb
    obtain ⟨d, rfl⟩ : ∃ e, d = e + 1 := ⟨d - 1, by omega⟩
    by_cases n0 : n = 0
    · exact M_takesIn0 hm (by omega) n0 h1 h0
    have tk := t_ok (n := n) (k := k) (by omega) hk
    have ih := fun {Q : Option cw_V → cw_M → Prop} {a b n k out dp ov : Int} => M_takesIn f (d := d) (m := m) (Q := Q) (t := t) (a := a) (b := b) (n := n) (k := k) (out := out) (dp := dp) (ov := ov)
    by_cases kB : m m_kept_ (6 + (a + t_top n k)) = 2
    · have kB' := kB
      refine la_go_C hm 34 [] ?_
      refine br_t (show a ≠ a + n by omega) ?_
      show cw_C _ _ [vr m_, vi t, vi a, vi (a + n)] (m) _
      refine M_topOf hm ht ha (by omega) (by omega) hab hk hH ⟨hm, ?_⟩
      refine And.intro (show -2147483648 ≤ 6 + (a + t_top n k) ∧ 6 + (a + t_top n k) < 2147483648 by omega) ?_
      refine And.intro (show 0 ≤ 6 + (a + t_top n k) ∧ 6 + (a + t_top n k) < 5658 by omega) ?_
      refine br_f (show ¬ (m m_kept_ (6 + (a + t_top n k)) ≠ 2) by omega) ?_
      refine And.intro (show -2147483648 ≤ (a + t_top n k) + 1 ∧ (a + t_top n k) + 1 < 2147483648 by omega) ?_
      show cw_C _ _ [vr m_, vi ((a + t_top n k) + 1), vi (a + n)] (m) _
      refine M_namedIn hm (by omega) ⟨hm, ?_⟩
      show cw_C _ _ [vr m_, vi t, vi a, vi (a + t_top n k), vi (cw_ior out (g_nm (fun i => m m_kept_ (19 + i)) (a + t_top n k) (a + n)))] (m) _
      refine ih (by omega) hm ht (by omega) (by omega) (by omega) (by omega) (by omega) tk.2.1 (H_pL hH tk.1.2) (fun (x67 : g_tk (fun j => m m_kept_ (6 + j)) (fun i => m m_kept_ (19 + i)) (m m_ 38) f a (t_top n k) (t_lk n k) (cw_ior out (g_nm (fun i => m m_kept_ (19 + i)) (a + t_top n k) (a + n))) = true) => ⟨hm, ?_⟩) (fun (x67 : g_tk (fun j => m m_kept_ (6 + j)) (fun i => m m_kept_ (19 + i)) (m m_ 38) f a (t_top n k) (t_lk n k) (cw_ior out (g_nm (fun i => m m_kept_ (19 + i)) (a + t_top n k) (a + n))) ≠ true) => ⟨hm, ?_⟩)
      · refine And.intro (Or.inr rfl) ?_
        show Q (some (vi 1)) (m)
        exact h1 (by rw [g_tkB (by omega) kB]; exact x67)
      · refine And.intro (Or.inl rfl) ?_
        show Q (some (vi 0)) (m)
        exact h0 (by rw [g_tkB (by omega) kB]; exact x67)
    · have kB' := kB
      refine la_go_C hm 39 [] ?_
      refine br_t (show a ≠ a + n by omega) ?_
      show cw_C _ _ [vr m_, vi t, vi a, vi (a + n)] (m) _
      refine M_topOf hm ht ha (by omega) (by omega) hab hk hH ⟨hm, ?_⟩
      refine And.intro (show -2147483648 ≤ 6 + (a + t_top n k) ∧ 6 + (a + t_top n k) < 2147483648 by omega) ?_
      refine And.intro (show 0 ≤ 6 + (a + t_top n k) ∧ 6 + (a + t_top n k) < 5658 by omega) ?_
      refine br_t (show m m_kept_ (6 + (a + t_top n k)) ≠ 2 by omega) ?_
      show cw_C _ _ [vr m_, vi t, vi a, vi (a + t_top n k), vi out] (m) _
      refine ih (by omega) hm ht (by omega) (by omega) (by omega) (by omega) (by omega) tk.2.1 (H_pL hH tk.1.2) (fun (x78 : g_tk (fun j => m m_kept_ (6 + j)) (fun i => m m_kept_ (19 + i)) (m m_ 38) f a (t_top n k) (t_lk n k) out = true) => ⟨hm, ?_⟩) (fun (x78 : g_tk (fun j => m m_kept_ (6 + j)) (fun i => m m_kept_ (19 + i)) (m m_ 38) f a (t_top n k) (t_lk n k) out ≠ true) => ⟨hm, ?_⟩)
      · refine br_t (show (1 : Int) ≠ 0 by decide) ?_
        refine And.intro (Or.inr rfl) ?_
        show Q (some (vi 1)) (m)
        exact h1 (by rw [g_tkO (by omega) kB, Bool.or_eq_true]; first | exact Or.inl x78 | exact Or.inr x93)
      · refine br_f (show ¬ ((0 : Int) ≠ 0) by decide) ?_
        refine And.intro (show -2147483648 ≤ (a + t_top n k) + 1 ∧ (a + t_top n k) + 1 < 2147483648 by omega) ?_
        show cw_C _ _ [vr m_, vi t, vi ((a + t_top n k) + 1), vi (a + n), vi out] (m) _
        refine ih (by omega) hm ht (by omega) (by omega) (by omega) (by omega) (by omega) tk.2.2.1 (H_pR hH tk.1.1) (fun (x93 : g_tk (fun j => m m_kept_ (6 + j)) (fun i => m m_kept_ (19 + i)) (m m_ 38) f (a + t_top n k + 1) (n - t_top n k - 1) (t_rk n k) out = true) => ⟨hm, ?_⟩) (fun (x93 : g_tk (fun j => m m_kept_ (6 + j)) (fun i => m m_kept_ (19 + i)) (m m_ 38) f (a + t_top n k + 1) (n - t_top n k - 1) (t_rk n k) out ≠ true) => ⟨hm, ?_⟩)
        · refine br_f (show ¬ ((1 : Int) = 0) by decide) ?_
          refine And.intro (Or.inr rfl) ?_
          show Q (some (vi 1)) (m)
          exact h1 (by rw [g_tkO (by omega) kB, Bool.or_eq_true]; first | exact Or.inl x78 | exact Or.inr x93)
        · refine br_t (show (0 : Int) = 0 by decide) ?_
          refine And.intro (Or.inl rfl) ?_
          show Q (some (vi 0)) (m)
          exact h0 (by rw [g_tkO (by omega) kB, ne_eq, Bool.or_eq_true]; exact fun z => z.elim x78 x93)
theorem M_shareAt2 {d : Nat} {m : cw_M} {Q : Option cw_V → cw_M → Prop} (hm0 : la_ok m) (hK : K_r (m m_kept_)) {as wd gt : Int → Int} {ga gb gc gd : Int} {jn lf rg wt lf' rg' : Int} (e1 : lf = lf') (e2 : rg = rg') (h1 : -1 ≤ jn ∧ jn ≤ 6) (h2 : -1 ≤ lf' ∧ lf' ≤ 7) (h3 : -1 ≤ rg' ∧ rg' ≤ 7) (h4 : 0 ≤ wt ∧ wt ≤ 9999) (hQ : ∀ as ga gb gc gd, Q (some (vi (l_Sh (m m_kept_) (m m_kept_ 50) (m m_kept_ 18) jn lf' rg' wt))) (g_m m as wd gt ga gb gc gd)) : cw_C (d + 77) k_M_shareAt [vr m_, vi jn, vi lf, vi rg, vi wt] (g_m m as wd gt ga gb gc gd) Q := by
  subst e1; subst e2
  exact M_shareAt hm0 hK h1 h2 h3 h4 hQ
theorem M_goesTo0 {d : Nat} {m : cw_M} {Q : Option cw_V → cw_M → Prop} {f : Nat} (hd : f + 1 ≤ d) (hm0 : la_ok m) (hK : K_r (m m_kept_)) {as wd gt : Int → Int} {ga gb gc gd : Int} {t a n k out worth dp ov : Int} (ht : 0 ≤ t ∧ t < 132) (ha : 0 ≤ a) (hn : n = 0) (hf : n ≤ f) (hab : a + n ≤ 6) (hk : 0 ≤ k ∧ k < t_c n) (hH : H_p m t f a n k dp ov) (hw : 0 ≤ worth ∧ worth ≤ 9999) (hwd : (∀ p, 0 ≤ p → p < 6 → 0 ≤ wd p ∧ wd p + worth ≤ 9999)) (hQ : (∀ as ga gb gc gd, Q none (g_m m as (g_go (fun j => m m_kept_ (6 + j)) (fun i => m m_kept_ (19 + i)) (m m_ 38) (l_Sh (m m_kept_) (m m_kept_ 50) (m m_kept_ 18)) f a n k out worth wd) gt ga gb gc gd))) : cw_C (d + 78) k_M_goesTo [vr m_, vi t, vi a, vi (a + n), vi worth, vi out] (g_m m as wd gt ga gb gc gd) Q := by
  have hm : la_ok (g_m m as wd gt ga gb gc gd) := g_m_ok hm0
  have nr := hK.2.2.2.2.2.1 a ha (by omega)
  have wr := hwd _ nr.1 nr.2
  refine la_go_C hm 27 [] ?_
  show cw_C _ _ [vr m_, vi t, vi a, vi (a + n), vi out] (g_m m as wd gt ga gb gc gd) _
  refine M_takesIn f (by omega) hm ht ha rfl (by omega) (by omega) hab hk hH (fun (x6 : g_tk (fun j => m m_kept_ (6 + j)) (fun i => m m_kept_ (19 + i)) (m m_ 38) f a n k out = true) => ⟨hm, ?_⟩) (fun (x6 : g_tk (fun j => m m_kept_ (6 + j)) (fun i => m m_kept_ (19 + i)) (m m_ 38) f a n k out ≠ true) => ⟨hm, ?_⟩)
  · refine br_t (show (1 : Int) ≠ 0 by decide) ?_
    refine br_f (show ¬ (a ≠ a + n) by omega) ?_
    refine And.intro (show -2147483648 ≤ 19 + a ∧ 19 + a < 2147483648 by omega) ?_
    refine And.intro (show 0 ≤ 19 + a ∧ 19 + a < 5658 by omega) ?_
    refine And.intro (show 0 ≤ m m_kept_ (19 + a) ∧ m m_kept_ (19 + a) < 6 by omega) ?_
    refine And.intro (show -2147483648 ≤ (wd (m m_kept_ (19 + a))) + worth ∧ (wd (m m_kept_ (19 + a))) + worth < 2147483648 by omega) ?_
    refine And.intro (show 0 ≤ m m_kept_ (19 + a) ∧ m m_kept_ (19 + a) < 6 by omega) ?_
    have hm21 : la_ok (cw_put (g_m m as wd gt ga gb gc gd) m_would_ (m m_kept_ (19 + a)) ((wd (m m_kept_ (19 + a))) + worth)) := la_put hm (by decide) (Or.inr (by decide))
    show Q none (cw_put (g_m m as wd gt ga gb gc gd) m_would_ (m m_kept_ (19 + a)) ((wd (m m_kept_ (19 + a))) + worth))
    rw [g_m_pwd]
    have hm22 : la_ok (g_m m as (cw_up wd (m m_kept_ (19 + a)) ((wd (m m_kept_ (19 + a))) + worth)) gt ga gb gc gd) := g_m_ok hm0
    have x6b := x6
    rw [g_tk0 (by omega)] at x6b
    have e : g_go (fun j => m m_kept_ (6 + j)) (fun i => m m_kept_ (19 + i)) (m m_ 38) (l_Sh (m m_kept_) (m m_kept_ 50) (m m_kept_ 18)) f a n k out worth wd = cw_up wd (m m_kept_ (19 + a)) ((wd (m m_kept_ (19 + a))) + worth) := by rw [g_go0 (by omega)]; unfold g_hr; rw [if_pos x6b]
    rw [e] at hQ
    exact hQ _ _ _ _ _
  · refine br_f (show ¬ ((0 : Int) ≠ 0) by decide) ?_
    show Q none (g_m m as wd gt ga gb gc gd)
    rw [g_goX f x6] at hQ
    exact hQ _ _ _ _ _
theorem M_goesTo : ∀ (f : Nat) {d : Nat} {m : cw_M} {Q : Option cw_V → cw_M → Prop} {as wd gt : Int → Int} {ga gb gc gd : Int} {t a b n k out worth dp ov : Int}, f + 79 ≤ d → la_ok m → K_r (m m_kept_) → 0 ≤ t ∧ t < 132 → 0 ≤ a → b = a + n → 0 ≤ n → n ≤ f → b ≤ 6 → 0 ≤ k ∧ k < t_c n → H_p m t f a n k dp ov → 0 ≤ worth ∧ worth ≤ 9999 → (∀ p, 0 ≤ p → p < 6 → 0 ≤ wd p ∧ wd p + worth ≤ 9999) → (∀ as ga gb gc gd, Q none (g_m m as (g_go (fun j => m m_kept_ (6 + j)) (fun i => m m_kept_ (19 + i)) (m m_ 38) (l_Sh (m m_kept_) (m m_kept_ 50) (m m_kept_ 18)) f a n k out worth wd) gt ga gb gc gd)) → cw_C d k_M_goesTo [vr m_, vi t, vi a, vi b, vi worth, vi out] (g_m m as wd gt ga gb gc gd) Q
  | 0, d, m, Q, as, wd, gt, ga, gb, gc, gd, t, a, b, n, k, out, worth, dp, ov, hd, hm0, hK, ht, ha, hb, hn, hf, hab, hk, hH, hw, hwd, hQ => by
    subst hb
    obtain ⟨d, rfl⟩ : ∃ e, d = e + 78 := ⟨d - 78, by omega⟩
    exact M_goesTo0 (by omega) hm0 hK ht ha (by omega) hf hab hk hH hw hwd hQ
  | f + 1, d, m, Q, as, wd, gt, ga, gb, gc, gd, t, a, b, n, k, out, worth, dp, ov, hd, hm0, hK, ht, ha, hb, hn, hf, hab, hk, hH, hw, hwd, hQ => by
    subst hb
    obtain ⟨d, rfl⟩ : ∃ e, d = e + 78 := ⟨d - 78, by omega⟩
    by_cases n0 : n = 0
    · exact M_goesTo0 (by omega) hm0 hK ht ha n0 hf hab hk hH hw hwd hQ
    have hm : la_ok (g_m m as wd gt ga gb gc gd) := g_m_ok hm0
    have tk := t_ok (n := n) (k := k) (by omega) hk
    have ih := fun {Q : Option cw_V → cw_M → Prop} {as wd gt : Int → Int} {ga gb gc gd : Int} {a b n k out worth dp ov : Int} => M_goesTo f (d := d + 77) (m := m) (Q := Q) (as := as) (wd := wd) (gt := gt) (ga := ga) (gb := gb) (gc := gc) (gd := gd) (t := t) (a := a) (b := b) (n := n) (k := k) (out := out) (worth := worth) (dp := dp) (ov := ov)
    by_cases kB : m m_kept_ (6 + (a + t_top n k)) = 2
    · have kB' := kB
      refine la_go_C hm 42 [] ?_
      show cw_C _ _ [vr m_, vi t, vi a, vi (a + n), vi out] (g_m m as wd gt ga gb gc gd) _
      refine M_takesIn (f + 1) (by omega) hm ht ha rfl (by omega) (by omega) hab hk hH (fun (x6 : g_tk (fun j => m m_kept_ (6 + j)) (fun i => m m_kept_ (19 + i)) (m m_ 38) (f + 1) a n k out = true) => ⟨hm, ?_⟩) (fun (x6 : g_tk (fun j => m m_kept_ (6 + j)) (fun i => m m_kept_ (19 + i)) (m m_ 38) (f + 1) a n k out ≠ true) => ⟨hm, ?_⟩)
      · refine br_t (show (1 : Int) ≠ 0 by decide) ?_
        refine br_t (show a ≠ a + n by omega) ?_
        show cw_C _ _ [vr m_, vi t, vi a, vi (a + n)] (g_m m as wd gt ga gb gc gd) _
        refine M_topOf hm ht ha (by omega) (by omega) hab hk hH ⟨hm, ?_⟩
        refine And.intro (show -2147483648 ≤ 6 + (a + t_top n k) ∧ 6 + (a + t_top n k) < 2147483648 by omega) ?_
        refine And.intro (show 0 ≤ 6 + (a + t_top n k) ∧ 6 + (a + t_top n k) < 5658 by omega) ?_
        refine br_f (show ¬ (m m_kept_ (6 + (a + t_top n k)) ≠ 2) by omega) ?_
        refine And.intro (show -2147483648 ≤ (a + t_top n k) + 1 ∧ (a + t_top n k) + 1 < 2147483648 by omega) ?_
        show cw_C _ _ [vr m_, vi ((a + t_top n k) + 1), vi (a + n)] (g_m m as wd gt ga gb gc gd) _
        refine M_namedIn hm (by omega) ⟨hm, ?_⟩
        show cw_C _ _ [vr m_, vi t, vi a, vi (a + t_top n k), vi worth, vi (cw_ior out (g_nm (fun i => m m_kept_ (19 + i)) (a + t_top n k) (a + n)))] (g_m m as wd gt ga gb gc gd) _
        refine ih (by omega) hm0 hK ht (by omega) (by omega) (by omega) (by omega) (by omega) tk.2.1 (H_pL hH tk.1.2) (by omega) (fun p p0 p1 => by have := hwd p p0 p1; omega) (fun (as21 : Int → Int) (ga21 gb21 gc21 gd21 : Int) => ⟨(g_m_ok hm0), ?_⟩)
        have gor1 := fun p => g_gor (kd := (fun j => m m_kept_ (6 + j))) (nm := (fun i => m m_kept_ (19 + i))) (fit := (m m_ 38)) (sh := (l_Sh (m m_kept_) (m m_kept_ 50) (m m_kept_ 18))) (fun _ _ _ _ => l_Shr) f (a := a) (n := (t_top n k)) (k := (t_lk n k)) (out := cw_ior out (g_nm (fun i => m m_kept_ (19 + i)) (a + t_top n k) (a + n))) (worth := worth) (wd := wd) p (by omega)
        show Q none (g_m m as21 (g_go (fun j => m m_kept_ (6 + j)) (fun i => m m_kept_ (19 + i)) (m m_ 38) (l_Sh (m m_kept_) (m m_kept_ 50) (m m_kept_ 18)) f a (t_top n k) (t_lk n k) (cw_ior out (g_nm (fun i => m m_kept_ (19 + i)) (a + t_top n k) (a + n))) worth wd) gt ga21 gb21 gc21 gd21)
        first
          | (exfalso; omega)
          | (rw [g_goX (f + 1) x6] at hQ; exact hQ _ _ _ _ _)
          | (rw [g_goB (by omega) kB] at hQ; exact hQ _ _ _ _ _)
          | (rw [g_goA (by omega) kA x91 x123] at hQ; exact hQ _ _ _ _ _)
          | (rw [g_goL (by omega) kB x91 (fun z => x123 z.1)] at hQ; exact hQ _ _ _ _ _)
          | (rw [g_goL (by omega) kB x91 (fun z => kA z.2)] at hQ; exact hQ _ _ _ _ _)
          | (rw [g_goR (by omega) kB x91 (by rw [g_tkO (by omega) kB, Bool.or_eq_true] at x6; exact x6.resolve_left x91), ← Int.sub_zero worth] at hQ; exact hQ _ _ _ _ _)
      · refine br_f (show ¬ ((0 : Int) ≠ 0) by decide) ?_
        show Q none (g_m m as wd gt ga gb gc gd)
        first
          | (exfalso; omega)
          | (rw [g_goX (f + 1) x6] at hQ; exact hQ _ _ _ _ _)
          | (rw [g_goB (by omega) kB] at hQ; exact hQ _ _ _ _ _)
          | (rw [g_goA (by omega) kA x91 x123] at hQ; exact hQ _ _ _ _ _)
          | (rw [g_goL (by omega) kB x91 (fun z => x123 z.1)] at hQ; exact hQ _ _ _ _ _)
          | (rw [g_goL (by omega) kB x91 (fun z => kA z.2)] at hQ; exact hQ _ _ _ _ _)
          | (rw [g_goR (by omega) kB x91 (by rw [g_tkO (by omega) kB, Bool.or_eq_true] at x6; exact x6.resolve_left x91), ← Int.sub_zero worth] at hQ; exact hQ _ _ _ _ _)
    have kN : (fun j => m m_kept_ (6 + j)) (a + t_top n k) ≠ 2 := kB
    by_cases kA : m m_kept_ (6 + (a + t_top n k)) = 0
    · have kA' := kA
      refine la_go_C hm 98 [] ?_
      show cw_C _ _ [vr m_, vi t, vi a, vi (a + n), vi out] (g_m m as wd gt ga gb gc gd) _
      refine M_takesIn (f + 1) (by omega) hm ht ha rfl (by omega) (by omega) hab hk hH (fun (x6 : g_tk (fun j => m m_kept_ (6 + j)) (fun i => m m_kept_ (19 + i)) (m m_ 38) (f + 1) a n k out = true) => ⟨hm, ?_⟩) (fun (x6 : g_tk (fun j => m m_kept_ (6 + j)) (fun i => m m_kept_ (19 + i)) (m m_ 38) (f + 1) a n k out ≠ true) => ⟨hm, ?_⟩)
      · refine br_t (show (1 : Int) ≠ 0 by decide) ?_
        refine br_t (show a ≠ a + n by omega) ?_
        show cw_C _ _ [vr m_, vi t, vi a, vi (a + n)] (g_m m as wd gt ga gb gc gd) _
        refine M_topOf hm ht ha (by omega) (by omega) hab hk hH ⟨hm, ?_⟩
        refine And.intro (show -2147483648 ≤ 6 + (a + t_top n k) ∧ 6 + (a + t_top n k) < 2147483648 by omega) ?_
        refine And.intro (show 0 ≤ 6 + (a + t_top n k) ∧ 6 + (a + t_top n k) < 5658 by omega) ?_
        refine br_t (show m m_kept_ (6 + (a + t_top n k)) ≠ 2 by omega) ?_
        show cw_C _ _ [vr m_, vi t, vi a, vi (a + t_top n k), vi out] (g_m m as wd gt ga gb gc gd) _
        refine M_takesIn f (by omega) hm ht (by omega) (by omega) (by omega) (by omega) (by omega) tk.2.1 (H_pL hH tk.1.2) (fun (x91 : g_tk (fun j => m m_kept_ (6 + j)) (fun i => m m_kept_ (19 + i)) (m m_ 38) f a (t_top n k) (t_lk n k) out = true) => ⟨hm, ?_⟩) (fun (x91 : g_tk (fun j => m m_kept_ (6 + j)) (fun i => m m_kept_ (19 + i)) (m m_ 38) f a (t_top n k) (t_lk n k) out ≠ true) => ⟨hm, ?_⟩)
        · refine br_f (show ¬ ((1 : Int) = 0) by decide) ?_
          refine And.intro (show -2147483648 ≤ 6 + (a + t_top n k) ∧ 6 + (a + t_top n k) < 2147483648 by omega) ?_
          refine And.intro (show 0 ≤ 6 + (a + t_top n k) ∧ 6 + (a + t_top n k) < 5658 by omega) ?_
          refine And.intro (fun (c21 : m m_kept_ (6 + (a + t_top n k)) ≠ 0) => ?_) (fun (c21 : ¬ (m m_kept_ (6 + (a + t_top n k)) ≠ 0)) => ?_)
          · refine br_t (show (0 : Int) = 0 by decide) ?_
            refine br_f (show ¬ ((1 : Int) = 0) by decide) ?_
            refine br_f (show ¬ ((1 : Int) = 0) by decide) ?_
            show cw_C _ _ [vr m_, vi t, vi a, vi (a + t_top n k), vi worth, vi out] (g_m m as wd gt ga gb gc gd) _
            refine ih (by omega) hm0 hK ht (by omega) (by omega) (by omega) (by omega) (by omega) tk.2.1 (H_pL hH tk.1.2) (by omega) (fun p p0 p1 => by have := hwd p p0 p1; omega) (fun (as22 : Int → Int) (ga22 gb22 gc22 gd22 : Int) => ⟨(g_m_ok hm0), ?_⟩)
            have gor1 := fun p => g_gor (kd := (fun j => m m_kept_ (6 + j))) (nm := (fun i => m m_kept_ (19 + i))) (fit := (m m_ 38)) (sh := (l_Sh (m m_kept_) (m m_kept_ 50) (m m_kept_ 18))) (fun _ _ _ _ => l_Shr) f (a := a) (n := (t_top n k)) (k := (t_lk n k)) (out := out) (worth := worth) (wd := wd) p (by omega)
            refine br_f (show ¬ ((0 : Int) ≠ 0) by decide) ?_
            refine br_t (show (1 : Int) ≠ 0 by decide) ?_
            show Q none (g_m m as22 (g_go (fun j => m m_kept_ (6 + j)) (fun i => m m_kept_ (19 + i)) (m m_ 38) (l_Sh (m m_kept_) (m m_kept_ 50) (m m_kept_ 18)) f a (t_top n k) (t_lk n k) out worth wd) gt ga22 gb22 gc22 gd22)
            first
              | (exfalso; omega)
              | (rw [g_goX (f + 1) x6] at hQ; exact hQ _ _ _ _ _)
              | (rw [g_goB (by omega) kB] at hQ; exact hQ _ _ _ _ _)
              | (rw [g_goA (by omega) kA x91 x123] at hQ; exact hQ _ _ _ _ _)
              | (rw [g_goL (by omega) kB x91 (fun z => x123 z.1)] at hQ; exact hQ _ _ _ _ _)
              | (rw [g_goL (by omega) kB x91 (fun z => kA z.2)] at hQ; exact hQ _ _ _ _ _)
              | (rw [g_goR (by omega) kB x91 (by rw [g_tkO (by omega) kB, Bool.or_eq_true] at x6; exact x6.resolve_left x91), ← Int.sub_zero worth] at hQ; exact hQ _ _ _ _ _)
          · refine And.intro (show -2147483648 ≤ (a + t_top n k) + 1 ∧ (a + t_top n k) + 1 < 2147483648 by omega) ?_
            show cw_C _ _ [vr m_, vi t, vi ((a + t_top n k) + 1), vi (a + n), vi out] (g_m m as wd gt ga gb gc gd) _
            refine M_takesIn f (by omega) hm ht (by omega) (by omega) (by omega) (by omega) (by omega) tk.2.2.1 (H_pR hH tk.1.1) (fun (x123 : g_tk (fun j => m m_kept_ (6 + j)) (fun i => m m_kept_ (19 + i)) (m m_ 38) f (a + t_top n k + 1) (n - t_top n k - 1) (t_rk n k) out = true) => ⟨hm, ?_⟩) (fun (x123 : g_tk (fun j => m m_kept_ (6 + j)) (fun i => m m_kept_ (19 + i)) (m m_ 38) f (a + t_top n k + 1) (n - t_top n k - 1) (t_rk n k) out ≠ true) => ⟨hm, ?_⟩)
            · refine br_f (show ¬ ((1 : Int) = 0) by decide) ?_
              refine br_f (show ¬ ((1 : Int) = 0) by decide) ?_
              refine And.intro (show -2147483648 ≤ (a + t_top n k) - a ∧ (a + t_top n k) - a < 2147483648 by omega) ?_
              refine And.intro (show -2147483648 ≤ ((a + t_top n k) - a) + 1 ∧ ((a + t_top n k) - a) + 1 < 2147483648 by omega) ?_
              refine And.intro (show -2147483648 ≤ (a + n) - (a + t_top n k) ∧ (a + n) - (a + t_top n k) < 2147483648 by omega) ?_
              show cw_C _ _ [vr m_, vi (a + t_top n k), vi (((a + t_top n k) - a) + 1), vi ((a + n) - (a + t_top n k)), vi worth] (g_m m as wd gt ga gb gc gd) _
              refine M_shareAt2 hm0 hK (lf' := t_top n k + 1) (rg' := n - t_top n k) (by omega) (by omega) (by omega) (by omega) (by omega) (by omega) (fun (as23 : Int → Int) (ga23 gb23 gc23 gd23 : Int) => ⟨(g_m_ok hm0), ?_⟩)
              have hsb := g_shb hw (l_Shr (K := m m_kept_) (fc := m m_kept_ 50) (yr := m m_kept_ 18) (j := a + t_top n k) (l := t_top n k + 1) (r := n - t_top n k) (w := worth))
              refine And.intro (show -2147483648 ≤ worth * (l_Sh (m m_kept_) (m m_kept_ 50) (m m_kept_ 18) (a + t_top n k) (t_top n k + 1) (n - t_top n k) worth) ∧ worth * (l_Sh (m m_kept_) (m m_kept_ 50) (m m_kept_ 18) (a + t_top n k) (t_top n k + 1) (n - t_top n k) worth) < 2147483648 by omega) ?_
              refine And.intro (show 0 ≤ worth * (l_Sh (m m_kept_) (m m_kept_ 50) (m m_kept_ 18) (a + t_top n k) (t_top n k + 1) (n - t_top n k) worth) ∧ worth * (l_Sh (m m_kept_) (m m_kept_ 50) (m m_kept_ 18) (a + t_top n k) (t_top n k + 1) (n - t_top n k) worth) < 2147483648 ∧ 0 < 100 by omega) ?_
              refine br_f (show ¬ ((1 : Int) = 0) by decide) ?_
              show cw_C _ _ [vr m_, vi t, vi a, vi (a + t_top n k), vi ((worth * (l_Sh (m m_kept_) (m m_kept_ 50) (m m_kept_ 18) (a + t_top n k) (t_top n k + 1) (n - t_top n k) worth)) / 100), vi out] (g_m m as23 wd gt ga23 gb23 gc23 gd23) _
              refine ih (by omega) hm0 hK ht (by omega) (by omega) (by omega) (by omega) (by omega) tk.2.1 (H_pL hH tk.1.2) (by omega) (fun p p0 p1 => by have := hwd p p0 p1; omega) (fun (as24 : Int → Int) (ga24 gb24 gc24 gd24 : Int) => ⟨(g_m_ok hm0), ?_⟩)
              have gor1 := fun p => g_gor (kd := (fun j => m m_kept_ (6 + j))) (nm := (fun i => m m_kept_ (19 + i))) (fit := (m m_ 38)) (sh := (l_Sh (m m_kept_) (m m_kept_ 50) (m m_kept_ 18))) (fun _ _ _ _ => l_Shr) f (a := a) (n := (t_top n k)) (k := (t_lk n k)) (out := out) (worth := (worth * (l_Sh (m m_kept_) (m m_kept_ 50) (m m_kept_ 18) (a + t_top n k) (t_top n k + 1) (n - t_top n k) worth)) / 100) (wd := wd) p (by omega)
              refine br_t (show (1 : Int) ≠ 0 by decide) ?_
              refine And.intro (show -2147483648 ≤ (a + t_top n k) + 1 ∧ (a + t_top n k) + 1 < 2147483648 by omega) ?_
              refine And.intro (show -2147483648 ≤ worth - ((worth * (l_Sh (m m_kept_) (m m_kept_ 50) (m m_kept_ 18) (a + t_top n k) (t_top n k + 1) (n - t_top n k) worth)) / 100) ∧ worth - ((worth * (l_Sh (m m_kept_) (m m_kept_ 50) (m m_kept_ 18) (a + t_top n k) (t_top n k + 1) (n - t_top n k) worth)) / 100) < 2147483648 by omega) ?_
              show cw_C _ _ [vr m_, vi t, vi ((a + t_top n k) + 1), vi (a + n), vi (worth - ((worth * (l_Sh (m m_kept_) (m m_kept_ 50) (m m_kept_ 18) (a + t_top n k) (t_top n k + 1) (n - t_top n k) worth)) / 100)), vi out] (g_m m as24 (g_go (fun j => m m_kept_ (6 + j)) (fun i => m m_kept_ (19 + i)) (m m_ 38) (l_Sh (m m_kept_) (m m_kept_ 50) (m m_kept_ 18)) f a (t_top n k) (t_lk n k) out ((worth * (l_Sh (m m_kept_) (m m_kept_ 50) (m m_kept_ 18) (a + t_top n k) (t_top n k + 1) (n - t_top n k) worth)) / 100) wd) gt ga24 gb24 gc24 gd24) _
              refine ih (by omega) hm0 hK ht (by omega) (by omega) (by omega) (by omega) (by omega) tk.2.2.1 (H_pR hH tk.1.1) (by omega) (fun p p0 p1 => by have := hwd p p0 p1; have := gor1 p; omega) (fun (as25 : Int → Int) (ga25 gb25 gc25 gd25 : Int) => ⟨(g_m_ok hm0), ?_⟩)
              show Q none (g_m m as25 (g_go (fun j => m m_kept_ (6 + j)) (fun i => m m_kept_ (19 + i)) (m m_ 38) (l_Sh (m m_kept_) (m m_kept_ 50) (m m_kept_ 18)) f (a + t_top n k + 1) (n - t_top n k - 1) (t_rk n k) out (worth - ((worth * (l_Sh (m m_kept_) (m m_kept_ 50) (m m_kept_ 18) (a + t_top n k) (t_top n k + 1) (n - t_top n k) worth)) / 100)) (g_go (fun j => m m_kept_ (6 + j)) (fun i => m m_kept_ (19 + i)) (m m_ 38) (l_Sh (m m_kept_) (m m_kept_ 50) (m m_kept_ 18)) f a (t_top n k) (t_lk n k) out ((worth * (l_Sh (m m_kept_) (m m_kept_ 50) (m m_kept_ 18) (a + t_top n k) (t_top n k + 1) (n - t_top n k) worth)) / 100) wd)) gt ga25 gb25 gc25 gd25)
              first
                | (exfalso; omega)
                | (rw [g_goX (f + 1) x6] at hQ; exact hQ _ _ _ _ _)
                | (rw [g_goB (by omega) kB] at hQ; exact hQ _ _ _ _ _)
                | (rw [g_goA (by omega) kA x91 x123] at hQ; exact hQ _ _ _ _ _)
                | (rw [g_goL (by omega) kB x91 (fun z => x123 z.1)] at hQ; exact hQ _ _ _ _ _)
                | (rw [g_goL (by omega) kB x91 (fun z => kA z.2)] at hQ; exact hQ _ _ _ _ _)
                | (rw [g_goR (by omega) kB x91 (by rw [g_tkO (by omega) kB, Bool.or_eq_true] at x6; exact x6.resolve_left x91), ← Int.sub_zero worth] at hQ; exact hQ _ _ _ _ _)
            · refine br_t (show (0 : Int) = 0 by decide) ?_
              refine br_t (show (0 : Int) = 0 by decide) ?_
              refine br_f (show ¬ ((1 : Int) = 0) by decide) ?_
              refine br_f (show ¬ ((1 : Int) = 0) by decide) ?_
              show cw_C _ _ [vr m_, vi t, vi a, vi (a + t_top n k), vi worth, vi out] (g_m m as wd gt ga gb gc gd) _
              refine ih (by omega) hm0 hK ht (by omega) (by omega) (by omega) (by omega) (by omega) tk.2.1 (H_pL hH tk.1.2) (by omega) (fun p p0 p1 => by have := hwd p p0 p1; omega) (fun (as26 : Int → Int) (ga26 gb26 gc26 gd26 : Int) => ⟨(g_m_ok hm0), ?_⟩)
              have gor1 := fun p => g_gor (kd := (fun j => m m_kept_ (6 + j))) (nm := (fun i => m m_kept_ (19 + i))) (fit := (m m_ 38)) (sh := (l_Sh (m m_kept_) (m m_kept_ 50) (m m_kept_ 18))) (fun _ _ _ _ => l_Shr) f (a := a) (n := (t_top n k)) (k := (t_lk n k)) (out := out) (worth := worth) (wd := wd) p (by omega)
              refine br_f (show ¬ ((0 : Int) ≠ 0) by decide) ?_
              refine br_t (show (1 : Int) ≠ 0 by decide) ?_
              show Q none (g_m m as26 (g_go (fun j => m m_kept_ (6 + j)) (fun i => m m_kept_ (19 + i)) (m m_ 38) (l_Sh (m m_kept_) (m m_kept_ 50) (m m_kept_ 18)) f a (t_top n k) (t_lk n k) out worth wd) gt ga26 gb26 gc26 gd26)
              first
                | (exfalso; omega)
                | (rw [g_goX (f + 1) x6] at hQ; exact hQ _ _ _ _ _)
                | (rw [g_goB (by omega) kB] at hQ; exact hQ _ _ _ _ _)
                | (rw [g_goA (by omega) kA x91 x123] at hQ; exact hQ _ _ _ _ _)
                | (rw [g_goL (by omega) kB x91 (fun z => x123 z.1)] at hQ; exact hQ _ _ _ _ _)
                | (rw [g_goL (by omega) kB x91 (fun z => kA z.2)] at hQ; exact hQ _ _ _ _ _)
                | (rw [g_goR (by omega) kB x91 (by rw [g_tkO (by omega) kB, Bool.or_eq_true] at x6; exact x6.resolve_left x91), ← Int.sub_zero worth] at hQ; exact hQ _ _ _ _ _)
        · refine br_t (show (0 : Int) = 0 by decide) ?_
          refine br_t (show (0 : Int) = 0 by decide) ?_
          refine br_t (show (0 : Int) = 0 by decide) ?_
          refine br_t (show (0 : Int) = 0 by decide) ?_
          refine br_f (show ¬ ((0 : Int) ≠ 0) by decide) ?_
          refine br_f (show ¬ ((0 : Int) ≠ 0) by decide) ?_
          refine And.intro (show -2147483648 ≤ (a + t_top n k) + 1 ∧ (a + t_top n k) + 1 < 2147483648 by omega) ?_
          refine And.intro (show -2147483648 ≤ worth - 0 ∧ worth - 0 < 2147483648 by omega) ?_
          show cw_C _ _ [vr m_, vi t, vi ((a + t_top n k) + 1), vi (a + n), vi (worth - 0), vi out] (g_m m as wd gt ga gb gc gd) _
          refine ih (by omega) hm0 hK ht (by omega) (by omega) (by omega) (by omega) (by omega) tk.2.2.1 (H_pR hH tk.1.1) (by omega) (fun p p0 p1 => by have := hwd p p0 p1; omega) (fun (as27 : Int → Int) (ga27 gb27 gc27 gd27 : Int) => ⟨(g_m_ok hm0), ?_⟩)
          have gor1 := fun p => g_gor (kd := (fun j => m m_kept_ (6 + j))) (nm := (fun i => m m_kept_ (19 + i))) (fit := (m m_ 38)) (sh := (l_Sh (m m_kept_) (m m_kept_ 50) (m m_kept_ 18))) (fun _ _ _ _ => l_Shr) f (a := a + t_top n k + 1) (n := n - t_top n k - 1) (k := t_rk n k) (out := out) (worth := worth - 0) (wd := wd) p (by omega)
          show Q none (g_m m as27 (g_go (fun j => m m_kept_ (6 + j)) (fun i => m m_kept_ (19 + i)) (m m_ 38) (l_Sh (m m_kept_) (m m_kept_ 50) (m m_kept_ 18)) f (a + t_top n k + 1) (n - t_top n k - 1) (t_rk n k) out (worth - 0) wd) gt ga27 gb27 gc27 gd27)
          first
            | (exfalso; omega)
            | (rw [g_goX (f + 1) x6] at hQ; exact hQ _ _ _ _ _)
            | (rw [g_goB (by omega) kB] at hQ; exact hQ _ _ _ _ _)
            | (rw [g_goA (by omega) kA x91 x123] at hQ; exact hQ _ _ _ _ _)
            | (rw [g_goL (by omega) kB x91 (fun z => x123 z.1)] at hQ; exact hQ _ _ _ _ _)
            | (rw [g_goL (by omega) kB x91 (fun z => kA z.2)] at hQ; exact hQ _ _ _ _ _)
            | (rw [g_goR (by omega) kB x91 (by rw [g_tkO (by omega) kB, Bool.or_eq_true] at x6; exact x6.resolve_left x91), ← Int.sub_zero worth] at hQ; exact hQ _ _ _ _ _)
      · refine br_f (show ¬ ((0 : Int) ≠ 0) by decide) ?_
        show Q none (g_m m as wd gt ga gb gc gd)
        first
          | (exfalso; omega)
          | (rw [g_goX (f + 1) x6] at hQ; exact hQ _ _ _ _ _)
          | (rw [g_goB (by omega) kB] at hQ; exact hQ _ _ _ _ _)
          | (rw [g_goA (by omega) kA x91 x123] at hQ; exact hQ _ _ _ _ _)
          | (rw [g_goL (by omega) kB x91 (fun z => x123 z.1)] at hQ; exact hQ _ _ _ _ _)
          | (rw [g_goL (by omega) kB x91 (fun z => kA z.2)] at hQ; exact hQ _ _ _ _ _)
          | (rw [g_goR (by omega) kB x91 (by rw [g_tkO (by omega) kB, Bool.or_eq_true] at x6; exact x6.resolve_left x91), ← Int.sub_zero worth] at hQ; exact hQ _ _ _ _ _)
    · have kA' := kA
      refine la_go_C hm 98 [] ?_
      show cw_C _ _ [vr m_, vi t, vi a, vi (a + n), vi out] (g_m m as wd gt ga gb gc gd) _
      refine M_takesIn (f + 1) (by omega) hm ht ha rfl (by omega) (by omega) hab hk hH (fun (x6 : g_tk (fun j => m m_kept_ (6 + j)) (fun i => m m_kept_ (19 + i)) (m m_ 38) (f + 1) a n k out = true) => ⟨hm, ?_⟩) (fun (x6 : g_tk (fun j => m m_kept_ (6 + j)) (fun i => m m_kept_ (19 + i)) (m m_ 38) (f + 1) a n k out ≠ true) => ⟨hm, ?_⟩)
      · refine br_t (show (1 : Int) ≠ 0 by decide) ?_
        refine br_t (show a ≠ a + n by omega) ?_
        show cw_C _ _ [vr m_, vi t, vi a, vi (a + n)] (g_m m as wd gt ga gb gc gd) _
        refine M_topOf hm ht ha (by omega) (by omega) hab hk hH ⟨hm, ?_⟩
        refine And.intro (show -2147483648 ≤ 6 + (a + t_top n k) ∧ 6 + (a + t_top n k) < 2147483648 by omega) ?_
        refine And.intro (show 0 ≤ 6 + (a + t_top n k) ∧ 6 + (a + t_top n k) < 5658 by omega) ?_
        refine br_t (show m m_kept_ (6 + (a + t_top n k)) ≠ 2 by omega) ?_
        show cw_C _ _ [vr m_, vi t, vi a, vi (a + t_top n k), vi out] (g_m m as wd gt ga gb gc gd) _
        refine M_takesIn f (by omega) hm ht (by omega) (by omega) (by omega) (by omega) (by omega) tk.2.1 (H_pL hH tk.1.2) (fun (x91 : g_tk (fun j => m m_kept_ (6 + j)) (fun i => m m_kept_ (19 + i)) (m m_ 38) f a (t_top n k) (t_lk n k) out = true) => ⟨hm, ?_⟩) (fun (x91 : g_tk (fun j => m m_kept_ (6 + j)) (fun i => m m_kept_ (19 + i)) (m m_ 38) f a (t_top n k) (t_lk n k) out ≠ true) => ⟨hm, ?_⟩)
        · refine br_f (show ¬ ((1 : Int) = 0) by decide) ?_
          refine And.intro (show -2147483648 ≤ 6 + (a + t_top n k) ∧ 6 + (a + t_top n k) < 2147483648 by omega) ?_
          refine And.intro (show 0 ≤ 6 + (a + t_top n k) ∧ 6 + (a + t_top n k) < 5658 by omega) ?_
          refine And.intro (fun (c21 : m m_kept_ (6 + (a + t_top n k)) ≠ 0) => ?_) (fun (c21 : ¬ (m m_kept_ (6 + (a + t_top n k)) ≠ 0)) => ?_)
          · refine br_t (show (0 : Int) = 0 by decide) ?_
            refine br_f (show ¬ ((1 : Int) = 0) by decide) ?_
            refine br_f (show ¬ ((1 : Int) = 0) by decide) ?_
            show cw_C _ _ [vr m_, vi t, vi a, vi (a + t_top n k), vi worth, vi out] (g_m m as wd gt ga gb gc gd) _
            refine ih (by omega) hm0 hK ht (by omega) (by omega) (by omega) (by omega) (by omega) tk.2.1 (H_pL hH tk.1.2) (by omega) (fun p p0 p1 => by have := hwd p p0 p1; omega) (fun (as22 : Int → Int) (ga22 gb22 gc22 gd22 : Int) => ⟨(g_m_ok hm0), ?_⟩)
            have gor1 := fun p => g_gor (kd := (fun j => m m_kept_ (6 + j))) (nm := (fun i => m m_kept_ (19 + i))) (fit := (m m_ 38)) (sh := (l_Sh (m m_kept_) (m m_kept_ 50) (m m_kept_ 18))) (fun _ _ _ _ => l_Shr) f (a := a) (n := (t_top n k)) (k := (t_lk n k)) (out := out) (worth := worth) (wd := wd) p (by omega)
            refine br_f (show ¬ ((0 : Int) ≠ 0) by decide) ?_
            refine br_t (show (1 : Int) ≠ 0 by decide) ?_
            show Q none (g_m m as22 (g_go (fun j => m m_kept_ (6 + j)) (fun i => m m_kept_ (19 + i)) (m m_ 38) (l_Sh (m m_kept_) (m m_kept_ 50) (m m_kept_ 18)) f a (t_top n k) (t_lk n k) out worth wd) gt ga22 gb22 gc22 gd22)
            first
              | (exfalso; omega)
              | (rw [g_goX (f + 1) x6] at hQ; exact hQ _ _ _ _ _)
              | (rw [g_goB (by omega) kB] at hQ; exact hQ _ _ _ _ _)
              | (rw [g_goA (by omega) kA x91 x123] at hQ; exact hQ _ _ _ _ _)
              | (rw [g_goL (by omega) kB x91 (fun z => x123 z.1)] at hQ; exact hQ _ _ _ _ _)
              | (rw [g_goL (by omega) kB x91 (fun z => kA z.2)] at hQ; exact hQ _ _ _ _ _)
              | (rw [g_goR (by omega) kB x91 (by rw [g_tkO (by omega) kB, Bool.or_eq_true] at x6; exact x6.resolve_left x91), ← Int.sub_zero worth] at hQ; exact hQ _ _ _ _ _)
          · refine And.intro (show -2147483648 ≤ (a + t_top n k) + 1 ∧ (a + t_top n k) + 1 < 2147483648 by omega) ?_
            show cw_C _ _ [vr m_, vi t, vi ((a + t_top n k) + 1), vi (a + n), vi out] (g_m m as wd gt ga gb gc gd) _
            refine M_takesIn f (by omega) hm ht (by omega) (by omega) (by omega) (by omega) (by omega) tk.2.2.1 (H_pR hH tk.1.1) (fun (x123 : g_tk (fun j => m m_kept_ (6 + j)) (fun i => m m_kept_ (19 + i)) (m m_ 38) f (a + t_top n k + 1) (n - t_top n k - 1) (t_rk n k) out = true) => ⟨hm, ?_⟩) (fun (x123 : g_tk (fun j => m m_kept_ (6 + j)) (fun i => m m_kept_ (19 + i)) (m m_ 38) f (a + t_top n k + 1) (n - t_top n k - 1) (t_rk n k) out ≠ true) => ⟨hm, ?_⟩)
            · refine br_f (show ¬ ((1 : Int) = 0) by decide) ?_
              refine br_f (show ¬ ((1 : Int) = 0) by decide) ?_
              refine And.intro (show -2147483648 ≤ (a + t_top n k) - a ∧ (a + t_top n k) - a < 2147483648 by omega) ?_
              refine And.intro (show -2147483648 ≤ ((a + t_top n k) - a) + 1 ∧ ((a + t_top n k) - a) + 1 < 2147483648 by omega) ?_
              refine And.intro (show -2147483648 ≤ (a + n) - (a + t_top n k) ∧ (a + n) - (a + t_top n k) < 2147483648 by omega) ?_
              show cw_C _ _ [vr m_, vi (a + t_top n k), vi (((a + t_top n k) - a) + 1), vi ((a + n) - (a + t_top n k)), vi worth] (g_m m as wd gt ga gb gc gd) _
              refine M_shareAt2 hm0 hK (lf' := t_top n k + 1) (rg' := n - t_top n k) (by omega) (by omega) (by omega) (by omega) (by omega) (by omega) (fun (as23 : Int → Int) (ga23 gb23 gc23 gd23 : Int) => ⟨(g_m_ok hm0), ?_⟩)
              have hsb := g_shb hw (l_Shr (K := m m_kept_) (fc := m m_kept_ 50) (yr := m m_kept_ 18) (j := a + t_top n k) (l := t_top n k + 1) (r := n - t_top n k) (w := worth))
              refine And.intro (show -2147483648 ≤ worth * (l_Sh (m m_kept_) (m m_kept_ 50) (m m_kept_ 18) (a + t_top n k) (t_top n k + 1) (n - t_top n k) worth) ∧ worth * (l_Sh (m m_kept_) (m m_kept_ 50) (m m_kept_ 18) (a + t_top n k) (t_top n k + 1) (n - t_top n k) worth) < 2147483648 by omega) ?_
              refine And.intro (show 0 ≤ worth * (l_Sh (m m_kept_) (m m_kept_ 50) (m m_kept_ 18) (a + t_top n k) (t_top n k + 1) (n - t_top n k) worth) ∧ worth * (l_Sh (m m_kept_) (m m_kept_ 50) (m m_kept_ 18) (a + t_top n k) (t_top n k + 1) (n - t_top n k) worth) < 2147483648 ∧ 0 < 100 by omega) ?_
              refine br_f (show ¬ ((1 : Int) = 0) by decide) ?_
              show cw_C _ _ [vr m_, vi t, vi a, vi (a + t_top n k), vi ((worth * (l_Sh (m m_kept_) (m m_kept_ 50) (m m_kept_ 18) (a + t_top n k) (t_top n k + 1) (n - t_top n k) worth)) / 100), vi out] (g_m m as23 wd gt ga23 gb23 gc23 gd23) _
              refine ih (by omega) hm0 hK ht (by omega) (by omega) (by omega) (by omega) (by omega) tk.2.1 (H_pL hH tk.1.2) (by omega) (fun p p0 p1 => by have := hwd p p0 p1; omega) (fun (as24 : Int → Int) (ga24 gb24 gc24 gd24 : Int) => ⟨(g_m_ok hm0), ?_⟩)
              have gor1 := fun p => g_gor (kd := (fun j => m m_kept_ (6 + j))) (nm := (fun i => m m_kept_ (19 + i))) (fit := (m m_ 38)) (sh := (l_Sh (m m_kept_) (m m_kept_ 50) (m m_kept_ 18))) (fun _ _ _ _ => l_Shr) f (a := a) (n := (t_top n k)) (k := (t_lk n k)) (out := out) (worth := (worth * (l_Sh (m m_kept_) (m m_kept_ 50) (m m_kept_ 18) (a + t_top n k) (t_top n k + 1) (n - t_top n k) worth)) / 100) (wd := wd) p (by omega)
              refine br_t (show (1 : Int) ≠ 0 by decide) ?_
              refine And.intro (show -2147483648 ≤ (a + t_top n k) + 1 ∧ (a + t_top n k) + 1 < 2147483648 by omega) ?_
              refine And.intro (show -2147483648 ≤ worth - ((worth * (l_Sh (m m_kept_) (m m_kept_ 50) (m m_kept_ 18) (a + t_top n k) (t_top n k + 1) (n - t_top n k) worth)) / 100) ∧ worth - ((worth * (l_Sh (m m_kept_) (m m_kept_ 50) (m m_kept_ 18) (a + t_top n k) (t_top n k + 1) (n - t_top n k) worth)) / 100) < 2147483648 by omega) ?_
              show cw_C _ _ [vr m_, vi t, vi ((a + t_top n k) + 1), vi (a + n), vi (worth - ((worth * (l_Sh (m m_kept_) (m m_kept_ 50) (m m_kept_ 18) (a + t_top n k) (t_top n k + 1) (n - t_top n k) worth)) / 100)), vi out] (g_m m as24 (g_go (fun j => m m_kept_ (6 + j)) (fun i => m m_kept_ (19 + i)) (m m_ 38) (l_Sh (m m_kept_) (m m_kept_ 50) (m m_kept_ 18)) f a (t_top n k) (t_lk n k) out ((worth * (l_Sh (m m_kept_) (m m_kept_ 50) (m m_kept_ 18) (a + t_top n k) (t_top n k + 1) (n - t_top n k) worth)) / 100) wd) gt ga24 gb24 gc24 gd24) _
              refine ih (by omega) hm0 hK ht (by omega) (by omega) (by omega) (by omega) (by omega) tk.2.2.1 (H_pR hH tk.1.1) (by omega) (fun p p0 p1 => by have := hwd p p0 p1; have := gor1 p; omega) (fun (as25 : Int → Int) (ga25 gb25 gc25 gd25 : Int) => ⟨(g_m_ok hm0), ?_⟩)
              show Q none (g_m m as25 (g_go (fun j => m m_kept_ (6 + j)) (fun i => m m_kept_ (19 + i)) (m m_ 38) (l_Sh (m m_kept_) (m m_kept_ 50) (m m_kept_ 18)) f (a + t_top n k + 1) (n - t_top n k - 1) (t_rk n k) out (worth - ((worth * (l_Sh (m m_kept_) (m m_kept_ 50) (m m_kept_ 18) (a + t_top n k) (t_top n k + 1) (n - t_top n k) worth)) / 100)) (g_go (fun j => m m_kept_ (6 + j)) (fun i => m m_kept_ (19 + i)) (m m_ 38) (l_Sh (m m_kept_) (m m_kept_ 50) (m m_kept_ 18)) f a (t_top n k) (t_lk n k) out ((worth * (l_Sh (m m_kept_) (m m_kept_ 50) (m m_kept_ 18) (a + t_top n k) (t_top n k + 1) (n - t_top n k) worth)) / 100) wd)) gt ga25 gb25 gc25 gd25)
              first
                | (exfalso; omega)
                | (rw [g_goX (f + 1) x6] at hQ; exact hQ _ _ _ _ _)
                | (rw [g_goB (by omega) kB] at hQ; exact hQ _ _ _ _ _)
                | (rw [g_goA (by omega) kA x91 x123] at hQ; exact hQ _ _ _ _ _)
                | (rw [g_goL (by omega) kB x91 (fun z => x123 z.1)] at hQ; exact hQ _ _ _ _ _)
                | (rw [g_goL (by omega) kB x91 (fun z => kA z.2)] at hQ; exact hQ _ _ _ _ _)
                | (rw [g_goR (by omega) kB x91 (by rw [g_tkO (by omega) kB, Bool.or_eq_true] at x6; exact x6.resolve_left x91), ← Int.sub_zero worth] at hQ; exact hQ _ _ _ _ _)
            · refine br_t (show (0 : Int) = 0 by decide) ?_
              refine br_t (show (0 : Int) = 0 by decide) ?_
              refine br_f (show ¬ ((1 : Int) = 0) by decide) ?_
              refine br_f (show ¬ ((1 : Int) = 0) by decide) ?_
              show cw_C _ _ [vr m_, vi t, vi a, vi (a + t_top n k), vi worth, vi out] (g_m m as wd gt ga gb gc gd) _
              refine ih (by omega) hm0 hK ht (by omega) (by omega) (by omega) (by omega) (by omega) tk.2.1 (H_pL hH tk.1.2) (by omega) (fun p p0 p1 => by have := hwd p p0 p1; omega) (fun (as26 : Int → Int) (ga26 gb26 gc26 gd26 : Int) => ⟨(g_m_ok hm0), ?_⟩)
              have gor1 := fun p => g_gor (kd := (fun j => m m_kept_ (6 + j))) (nm := (fun i => m m_kept_ (19 + i))) (fit := (m m_ 38)) (sh := (l_Sh (m m_kept_) (m m_kept_ 50) (m m_kept_ 18))) (fun _ _ _ _ => l_Shr) f (a := a) (n := (t_top n k)) (k := (t_lk n k)) (out := out) (worth := worth) (wd := wd) p (by omega)
              refine br_f (show ¬ ((0 : Int) ≠ 0) by decide) ?_
              refine br_t (show (1 : Int) ≠ 0 by decide) ?_
              show Q none (g_m m as26 (g_go (fun j => m m_kept_ (6 + j)) (fun i => m m_kept_ (19 + i)) (m m_ 38) (l_Sh (m m_kept_) (m m_kept_ 50) (m m_kept_ 18)) f a (t_top n k) (t_lk n k) out worth wd) gt ga26 gb26 gc26 gd26)
              first
                | (exfalso; omega)
                | (rw [g_goX (f + 1) x6] at hQ; exact hQ _ _ _ _ _)
                | (rw [g_goB (by omega) kB] at hQ; exact hQ _ _ _ _ _)
                | (rw [g_goA (by omega) kA x91 x123] at hQ; exact hQ _ _ _ _ _)
                | (rw [g_goL (by omega) kB x91 (fun z => x123 z.1)] at hQ; exact hQ _ _ _ _ _)
                | (rw [g_goL (by omega) kB x91 (fun z => kA z.2)] at hQ; exact hQ _ _ _ _ _)
                | (rw [g_goR (by omega) kB x91 (by rw [g_tkO (by omega) kB, Bool.or_eq_true] at x6; exact x6.resolve_left x91), ← Int.sub_zero worth] at hQ; exact hQ _ _ _ _ _)
        · refine br_t (show (0 : Int) = 0 by decide) ?_
          refine br_t (show (0 : Int) = 0 by decide) ?_
          refine br_t (show (0 : Int) = 0 by decide) ?_
          refine br_t (show (0 : Int) = 0 by decide) ?_
          refine br_f (show ¬ ((0 : Int) ≠ 0) by decide) ?_
          refine br_f (show ¬ ((0 : Int) ≠ 0) by decide) ?_
          refine And.intro (show -2147483648 ≤ (a + t_top n k) + 1 ∧ (a + t_top n k) + 1 < 2147483648 by omega) ?_
          refine And.intro (show -2147483648 ≤ worth - 0 ∧ worth - 0 < 2147483648 by omega) ?_
          show cw_C _ _ [vr m_, vi t, vi ((a + t_top n k) + 1), vi (a + n), vi (worth - 0), vi out] (g_m m as wd gt ga gb gc gd) _
          refine ih (by omega) hm0 hK ht (by omega) (by omega) (by omega) (by omega) (by omega) tk.2.2.1 (H_pR hH tk.1.1) (by omega) (fun p p0 p1 => by have := hwd p p0 p1; omega) (fun (as27 : Int → Int) (ga27 gb27 gc27 gd27 : Int) => ⟨(g_m_ok hm0), ?_⟩)
          have gor1 := fun p => g_gor (kd := (fun j => m m_kept_ (6 + j))) (nm := (fun i => m m_kept_ (19 + i))) (fit := (m m_ 38)) (sh := (l_Sh (m m_kept_) (m m_kept_ 50) (m m_kept_ 18))) (fun _ _ _ _ => l_Shr) f (a := a + t_top n k + 1) (n := n - t_top n k - 1) (k := t_rk n k) (out := out) (worth := worth - 0) (wd := wd) p (by omega)
          show Q none (g_m m as27 (g_go (fun j => m m_kept_ (6 + j)) (fun i => m m_kept_ (19 + i)) (m m_ 38) (l_Sh (m m_kept_) (m m_kept_ 50) (m m_kept_ 18)) f (a + t_top n k + 1) (n - t_top n k - 1) (t_rk n k) out (worth - 0) wd) gt ga27 gb27 gc27 gd27)
          first
            | (exfalso; omega)
            | (rw [g_goX (f + 1) x6] at hQ; exact hQ _ _ _ _ _)
            | (rw [g_goB (by omega) kB] at hQ; exact hQ _ _ _ _ _)
            | (rw [g_goA (by omega) kA x91 x123] at hQ; exact hQ _ _ _ _ _)
            | (rw [g_goL (by omega) kB x91 (fun z => x123 z.1)] at hQ; exact hQ _ _ _ _ _)
            | (rw [g_goL (by omega) kB x91 (fun z => kA z.2)] at hQ; exact hQ _ _ _ _ _)
            | (rw [g_goR (by omega) kB x91 (by rw [g_tkO (by omega) kB, Bool.or_eq_true] at x6; exact x6.resolve_left x91), ← Int.sub_zero worth] at hQ; exact hQ _ _ _ _ _)
      · refine br_f (show ¬ ((0 : Int) ≠ 0) by decide) ?_
        show Q none (g_m m as wd gt ga gb gc gd)
        first
          | (exfalso; omega)
          | (rw [g_goX (f + 1) x6] at hQ; exact hQ _ _ _ _ _)
          | (rw [g_goB (by omega) kB] at hQ; exact hQ _ _ _ _ _)
          | (rw [g_goA (by omega) kA x91 x123] at hQ; exact hQ _ _ _ _ _)
          | (rw [g_goL (by omega) kB x91 (fun z => x123 z.1)] at hQ; exact hQ _ _ _ _ _)
          | (rw [g_goL (by omega) kB x91 (fun z => kA z.2)] at hQ; exact hQ _ _ _ _ _)
          | (rw [g_goR (by omega) kB x91 (by rw [g_tkO (by omega) kB, Bool.or_eq_true] at x6; exact x6.resolve_left x91), ← Int.sub_zero worth] at hQ; exact hQ _ _ _ _ _)
