/-! Who takes, what is given, by the class (wip/whole/tools/m115.py). -/
theorem c_Jb {w : Int → Int} {j l r wt : Int} (hw : ∀ i, 6 ≤ i → i < 17 → -1000000 ≤ w i ∧ w i ≤ 1000000) (hj : -1 ≤ j ∧ j ≤ 6) (hl : -1 ≤ l ∧ l ≤ 7) (hr : -1 ≤ r ∧ r ≤ 7) (ht : 0 ≤ wt ∧ wt ≤ 9999) : ∀ i, 0 ≤ i → i < 17 → -1000000 ≤ c_J w j l r wt i ∧ c_J w j l r wt i ≤ 1000000 := by
  intro i a b
  unfold c_J
  (repeat' split) <;> first | omega | exact hw i (by omega) b
theorem c_Pb {w : Int → Int} {p wt tm : Int} (hw : ∀ i, 6 ≤ i → i < 17 → -1000000 ≤ w i ∧ w i ≤ 1000000) (hp : -1 ≤ p ∧ p ≤ 6) (ht : 0 ≤ wt ∧ wt ≤ 9999) (hm : 0 ≤ tm ∧ tm ≤ 7) : ∀ i, 0 ≤ i → i < 17 → -1000000 ≤ c_P w p wt tm i ∧ c_P w p wt tm i ≤ 1000000 := by
  intro i a b
  unfold c_P
  (repeat' split) <;> first | omega | exact hw i (by omega) b
theorem c_wb {w w0 : Int → Int} (h : c_w w w0) (hw : ∀ i, 6 ≤ i → i < 17 → -1000000 ≤ w0 i ∧ w0 i ≤ 1000000) : ∀ i, 6 ≤ i → i < 17 → -1000000 ≤ w i ∧ w i ≤ 1000000 := fun i a b => by rw [h i (by omega)]; exact hw i a b
theorem c_wt {w w1 w0 : Int → Int} (h : c_w w w1) (h2 : c_w w1 w0) : c_w w w0 := fun i q => by rw [h i q, h2 i q]
/-- of each 100 what the left has, by the words behind -/
noncomputable def c_S (Ks : List p_K) (w0 : Int → Int) (j l r wt : Int) : Int := l_tl Ks 0 50 (c_J w0 j l r wt)
theorem c_Sr {Ks : List p_K} {w0 : Int → Int} {j l r wt : Int} : 0 ≤ c_S Ks w0 j l r wt ∧ c_S Ks w0 j l r wt ≤ 100 := l_tlr (by decide)
theorem Pa_takes2z {d : Nat} {m : cw_M} {Q : Option cw_V → cw_M → Prop} {f : Nat} {wd ws sk : Int → Int} {a n k out dp : Int} (hm : la_ok m) (ha : 0 ≤ a ∧ a ≤ 6) (hn : n = 0) (h1 : g_tk (m x_will_kinds_) (m x_will_owner_) (m x_ledger_paper_ 3) f a n k out = true → Q (some (vi 1)) (u2_m m wd ws sk x_forest_ x_will_)) (h0 : g_tk (m x_will_kinds_) (m x_will_owner_) (m x_ledger_paper_ 3) f a n k out ≠ true → Q (some (vi 0)) (u2_m m wd ws sk x_forest_ x_will_)) : cw_C (d + 2) k_Pa_takes [vr x_ledger_paper_, vi a, vi (a + n), vi out, vi dp] (u2_m m wd ws sk x_forest_ x_will_) Q := by
  refine la_go_C (u2_m_ok hm) 11 [] ?_
  refine br_f (show ¬ (a < a + n) by omega) ?_
  show cw_C _ _ [vr x_ledger_paper_, vi a, vi out] (u2_m m wd ws sk x_forest_ x_will_) _
  refine Pa_isHeir2 hm (by omega) (fun (x8 : g_lf (m x_ledger_paper_ 3) out (m x_will_owner_ a) = true) => ⟨(u2_m_ok hm), ?_⟩) (fun (x8 : g_lf (m x_ledger_paper_ 3) out (m x_will_owner_ a) = false) => ⟨(u2_m_ok hm), ?_⟩)
  · refine And.intro (Or.inr rfl) ?_
    show Q (some (vi 1)) (u2_m m wd ws sk x_forest_ x_will_)
    exact h1 (by rw [g_tk0 (by omega)]; exact x8)
  · refine And.intro (Or.inl rfl) ?_
    show Q (some (vi 0)) (u2_m m wd ws sk x_forest_ x_will_)
    exact h0 (by rw [g_tk0 (by omega), x8]; decide)
theorem Pa_takes2 : ∀ (f : Nat) {d : Nat} {m : cw_M} {Q : Option cw_V → cw_M → Prop} {wd ws sk : Int → Int} {a b n k out dp ov : Int}, f + 2 ≤ d → la_ok m → 0 ≤ a → b = a + n → 0 ≤ n → n ≤ f → b ≤ 6 → 0 ≤ dp ∧ dp + n ≤ 6 → 0 ≤ m x_ledger_paper_ 8 ∧ m x_ledger_paper_ 8 ≤ 786 → 0 ≤ k ∧ k < t_c n → t_pl (fun q => q.2.2.1) (m x_forest_deep_) (m x_ledger_paper_ 8) f a n k dp ov → (g_tk (m x_will_kinds_) (m x_will_owner_) (m x_ledger_paper_ 3) f a n k out = true → Q (some (vi 1)) (u2_m m wd ws sk x_forest_ x_will_)) → (g_tk (m x_will_kinds_) (m x_will_owner_) (m x_ledger_paper_ 3) f a n k out ≠ true → Q (some (vi 0)) (u2_m m wd ws sk x_forest_ x_will_)) → cw_C d k_Pa_takes [vr x_ledger_paper_, vi a, vi b, vi out, vi dp] (u2_m m wd ws sk x_forest_ x_will_) Q
  | 0, d, m, Q, wd, ws, sk, a, b, n, k, out, dp, ov, hd, hm, ha, hb, hn, hf, hab, hdp, h8, hk, hH, h1, h0 => by
    subst hb
    obtain ⟨d, rfl⟩ : ∃ e, d = e + 2 := ⟨d - 2, by omega⟩
    exact Pa_takes2z hm (by omega) (by omega) h1 h0
  | f + 1, d, m, Q, wd, ws, sk, a, b, n, k, out, dp, ov, hd, hm, ha, hb, hn, hf, hab, hdp, h8, hk, hH, h1, h0 => by
    subst hb
    by_cases n0 : n = 0
    · obtain ⟨d, rfl⟩ : ∃ e, d = e + 2 := ⟨d - 2, by omega⟩
      exact Pa_takes2z hm (by omega) n0 h1 h0
    obtain ⟨d, rfl⟩ : ∃ e, d = e + 1 := ⟨d - 1, by omega⟩
    have tk := t_ok (n := n) (k := k) (by omega) hk
    have ih := fun {Q : Option cw_V → cw_M → Prop} {a b n k out dp ov : Int} => Pa_takes2 f (d := d) (m := m) (Q := Q) (wd := wd) (ws := ws) (sk := sk) (a := a) (b := b) (n := n) (k := k) (out := out) (dp := dp) (ov := ov)
    by_cases kB : m x_will_kinds_ (a + t_top n k) = 2
    · skip
      refine la_go_C (u2_m_ok hm) 39 [] ?_
      refine br_t (show a < a + n by omega) ?_
      show cw_C _ _ [vr x_ledger_paper_, vi a, vi (a + n), vi dp] (u2_m m wd ws sk x_forest_ x_will_) _
      refine Pa_topOf2 (f := f) (n := n) (k := k) (ov := ov) hm rfl (by omega) (by omega) (by omega) hk h8 hH ⟨(u2_m_ok hm), ?_⟩
      refine br_t (show a + t_top n k ≠ (-1) by omega) ?_
      refine And.intro (show 0 ≤ a + t_top n k ∧ a + t_top n k < 6 by omega) ?_
      refine br_f (show ¬ (m x_will_kinds_ (a + t_top n k) ≠ 2) by omega) ?_
      refine And.intro (show -2147483648 ≤ (a + t_top n k) + 1 ∧ (a + t_top n k) + 1 < 2147483648 by omega) ?_
      show cw_C _ _ [vr x_will_, vi ((a + t_top n k) + 1), vi (a + n)] (u2_m m wd ws sk x_forest_ x_will_) _
      refine Wi_namedMask (u2_m_ok hm) (by omega) ⟨(u2_m_ok hm), ?_⟩
      refine And.intro (show -2147483648 ≤ dp + 1 ∧ dp + 1 < 2147483648 by omega) ?_
      show cw_C _ _ [vr x_ledger_paper_, vi a, vi (a + t_top n k), vi (cw_ior out (g_nm (m x_will_owner_) (a + t_top n k) (a + n))), vi (dp + 1)] (u2_m m wd ws sk x_forest_ x_will_) _
      refine ih (by omega) hm (by omega) (by omega) (by omega) (by omega) (by omega) (by omega) h8 tk.2.1 (t_plL hH tk.1.2) (fun (x66 : g_tk (m x_will_kinds_) (m x_will_owner_) (m x_ledger_paper_ 3) f a (t_top n k) (t_lk n k) (cw_ior out (g_nm (m x_will_owner_) (a + t_top n k) (a + n))) = true) => ⟨(u2_m_ok hm), ?_⟩) (fun (x66 : g_tk (m x_will_kinds_) (m x_will_owner_) (m x_ledger_paper_ 3) f a (t_top n k) (t_lk n k) (cw_ior out (g_nm (m x_will_owner_) (a + t_top n k) (a + n))) ≠ true) => ⟨(u2_m_ok hm), ?_⟩)
      · refine And.intro (Or.inr rfl) ?_
        show Q (some (vi 1)) (u2_m m wd ws sk x_forest_ x_will_)
        exact h1 (by rw [g_tkB (by omega) kB]; exact x66)
      · refine And.intro (Or.inl rfl) ?_
        show Q (some (vi 0)) (u2_m m wd ws sk x_forest_ x_will_)
        exact h0 (by rw [g_tkB (by omega) kB]; exact x66)
    · skip
      refine la_go_C (u2_m_ok hm) 45 [] ?_
      refine br_t (show a < a + n by omega) ?_
      show cw_C _ _ [vr x_ledger_paper_, vi a, vi (a + n), vi dp] (u2_m m wd ws sk x_forest_ x_will_) _
      refine Pa_topOf2 (f := f) (n := n) (k := k) (ov := ov) hm rfl (by omega) (by omega) (by omega) hk h8 hH ⟨(u2_m_ok hm), ?_⟩
      refine br_t (show a + t_top n k ≠ (-1) by omega) ?_
      refine And.intro (show 0 ≤ a + t_top n k ∧ a + t_top n k < 6 by omega) ?_
      refine br_t (show m x_will_kinds_ (a + t_top n k) ≠ 2 by omega) ?_
      refine And.intro (show -2147483648 ≤ dp + 1 ∧ dp + 1 < 2147483648 by omega) ?_
      show cw_C _ _ [vr x_ledger_paper_, vi a, vi (a + t_top n k), vi out, vi (dp + 1)] (u2_m m wd ws sk x_forest_ x_will_) _
      refine ih (by omega) hm (by omega) (by omega) (by omega) (by omega) (by omega) (by omega) h8 tk.2.1 (t_plL hH tk.1.2) (fun (x79 : g_tk (m x_will_kinds_) (m x_will_owner_) (m x_ledger_paper_ 3) f a (t_top n k) (t_lk n k) out = true) => ⟨(u2_m_ok hm), ?_⟩) (fun (x79 : g_tk (m x_will_kinds_) (m x_will_owner_) (m x_ledger_paper_ 3) f a (t_top n k) (t_lk n k) out ≠ true) => ⟨(u2_m_ok hm), ?_⟩)
      · refine br_t (show (1 : Int) ≠ 0 by decide) ?_
        refine And.intro (Or.inr rfl) ?_
        show Q (some (vi 1)) (u2_m m wd ws sk x_forest_ x_will_)
        exact h1 (by rw [g_tkO (by omega) kB, Bool.or_eq_true]; first | exact Or.inl x79 | exact Or.inr x96)
      · refine br_f (show ¬ ((0 : Int) ≠ 0) by decide) ?_
        refine And.intro (show -2147483648 ≤ (a + t_top n k) + 1 ∧ (a + t_top n k) + 1 < 2147483648 by omega) ?_
        refine And.intro (show -2147483648 ≤ dp + 1 ∧ dp + 1 < 2147483648 by omega) ?_
        show cw_C _ _ [vr x_ledger_paper_, vi ((a + t_top n k) + 1), vi (a + n), vi out, vi (dp + 1)] (u2_m m wd ws sk x_forest_ x_will_) _
        refine ih (by omega) hm (by omega) (by omega) (by omega) (by omega) (by omega) (by omega) h8 tk.2.2.1 (t_plR hH tk.1.1) (fun (x96 : g_tk (m x_will_kinds_) (m x_will_owner_) (m x_ledger_paper_ 3) f (a + t_top n k + 1) (n - t_top n k - 1) (t_rk n k) out = true) => ⟨(u2_m_ok hm), ?_⟩) (fun (x96 : g_tk (m x_will_kinds_) (m x_will_owner_) (m x_ledger_paper_ 3) f (a + t_top n k + 1) (n - t_top n k - 1) (t_rk n k) out ≠ true) => ⟨(u2_m_ok hm), ?_⟩)
        · refine br_f (show ¬ ((1 : Int) = 0) by decide) ?_
          refine And.intro (Or.inr rfl) ?_
          show Q (some (vi 1)) (u2_m m wd ws sk x_forest_ x_will_)
          exact h1 (by rw [g_tkO (by omega) kB, Bool.or_eq_true]; first | exact Or.inl x79 | exact Or.inr x96)
        · refine br_t (show (0 : Int) = 0 by decide) ?_
          refine And.intro (Or.inl rfl) ?_
          show Q (some (vi 0)) (u2_m m wd ws sk x_forest_ x_will_)
          exact h0 (by rw [g_tkO (by omega) kB, ne_eq, Bool.or_eq_true]; exact fun z => z.elim x79 x96)
theorem Pa_askJ2 {d : Nat} {m : cw_M} {Q : Option cw_V → cw_M → Prop} (hm : la_ok m) {wd ws sk : Int → Int} {j l r wt l' r' : Int} (e1 : l = l') (e2 : r = r') (h : Q none (u2_m m wd (c_J ws j l' r' wt) sk x_forest_ x_will_)) : cw_C d k_Pa_askOfJoin [vr x_ledger_paper_, vi j, vi l, vi r, vi wt] (u2_m m wd ws sk x_forest_ x_will_) Q := by
  subst e1; subst e2
  exact Pa_askOfJoin2 hm h
theorem Pa_tellJ2 {d : Nat} {m : cw_M} {Q : Option cw_V → cw_M → Prop} (hm : la_ok m) {wd ws w0 sk : Int → Int} {j l r wt : Int} {Ks : List p_K} (hT : T_o m (m x_ledger_paper_ 7) Ks) (hcw : c_w ws w0) (hw : ∀ i, 6 ≤ i → i < 17 → -1000000 ≤ w0 i ∧ w0 i ≤ 1000000) (hj : -1 ≤ j ∧ j ≤ 6) (hl : -1 ≤ l ∧ l ≤ 7) (hr : -1 ≤ r ∧ r ≤ 7) (ht : 0 ≤ wt ∧ wt ≤ 9999) (hQ : ∀ sk', Q (some (vi (c_S Ks w0 j l r wt))) (u2_m m wd (c_J ws j l r wt) sk' x_forest_ x_will_)) : cw_C (d + 2) k_Pa_lawTells [vr x_ledger_paper_, vi 0, vi 50] (u2_m m wd (c_J ws j l r wt) sk x_forest_ x_will_) Q := by
  refine Pa_tell2 hm hT (c_Jb (c_wb hcw hw) hj hl hr ht) (fun sk' => ?_)
  rw [show l_tl Ks 0 50 (c_J ws j l r wt) = c_S Ks w0 j l r wt by unfold c_S; rw [c_Jw hcw]]
  exact hQ sk'
theorem Pa_give2z {d : Nat} {m : cw_M} {Q : Option cw_V → cw_M → Prop} {f : Nat} {wd ws w0 sk : Int → Int} {Ks : List p_K} {a n k out worth dp : Int} (hm : la_ok m) (ho : ∀ i, 0 ≤ i → i < 7 → 0 ≤ m x_will_owner_ i ∧ m x_will_owner_ i < 6) (hcw : c_w ws w0) (ha : 0 ≤ a ∧ a ≤ 6) (hn : n = 0) (hw : 0 ≤ worth ∧ worth ≤ 9999) (hwd : ∀ p, 0 ≤ p → p < 6 → 0 ≤ wd p ∧ wd p + worth ≤ 9999) (hQ : ∀ ws' sk', c_w ws' w0 → Q none (u2_m m (g_go (m x_will_kinds_) (m x_will_owner_) (m x_ledger_paper_ 3) (c_S Ks w0) f a n k out worth wd) ws' sk' x_forest_ x_will_)) : cw_C (d + 2) k_Pa_give [vr x_ledger_paper_, vi a, vi (a + n), vi worth, vi out, vi dp] (u2_m m wd ws sk x_forest_ x_will_) Q := by
  have nr := ho a ha.1 (by omega)
  have wr := hwd _ nr.1 nr.2
  refine la_go_C (u2_m_ok hm) 24 [] ?_
  refine br_f (show ¬ (a < a + n) by omega) ?_
  show cw_C _ _ [vr x_ledger_paper_, vi a, vi out] (u2_m m wd ws sk x_forest_ x_will_) _
  refine Pa_isHeir2 hm (by omega) (fun (x8 : g_lf (m x_ledger_paper_ 3) out (m x_will_owner_ a) = true) => ⟨(u2_m_ok hm), ?_⟩) (fun (x8 : g_lf (m x_ledger_paper_ 3) out (m x_will_owner_ a) = false) => ⟨(u2_m_ok hm), ?_⟩)
  · refine br_f (show ¬ ((1 : Int) = 0) by decide) ?_
    refine And.intro (show 0 ≤ a ∧ a < 7 by omega) ?_
    refine And.intro (show 0 ≤ m x_will_owner_ a ∧ m x_will_owner_ a < 6 by omega) ?_
    refine And.intro (show -2147483648 ≤ (wd (m x_will_owner_ a)) + worth ∧ (wd (m x_will_owner_ a)) + worth < 2147483648 by omega) ?_
    refine And.intro (show 0 ≤ m x_will_owner_ a ∧ m x_will_owner_ a < 6 by omega) ?_
    have hm21 : la_ok (cw_put (u2_m m wd ws sk x_forest_ x_will_) x_ledger_paper_would_ (m x_will_owner_ a) ((wd (m x_will_owner_ a)) + worth)) := la_put (u2_m_ok hm) (by decide) (Or.inr (by decide))
    show Q none (cw_put (u2_m m wd ws sk x_forest_ x_will_) x_ledger_paper_would_ (m x_will_owner_ a) ((wd (m x_will_owner_ a)) + worth))
    rw [u2_m_pwd]
    have hm22 : la_ok (u2_m m (cw_up wd (m x_will_owner_ a) ((wd (m x_will_owner_ a)) + worth)) ws sk x_forest_ x_will_) := u2_m_ok hm
    rw [show g_go (m x_will_kinds_) (m x_will_owner_) (m x_ledger_paper_ 3) (c_S Ks w0) f a n k out worth wd = cw_up wd (m x_will_owner_ a) ((wd (m x_will_owner_ a)) + worth) by rw [g_go0 (by omega)]; unfold g_hr; rw [x8, if_pos rfl]] at hQ
    exact hQ _ _ hcw
  · refine br_t (show (0 : Int) = 0 by decide) ?_
    show Q none (u2_m m wd ws sk x_forest_ x_will_)
    rw [show g_go (m x_will_kinds_) (m x_will_owner_) (m x_ledger_paper_ 3) (c_S Ks w0) f a n k out worth wd = wd by rw [g_go0 (by omega)]; unfold g_hr; rw [x8, if_neg (by decide)]] at hQ
    exact hQ _ _ hcw
theorem Pa_give2 : ∀ (f : Nat) {d : Nat} {m : cw_M} {Q : Option cw_V → cw_M → Prop} {wd ws w0 sk : Int → Int} {Ks : List p_K} {a b n k out worth dp ov : Int}, f + 4 ≤ d → la_ok m → T_o m (m x_ledger_paper_ 7) Ks → (∀ i, 6 ≤ i → i < 17 → -1000000 ≤ w0 i ∧ w0 i ≤ 1000000) → (∀ i, 0 ≤ i → i < 7 → 0 ≤ m x_will_owner_ i ∧ m x_will_owner_ i < 6) → c_w ws w0 → 0 ≤ a → b = a + n → 0 ≤ n → n ≤ f → b ≤ 6 → 0 ≤ dp ∧ dp + n ≤ 6 → 0 ≤ m x_ledger_paper_ 8 ∧ m x_ledger_paper_ 8 ≤ 786 → 0 ≤ k ∧ k < t_c n → t_pl (fun q => q.2.2.1) (m x_forest_deep_) (m x_ledger_paper_ 8) f a n k dp ov → 0 ≤ worth ∧ worth ≤ 9999 → (∀ p, 0 ≤ p → p < 6 → 0 ≤ wd p ∧ wd p + worth ≤ 9999) → (∀ ws' sk', c_w ws' w0 → Q none (u2_m m (g_go (m x_will_kinds_) (m x_will_owner_) (m x_ledger_paper_ 3) (c_S Ks w0) f a n k out worth wd) ws' sk' x_forest_ x_will_)) → cw_C d k_Pa_give [vr x_ledger_paper_, vi a, vi b, vi worth, vi out, vi dp] (u2_m m wd ws sk x_forest_ x_will_) Q
  | 0, d, m, Q, wd, ws, w0, sk, Ks, a, b, n, k, out, worth, dp, ov, hd, hm, hT, hw0, ho, hcw, ha, hb, hn, hf, hab, hdp, h8, hk, hH, hw, hwd, hQ => by
    subst hb
    obtain ⟨d, rfl⟩ : ∃ e, d = e + 2 := ⟨d - 2, by omega⟩
    exact Pa_give2z hm ho hcw (by omega) (by omega) hw hwd hQ
  | f + 1, d, m, Q, wd, ws, w0, sk, Ks, a, b, n, k, out, worth, dp, ov, hd, hm, hT, hw0, ho, hcw, ha, hb, hn, hf, hab, hdp, h8, hk, hH, hw, hwd, hQ => by
    subst hb
    by_cases n0 : n = 0
    · obtain ⟨d, rfl⟩ : ∃ e, d = e + 2 := ⟨d - 2, by omega⟩
      exact Pa_give2z hm ho hcw (by omega) n0 hw hwd hQ
    obtain ⟨d, rfl⟩ : ∃ e, d = e + 3 := ⟨d - 3, by omega⟩
    have tk := t_ok (n := n) (k := k) (by omega) hk
    have ih := fun {Q : Option cw_V → cw_M → Prop} {wd ws w0 sk : Int → Int} {Ks : List p_K} {a b n k out worth dp ov : Int} => Pa_give2 f (d := d + 2) (m := m) (Q := Q) (wd := wd) (ws := ws) (w0 := w0) (sk := sk) (Ks := Ks) (a := a) (b := b) (n := n) (k := k) (out := out) (worth := worth) (dp := dp) (ov := ov)
    by_cases kB : m x_will_kinds_ (a + t_top n k) = 2
    · skip
      refine la_go_C (u2_m_ok hm) 40 [] ?_
      refine br_t (show a < a + n by omega) ?_
      show cw_C _ _ [vr x_ledger_paper_, vi a, vi (a + n), vi dp] (u2_m m wd ws sk x_forest_ x_will_) _
      refine Pa_topOf2 (f := f) (n := n) (k := k) (ov := ov) hm rfl (by omega) (by omega) (by omega) hk h8 hH ⟨(u2_m_ok hm), ?_⟩
      refine br_t (show a + t_top n k ≠ (-1) by omega) ?_
      refine And.intro (show 0 ≤ a + t_top n k ∧ a + t_top n k < 6 by omega) ?_
      refine br_f (show ¬ (m x_will_kinds_ (a + t_top n k) ≠ 2) by omega) ?_
      refine And.intro (show -2147483648 ≤ (a + t_top n k) + 1 ∧ (a + t_top n k) + 1 < 2147483648 by omega) ?_
      show cw_C _ _ [vr x_will_, vi ((a + t_top n k) + 1), vi (a + n)] (u2_m m wd ws sk x_forest_ x_will_) _
      refine Wi_namedMask (u2_m_ok hm) (by omega) ⟨(u2_m_ok hm), ?_⟩
      refine And.intro (show -2147483648 ≤ dp + 1 ∧ dp + 1 < 2147483648 by omega) ?_
      show cw_C _ _ [vr x_ledger_paper_, vi a, vi (a + t_top n k), vi worth, vi (cw_ior out (g_nm (m x_will_owner_) (a + t_top n k) (a + n))), vi (dp + 1)] (u2_m m wd ws sk x_forest_ x_will_) _
      refine ih (by omega) hm hT hw0 ho hcw (by omega) (by omega) (by omega) (by omega) (by omega) (by omega) h8 tk.2.1 (t_plL hH tk.1.2) (by omega) (fun p p0 p1 => by have := hwd p p0 p1; omega) (fun (ws89 sk89 : Int → Int) (hcw89 : c_w ws89 w0) => ⟨(u2_m_ok hm), ?_⟩)
      have gor1 := fun p => g_gor (kd := (m x_will_kinds_)) (nm := (m x_will_owner_)) (fit := (m x_ledger_paper_ 3)) (sh := (c_S Ks w0)) (fun _ _ _ _ => c_Sr) f (a := a) (n := t_top n k) (k := t_lk n k) (out := cw_ior out (g_nm (m x_will_owner_) (a + t_top n k) (a + n))) (worth := worth) (wd := wd) p (by omega)
      show Q none (u2_m m (g_go (m x_will_kinds_) (m x_will_owner_) (m x_ledger_paper_ 3) (c_S Ks w0) f a (t_top n k) (t_lk n k) (cw_ior out (g_nm (m x_will_owner_) (a + t_top n k) (a + n))) worth wd) ws89 sk89 x_forest_ x_will_)
      first
        | (exfalso; omega)
        | (rw [g_goB (by omega) kB] at hQ; exact hQ _ _ hcw89)
        | (rw [g_goA (by omega) (by omega) x103 x120] at hQ; exact hQ _ _ hcw89)
        | (rw [g_goL (by omega) kB x103 (fun z => x120 z.1)] at hQ; exact hQ _ _ hcw89)
        | (rw [g_goL (by omega) kB x103 (fun z => by have := z.2; omega)] at hQ; exact hQ _ _ hcw89)
        | (rw [g_goR (by omega) kB x103 x120] at hQ; exact hQ _ _ hcw89)
        | (rw [g_goN (by omega) kB x103 x120] at hQ; exact hQ _ _ hcw89)
    · skip
      refine la_go_C (u2_m_ok hm) 97 [] ?_
      refine br_t (show a < a + n by omega) ?_
      show cw_C _ _ [vr x_ledger_paper_, vi a, vi (a + n), vi dp] (u2_m m wd ws sk x_forest_ x_will_) _
      refine Pa_topOf2 (f := f) (n := n) (k := k) (ov := ov) hm rfl (by omega) (by omega) (by omega) hk h8 hH ⟨(u2_m_ok hm), ?_⟩
      refine br_t (show a + t_top n k ≠ (-1) by omega) ?_
      refine And.intro (show 0 ≤ a + t_top n k ∧ a + t_top n k < 6 by omega) ?_
      refine br_t (show m x_will_kinds_ (a + t_top n k) ≠ 2 by omega) ?_
      refine And.intro (show -2147483648 ≤ dp + 1 ∧ dp + 1 < 2147483648 by omega) ?_
      show cw_C _ _ [vr x_ledger_paper_, vi a, vi (a + t_top n k), vi out, vi (dp + 1)] (u2_m m wd ws sk x_forest_ x_will_) _
      refine Pa_takes2 f (by omega) hm (by omega) (by omega) (by omega) (by omega) (by omega) (by omega) h8 tk.2.1 (t_plL hH tk.1.2) (fun (x103 : g_tk (m x_will_kinds_) (m x_will_owner_) (m x_ledger_paper_ 3) f a (t_top n k) (t_lk n k) out = true) => ⟨(u2_m_ok hm), ?_⟩) (fun (x103 : g_tk (m x_will_kinds_) (m x_will_owner_) (m x_ledger_paper_ 3) f a (t_top n k) (t_lk n k) out ≠ true) => ⟨(u2_m_ok hm), ?_⟩)
      · refine And.intro (show -2147483648 ≤ (a + t_top n k) + 1 ∧ (a + t_top n k) + 1 < 2147483648 by omega) ?_
        refine And.intro (show -2147483648 ≤ dp + 1 ∧ dp + 1 < 2147483648 by omega) ?_
        show cw_C _ _ [vr x_ledger_paper_, vi ((a + t_top n k) + 1), vi (a + n), vi out, vi (dp + 1)] (u2_m m wd ws sk x_forest_ x_will_) _
        refine Pa_takes2 f (by omega) hm (by omega) (by omega) (by omega) (by omega) (by omega) (by omega) h8 tk.2.2.1 (t_plR hH tk.1.1) (fun (x120 : g_tk (m x_will_kinds_) (m x_will_owner_) (m x_ledger_paper_ 3) f (a + t_top n k + 1) (n - t_top n k - 1) (t_rk n k) out = true) => ⟨(u2_m_ok hm), ?_⟩) (fun (x120 : g_tk (m x_will_kinds_) (m x_will_owner_) (m x_ledger_paper_ 3) f (a + t_top n k + 1) (n - t_top n k - 1) (t_rk n k) out ≠ true) => ⟨(u2_m_ok hm), ?_⟩)
        · refine br_f (show ¬ ((1 : Int) = 0) by decide) ?_
          refine br_f (show ¬ ((1 : Int) = 0) by decide) ?_
          refine And.intro (show 0 ≤ a + t_top n k ∧ a + t_top n k < 6 by omega) ?_
          refine And.intro (fun (c21 : m x_will_kinds_ (a + t_top n k) ≠ 0) => ?_) (fun (c21 : ¬ (m x_will_kinds_ (a + t_top n k) ≠ 0)) => ?_)
          · refine br_f (show ¬ ((1 : Int) = 0) by decide) ?_
            refine And.intro (show -2147483648 ≤ dp + 1 ∧ dp + 1 < 2147483648 by omega) ?_
            show cw_C _ _ [vr x_ledger_paper_, vi a, vi (a + t_top n k), vi worth, vi out, vi (dp + 1)] (u2_m m wd ws sk x_forest_ x_will_) _
            refine ih (by omega) hm hT hw0 ho hcw (by omega) (by omega) (by omega) (by omega) (by omega) (by omega) h8 tk.2.1 (t_plL hH tk.1.2) (by omega) (fun p p0 p1 => by have := hwd p p0 p1; omega) (fun (ws232 sk232 : Int → Int) (hcw232 : c_w ws232 w0) => ⟨(u2_m_ok hm), ?_⟩)
            have gor1 := fun p => g_gor (kd := (m x_will_kinds_)) (nm := (m x_will_owner_)) (fit := (m x_ledger_paper_ 3)) (sh := (c_S Ks w0)) (fun _ _ _ _ => c_Sr) f (a := a) (n := t_top n k) (k := t_lk n k) (out := out) (worth := worth) (wd := wd) p (by omega)
            show Q none (u2_m m (g_go (m x_will_kinds_) (m x_will_owner_) (m x_ledger_paper_ 3) (c_S Ks w0) f a (t_top n k) (t_lk n k) out worth wd) ws232 sk232 x_forest_ x_will_)
            first
              | (exfalso; omega)
              | (rw [g_goB (by omega) kB] at hQ; exact hQ _ _ hcw232)
              | (rw [g_goA (by omega) (by omega) x103 x120] at hQ; exact hQ _ _ hcw232)
              | (rw [g_goL (by omega) kB x103 (fun z => x120 z.1)] at hQ; exact hQ _ _ hcw232)
              | (rw [g_goL (by omega) kB x103 (fun z => by have := z.2; omega)] at hQ; exact hQ _ _ hcw232)
              | (rw [g_goR (by omega) kB x103 x120] at hQ; exact hQ _ _ hcw232)
              | (rw [g_goN (by omega) kB x103 x120] at hQ; exact hQ _ _ hcw232)
          · refine And.intro (show -2147483648 ≤ (a + t_top n k) - a ∧ (a + t_top n k) - a < 2147483648 by omega) ?_
            refine And.intro (show -2147483648 ≤ ((a + t_top n k) - a) + 1 ∧ ((a + t_top n k) - a) + 1 < 2147483648 by omega) ?_
            refine And.intro (show -2147483648 ≤ (a + n) - (a + t_top n k) ∧ (a + n) - (a + t_top n k) < 2147483648 by omega) ?_
            show cw_C _ _ [vr x_ledger_paper_, vi (a + t_top n k), vi (((a + t_top n k) - a) + 1), vi ((a + n) - (a + t_top n k)), vi worth] (u2_m m wd ws sk x_forest_ x_will_) _
            refine Pa_askJ2 hm (l' := t_top n k + 1) (r' := n - t_top n k) (by omega) (by omega) ⟨(u2_m_ok hm), ?_⟩
            show cw_C _ _ [vr x_ledger_paper_, vi 0, vi 50] (u2_m m wd (c_J ws (a + t_top n k) (t_top n k + 1) (n - t_top n k) worth) sk x_forest_ x_will_) _
            refine Pa_tellJ2 hm hT hcw hw0 (by omega) (by omega) (by omega) hw (fun (sk3 : Int → Int) => ⟨(u2_m_ok hm), ?_⟩)
            have hsb := g_shb hw (c_Sr (Ks := Ks) (w0 := w0) (j := a + t_top n k) (l := t_top n k + 1) (r := n - t_top n k) (wt := worth))
            refine And.intro (show -2147483648 ≤ worth * (c_S Ks w0 (a + t_top n k) (t_top n k + 1) (n - t_top n k) worth) ∧ worth * (c_S Ks w0 (a + t_top n k) (t_top n k + 1) (n - t_top n k) worth) < 2147483648 by omega) ?_
            refine And.intro (show 0 ≤ worth * (c_S Ks w0 (a + t_top n k) (t_top n k + 1) (n - t_top n k) worth) ∧ worth * (c_S Ks w0 (a + t_top n k) (t_top n k + 1) (n - t_top n k) worth) < 2147483648 ∧ 0 < 100 by omega) ?_
            refine And.intro (show -2147483648 ≤ dp + 1 ∧ dp + 1 < 2147483648 by omega) ?_
            show cw_C _ _ [vr x_ledger_paper_, vi a, vi (a + t_top n k), vi ((worth * (c_S Ks w0 (a + t_top n k) (t_top n k + 1) (n - t_top n k) worth)) / 100), vi out, vi (dp + 1)] (u2_m m wd (c_J ws (a + t_top n k) (t_top n k + 1) (n - t_top n k) worth) sk3 x_forest_ x_will_) _
            refine ih (by omega) hm hT hw0 ho (c_wt c_wJ hcw) (by omega) (by omega) (by omega) (by omega) (by omega) (by omega) h8 tk.2.1 (t_plL hH tk.1.2) (by omega) (fun p p0 p1 => by have := hwd p p0 p1; omega) (fun (ws191 sk191 : Int → Int) (hcw191 : c_w ws191 w0) => ⟨(u2_m_ok hm), ?_⟩)
            have gor1 := fun p => g_gor (kd := (m x_will_kinds_)) (nm := (m x_will_owner_)) (fit := (m x_ledger_paper_ 3)) (sh := (c_S Ks w0)) (fun _ _ _ _ => c_Sr) f (a := a) (n := t_top n k) (k := t_lk n k) (out := out) (worth := (worth * (c_S Ks w0 (a + t_top n k) (t_top n k + 1) (n - t_top n k) worth)) / 100) (wd := wd) p (by omega)
            refine And.intro (show -2147483648 ≤ (a + t_top n k) + 1 ∧ (a + t_top n k) + 1 < 2147483648 by omega) ?_
            refine And.intro (show -2147483648 ≤ worth - ((worth * (c_S Ks w0 (a + t_top n k) (t_top n k + 1) (n - t_top n k) worth)) / 100) ∧ worth - ((worth * (c_S Ks w0 (a + t_top n k) (t_top n k + 1) (n - t_top n k) worth)) / 100) < 2147483648 by omega) ?_
            refine And.intro (show -2147483648 ≤ dp + 1 ∧ dp + 1 < 2147483648 by omega) ?_
            show cw_C _ _ [vr x_ledger_paper_, vi ((a + t_top n k) + 1), vi (a + n), vi (worth - ((worth * (c_S Ks w0 (a + t_top n k) (t_top n k + 1) (n - t_top n k) worth)) / 100)), vi out, vi (dp + 1)] (u2_m m (g_go (m x_will_kinds_) (m x_will_owner_) (m x_ledger_paper_ 3) (c_S Ks w0) f a (t_top n k) (t_lk n k) out ((worth * (c_S Ks w0 (a + t_top n k) (t_top n k + 1) (n - t_top n k) worth)) / 100) wd) ws191 sk191 x_forest_ x_will_) _
            refine ih (by omega) hm hT hw0 ho hcw191 (by omega) (by omega) (by omega) (by omega) (by omega) (by omega) h8 tk.2.2.1 (t_plR hH tk.1.1) (by omega) (fun p p0 p1 => by have := hwd p p0 p1; have := gor1 p; omega) (fun (ws210 sk210 : Int → Int) (hcw210 : c_w ws210 w0) => ⟨(u2_m_ok hm), ?_⟩)
            show Q none (u2_m m (g_go (m x_will_kinds_) (m x_will_owner_) (m x_ledger_paper_ 3) (c_S Ks w0) f (a + t_top n k + 1) (n - t_top n k - 1) (t_rk n k) out (worth - ((worth * (c_S Ks w0 (a + t_top n k) (t_top n k + 1) (n - t_top n k) worth)) / 100)) (g_go (m x_will_kinds_) (m x_will_owner_) (m x_ledger_paper_ 3) (c_S Ks w0) f a (t_top n k) (t_lk n k) out ((worth * (c_S Ks w0 (a + t_top n k) (t_top n k + 1) (n - t_top n k) worth)) / 100) wd)) ws210 sk210 x_forest_ x_will_)
            first
              | (exfalso; omega)
              | (rw [g_goB (by omega) kB] at hQ; exact hQ _ _ hcw210)
              | (rw [g_goA (by omega) (by omega) x103 x120] at hQ; exact hQ _ _ hcw210)
              | (rw [g_goL (by omega) kB x103 (fun z => x120 z.1)] at hQ; exact hQ _ _ hcw210)
              | (rw [g_goL (by omega) kB x103 (fun z => by have := z.2; omega)] at hQ; exact hQ _ _ hcw210)
              | (rw [g_goR (by omega) kB x103 x120] at hQ; exact hQ _ _ hcw210)
              | (rw [g_goN (by omega) kB x103 x120] at hQ; exact hQ _ _ hcw210)
        · refine br_f (show ¬ ((1 : Int) = 0) by decide) ?_
          refine br_t (show (0 : Int) = 0 by decide) ?_
          refine br_f (show ¬ ((1 : Int) = 0) by decide) ?_
          refine And.intro (show -2147483648 ≤ dp + 1 ∧ dp + 1 < 2147483648 by omega) ?_
          show cw_C _ _ [vr x_ledger_paper_, vi a, vi (a + t_top n k), vi worth, vi out, vi (dp + 1)] (u2_m m wd ws sk x_forest_ x_will_) _
          refine ih (by omega) hm hT hw0 ho hcw (by omega) (by omega) (by omega) (by omega) (by omega) (by omega) h8 tk.2.1 (t_plL hH tk.1.2) (by omega) (fun p p0 p1 => by have := hwd p p0 p1; omega) (fun (ws232 sk232 : Int → Int) (hcw232 : c_w ws232 w0) => ⟨(u2_m_ok hm), ?_⟩)
          have gor1 := fun p => g_gor (kd := (m x_will_kinds_)) (nm := (m x_will_owner_)) (fit := (m x_ledger_paper_ 3)) (sh := (c_S Ks w0)) (fun _ _ _ _ => c_Sr) f (a := a) (n := t_top n k) (k := t_lk n k) (out := out) (worth := worth) (wd := wd) p (by omega)
          show Q none (u2_m m (g_go (m x_will_kinds_) (m x_will_owner_) (m x_ledger_paper_ 3) (c_S Ks w0) f a (t_top n k) (t_lk n k) out worth wd) ws232 sk232 x_forest_ x_will_)
          first
            | (exfalso; omega)
            | (rw [g_goB (by omega) kB] at hQ; exact hQ _ _ hcw232)
            | (rw [g_goA (by omega) (by omega) x103 x120] at hQ; exact hQ _ _ hcw232)
            | (rw [g_goL (by omega) kB x103 (fun z => x120 z.1)] at hQ; exact hQ _ _ hcw232)
            | (rw [g_goL (by omega) kB x103 (fun z => by have := z.2; omega)] at hQ; exact hQ _ _ hcw232)
            | (rw [g_goR (by omega) kB x103 x120] at hQ; exact hQ _ _ hcw232)
            | (rw [g_goN (by omega) kB x103 x120] at hQ; exact hQ _ _ hcw232)
      · refine And.intro (show -2147483648 ≤ (a + t_top n k) + 1 ∧ (a + t_top n k) + 1 < 2147483648 by omega) ?_
        refine And.intro (show -2147483648 ≤ dp + 1 ∧ dp + 1 < 2147483648 by omega) ?_
        show cw_C _ _ [vr x_ledger_paper_, vi ((a + t_top n k) + 1), vi (a + n), vi out, vi (dp + 1)] (u2_m m wd ws sk x_forest_ x_will_) _
        refine Pa_takes2 f (by omega) hm (by omega) (by omega) (by omega) (by omega) (by omega) (by omega) h8 tk.2.2.1 (t_plR hH tk.1.1) (fun (x120 : g_tk (m x_will_kinds_) (m x_will_owner_) (m x_ledger_paper_ 3) f (a + t_top n k + 1) (n - t_top n k - 1) (t_rk n k) out = true) => ⟨(u2_m_ok hm), ?_⟩) (fun (x120 : g_tk (m x_will_kinds_) (m x_will_owner_) (m x_ledger_paper_ 3) f (a + t_top n k + 1) (n - t_top n k - 1) (t_rk n k) out ≠ true) => ⟨(u2_m_ok hm), ?_⟩)
        · refine br_t (show (0 : Int) = 0 by decide) ?_
          refine br_t (show (0 : Int) = 0 by decide) ?_
          refine br_f (show ¬ ((1 : Int) = 0) by decide) ?_
          refine And.intro (show -2147483648 ≤ (a + t_top n k) + 1 ∧ (a + t_top n k) + 1 < 2147483648 by omega) ?_
          refine And.intro (show -2147483648 ≤ dp + 1 ∧ dp + 1 < 2147483648 by omega) ?_
          show cw_C _ _ [vr x_ledger_paper_, vi ((a + t_top n k) + 1), vi (a + n), vi worth, vi out, vi (dp + 1)] (u2_m m wd ws sk x_forest_ x_will_) _
          refine ih (by omega) hm hT hw0 ho hcw (by omega) (by omega) (by omega) (by omega) (by omega) (by omega) h8 tk.2.2.1 (t_plR hH tk.1.1) (by omega) (fun p p0 p1 => by have := hwd p p0 p1; omega) (fun (ws256 sk256 : Int → Int) (hcw256 : c_w ws256 w0) => ⟨(u2_m_ok hm), ?_⟩)
          have gor1 := fun p => g_gor (kd := (m x_will_kinds_)) (nm := (m x_will_owner_)) (fit := (m x_ledger_paper_ 3)) (sh := (c_S Ks w0)) (fun _ _ _ _ => c_Sr) f (a := a + t_top n k + 1) (n := n - t_top n k - 1) (k := t_rk n k) (out := out) (worth := worth) (wd := wd) p (by omega)
          show Q none (u2_m m (g_go (m x_will_kinds_) (m x_will_owner_) (m x_ledger_paper_ 3) (c_S Ks w0) f (a + t_top n k + 1) (n - t_top n k - 1) (t_rk n k) out worth wd) ws256 sk256 x_forest_ x_will_)
          first
            | (exfalso; omega)
            | (rw [g_goB (by omega) kB] at hQ; exact hQ _ _ hcw256)
            | (rw [g_goA (by omega) (by omega) x103 x120] at hQ; exact hQ _ _ hcw256)
            | (rw [g_goL (by omega) kB x103 (fun z => x120 z.1)] at hQ; exact hQ _ _ hcw256)
            | (rw [g_goL (by omega) kB x103 (fun z => by have := z.2; omega)] at hQ; exact hQ _ _ hcw256)
            | (rw [g_goR (by omega) kB x103 x120] at hQ; exact hQ _ _ hcw256)
            | (rw [g_goN (by omega) kB x103 x120] at hQ; exact hQ _ _ hcw256)
        · refine br_t (show (0 : Int) = 0 by decide) ?_
          refine br_t (show (0 : Int) = 0 by decide) ?_
          refine br_t (show (0 : Int) = 0 by decide) ?_
          show Q none (u2_m m wd ws sk x_forest_ x_will_)
          first
            | (exfalso; omega)
            | (rw [g_goB (by omega) kB] at hQ; exact hQ _ _ hcw)
            | (rw [g_goA (by omega) (by omega) x103 x120] at hQ; exact hQ _ _ hcw)
            | (rw [g_goL (by omega) kB x103 (fun z => x120 z.1)] at hQ; exact hQ _ _ hcw)
            | (rw [g_goL (by omega) kB x103 (fun z => by have := z.2; omega)] at hQ; exact hQ _ _ hcw)
            | (rw [g_goR (by omega) kB x103 x120] at hQ; exact hQ _ _ hcw)
            | (rw [g_goN (by omega) kB x103 x120] at hQ; exact hQ _ _ hcw)
theorem Pa_takes3z {d : Nat} {m : cw_M} {Q : Option cw_V → cw_M → Prop} {f : Nat} {wd ws sk : Int → Int} {a n k out dp : Int} (hm : la_ok m) (ha : 0 ≤ a ∧ a ≤ 6) (hn : n = 0) (h1 : g_tk (m x_will_kinds_) (m x_will_owner_) (m x_paper_ 3) f a n k out = true → Q (some (vi 1)) (u3_m m wd ws sk x_forest_ x_will_)) (h0 : g_tk (m x_will_kinds_) (m x_will_owner_) (m x_paper_ 3) f a n k out ≠ true → Q (some (vi 0)) (u3_m m wd ws sk x_forest_ x_will_)) : cw_C (d + 2) k_Pa_takes [vr x_paper_, vi a, vi (a + n), vi out, vi dp] (u3_m m wd ws sk x_forest_ x_will_) Q := by
  refine la_go_C (u3_m_ok hm) 11 [] ?_
  refine br_f (show ¬ (a < a + n) by omega) ?_
  show cw_C _ _ [vr x_paper_, vi a, vi out] (u3_m m wd ws sk x_forest_ x_will_) _
  refine Pa_isHeir3 hm (by omega) (fun (x8 : g_lf (m x_paper_ 3) out (m x_will_owner_ a) = true) => ⟨(u3_m_ok hm), ?_⟩) (fun (x8 : g_lf (m x_paper_ 3) out (m x_will_owner_ a) = false) => ⟨(u3_m_ok hm), ?_⟩)
  · refine And.intro (Or.inr rfl) ?_
    show Q (some (vi 1)) (u3_m m wd ws sk x_forest_ x_will_)
    exact h1 (by rw [g_tk0 (by omega)]; exact x8)
  · refine And.intro (Or.inl rfl) ?_
    show Q (some (vi 0)) (u3_m m wd ws sk x_forest_ x_will_)
    exact h0 (by rw [g_tk0 (by omega), x8]; decide)
theorem Pa_takes3 : ∀ (f : Nat) {d : Nat} {m : cw_M} {Q : Option cw_V → cw_M → Prop} {wd ws sk : Int → Int} {a b n k out dp ov : Int}, f + 2 ≤ d → la_ok m → 0 ≤ a → b = a + n → 0 ≤ n → n ≤ f → b ≤ 6 → 0 ≤ dp ∧ dp + n ≤ 6 → 0 ≤ m x_paper_ 8 ∧ m x_paper_ 8 ≤ 786 → 0 ≤ k ∧ k < t_c n → t_pl (fun q => q.2.2.1) (m x_forest_deep_) (m x_paper_ 8) f a n k dp ov → (g_tk (m x_will_kinds_) (m x_will_owner_) (m x_paper_ 3) f a n k out = true → Q (some (vi 1)) (u3_m m wd ws sk x_forest_ x_will_)) → (g_tk (m x_will_kinds_) (m x_will_owner_) (m x_paper_ 3) f a n k out ≠ true → Q (some (vi 0)) (u3_m m wd ws sk x_forest_ x_will_)) → cw_C d k_Pa_takes [vr x_paper_, vi a, vi b, vi out, vi dp] (u3_m m wd ws sk x_forest_ x_will_) Q
  | 0, d, m, Q, wd, ws, sk, a, b, n, k, out, dp, ov, hd, hm, ha, hb, hn, hf, hab, hdp, h8, hk, hH, h1, h0 => by
    subst hb
    obtain ⟨d, rfl⟩ : ∃ e, d = e + 2 := ⟨d - 2, by omega⟩
    exact Pa_takes3z hm (by omega) (by omega) h1 h0
  | f + 1, d, m, Q, wd, ws, sk, a, b, n, k, out, dp, ov, hd, hm, ha, hb, hn, hf, hab, hdp, h8, hk, hH, h1, h0 => by
    subst hb
    by_cases n0 : n = 0
    · obtain ⟨d, rfl⟩ : ∃ e, d = e + 2 := ⟨d - 2, by omega⟩
      exact Pa_takes3z hm (by omega) n0 h1 h0
    obtain ⟨d, rfl⟩ : ∃ e, d = e + 1 := ⟨d - 1, by omega⟩
    have tk := t_ok (n := n) (k := k) (by omega) hk
    have ih := fun {Q : Option cw_V → cw_M → Prop} {a b n k out dp ov : Int} => Pa_takes3 f (d := d) (m := m) (Q := Q) (wd := wd) (ws := ws) (sk := sk) (a := a) (b := b) (n := n) (k := k) (out := out) (dp := dp) (ov := ov)
    by_cases kB : m x_will_kinds_ (a + t_top n k) = 2
    · skip
      refine la_go_C (u3_m_ok hm) 39 [] ?_
      refine br_t (show a < a + n by omega) ?_
      show cw_C _ _ [vr x_paper_, vi a, vi (a + n), vi dp] (u3_m m wd ws sk x_forest_ x_will_) _
      refine Pa_topOf3 (f := f) (n := n) (k := k) (ov := ov) hm rfl (by omega) (by omega) (by omega) hk h8 hH ⟨(u3_m_ok hm), ?_⟩
      refine br_t (show a + t_top n k ≠ (-1) by omega) ?_
      refine And.intro (show 0 ≤ a + t_top n k ∧ a + t_top n k < 6 by omega) ?_
      refine br_f (show ¬ (m x_will_kinds_ (a + t_top n k) ≠ 2) by omega) ?_
      refine And.intro (show -2147483648 ≤ (a + t_top n k) + 1 ∧ (a + t_top n k) + 1 < 2147483648 by omega) ?_
      show cw_C _ _ [vr x_will_, vi ((a + t_top n k) + 1), vi (a + n)] (u3_m m wd ws sk x_forest_ x_will_) _
      refine Wi_namedMask (u3_m_ok hm) (by omega) ⟨(u3_m_ok hm), ?_⟩
      refine And.intro (show -2147483648 ≤ dp + 1 ∧ dp + 1 < 2147483648 by omega) ?_
      show cw_C _ _ [vr x_paper_, vi a, vi (a + t_top n k), vi (cw_ior out (g_nm (m x_will_owner_) (a + t_top n k) (a + n))), vi (dp + 1)] (u3_m m wd ws sk x_forest_ x_will_) _
      refine ih (by omega) hm (by omega) (by omega) (by omega) (by omega) (by omega) (by omega) h8 tk.2.1 (t_plL hH tk.1.2) (fun (x66 : g_tk (m x_will_kinds_) (m x_will_owner_) (m x_paper_ 3) f a (t_top n k) (t_lk n k) (cw_ior out (g_nm (m x_will_owner_) (a + t_top n k) (a + n))) = true) => ⟨(u3_m_ok hm), ?_⟩) (fun (x66 : g_tk (m x_will_kinds_) (m x_will_owner_) (m x_paper_ 3) f a (t_top n k) (t_lk n k) (cw_ior out (g_nm (m x_will_owner_) (a + t_top n k) (a + n))) ≠ true) => ⟨(u3_m_ok hm), ?_⟩)
      · refine And.intro (Or.inr rfl) ?_
        show Q (some (vi 1)) (u3_m m wd ws sk x_forest_ x_will_)
        exact h1 (by rw [g_tkB (by omega) kB]; exact x66)
      · refine And.intro (Or.inl rfl) ?_
        show Q (some (vi 0)) (u3_m m wd ws sk x_forest_ x_will_)
        exact h0 (by rw [g_tkB (by omega) kB]; exact x66)
    · skip
      refine la_go_C (u3_m_ok hm) 45 [] ?_
      refine br_t (show a < a + n by omega) ?_
      show cw_C _ _ [vr x_paper_, vi a, vi (a + n), vi dp] (u3_m m wd ws sk x_forest_ x_will_) _
      refine Pa_topOf3 (f := f) (n := n) (k := k) (ov := ov) hm rfl (by omega) (by omega) (by omega) hk h8 hH ⟨(u3_m_ok hm), ?_⟩
      refine br_t (show a + t_top n k ≠ (-1) by omega) ?_
      refine And.intro (show 0 ≤ a + t_top n k ∧ a + t_top n k < 6 by omega) ?_
      refine br_t (show m x_will_kinds_ (a + t_top n k) ≠ 2 by omega) ?_
      refine And.intro (show -2147483648 ≤ dp + 1 ∧ dp + 1 < 2147483648 by omega) ?_
      show cw_C _ _ [vr x_paper_, vi a, vi (a + t_top n k), vi out, vi (dp + 1)] (u3_m m wd ws sk x_forest_ x_will_) _
      refine ih (by omega) hm (by omega) (by omega) (by omega) (by omega) (by omega) (by omega) h8 tk.2.1 (t_plL hH tk.1.2) (fun (x79 : g_tk (m x_will_kinds_) (m x_will_owner_) (m x_paper_ 3) f a (t_top n k) (t_lk n k) out = true) => ⟨(u3_m_ok hm), ?_⟩) (fun (x79 : g_tk (m x_will_kinds_) (m x_will_owner_) (m x_paper_ 3) f a (t_top n k) (t_lk n k) out ≠ true) => ⟨(u3_m_ok hm), ?_⟩)
      · refine br_t (show (1 : Int) ≠ 0 by decide) ?_
        refine And.intro (Or.inr rfl) ?_
        show Q (some (vi 1)) (u3_m m wd ws sk x_forest_ x_will_)
        exact h1 (by rw [g_tkO (by omega) kB, Bool.or_eq_true]; first | exact Or.inl x79 | exact Or.inr x96)
      · refine br_f (show ¬ ((0 : Int) ≠ 0) by decide) ?_
        refine And.intro (show -2147483648 ≤ (a + t_top n k) + 1 ∧ (a + t_top n k) + 1 < 2147483648 by omega) ?_
        refine And.intro (show -2147483648 ≤ dp + 1 ∧ dp + 1 < 2147483648 by omega) ?_
        show cw_C _ _ [vr x_paper_, vi ((a + t_top n k) + 1), vi (a + n), vi out, vi (dp + 1)] (u3_m m wd ws sk x_forest_ x_will_) _
        refine ih (by omega) hm (by omega) (by omega) (by omega) (by omega) (by omega) (by omega) h8 tk.2.2.1 (t_plR hH tk.1.1) (fun (x96 : g_tk (m x_will_kinds_) (m x_will_owner_) (m x_paper_ 3) f (a + t_top n k + 1) (n - t_top n k - 1) (t_rk n k) out = true) => ⟨(u3_m_ok hm), ?_⟩) (fun (x96 : g_tk (m x_will_kinds_) (m x_will_owner_) (m x_paper_ 3) f (a + t_top n k + 1) (n - t_top n k - 1) (t_rk n k) out ≠ true) => ⟨(u3_m_ok hm), ?_⟩)
        · refine br_f (show ¬ ((1 : Int) = 0) by decide) ?_
          refine And.intro (Or.inr rfl) ?_
          show Q (some (vi 1)) (u3_m m wd ws sk x_forest_ x_will_)
          exact h1 (by rw [g_tkO (by omega) kB, Bool.or_eq_true]; first | exact Or.inl x79 | exact Or.inr x96)
        · refine br_t (show (0 : Int) = 0 by decide) ?_
          refine And.intro (Or.inl rfl) ?_
          show Q (some (vi 0)) (u3_m m wd ws sk x_forest_ x_will_)
          exact h0 (by rw [g_tkO (by omega) kB, ne_eq, Bool.or_eq_true]; exact fun z => z.elim x79 x96)
theorem Pa_askJ3 {d : Nat} {m : cw_M} {Q : Option cw_V → cw_M → Prop} (hm : la_ok m) {wd ws sk : Int → Int} {j l r wt l' r' : Int} (e1 : l = l') (e2 : r = r') (h : Q none (u3_m m wd (c_J ws j l' r' wt) sk x_forest_ x_will_)) : cw_C d k_Pa_askOfJoin [vr x_paper_, vi j, vi l, vi r, vi wt] (u3_m m wd ws sk x_forest_ x_will_) Q := by
  subst e1; subst e2
  exact Pa_askOfJoin3 hm h
theorem Pa_tellJ3 {d : Nat} {m : cw_M} {Q : Option cw_V → cw_M → Prop} (hm : la_ok m) {wd ws w0 sk : Int → Int} {j l r wt : Int} {Ks : List p_K} (hT : T_o m (m x_paper_ 7) Ks) (hcw : c_w ws w0) (hw : ∀ i, 6 ≤ i → i < 17 → -1000000 ≤ w0 i ∧ w0 i ≤ 1000000) (hj : -1 ≤ j ∧ j ≤ 6) (hl : -1 ≤ l ∧ l ≤ 7) (hr : -1 ≤ r ∧ r ≤ 7) (ht : 0 ≤ wt ∧ wt ≤ 9999) (hQ : ∀ sk', Q (some (vi (c_S Ks w0 j l r wt))) (u3_m m wd (c_J ws j l r wt) sk' x_forest_ x_will_)) : cw_C (d + 2) k_Pa_lawTells [vr x_paper_, vi 0, vi 50] (u3_m m wd (c_J ws j l r wt) sk x_forest_ x_will_) Q := by
  refine Pa_tell3 hm hT (c_Jb (c_wb hcw hw) hj hl hr ht) (fun sk' => ?_)
  rw [show l_tl Ks 0 50 (c_J ws j l r wt) = c_S Ks w0 j l r wt by unfold c_S; rw [c_Jw hcw]]
  exact hQ sk'
theorem Pa_give3z {d : Nat} {m : cw_M} {Q : Option cw_V → cw_M → Prop} {f : Nat} {wd ws w0 sk : Int → Int} {Ks : List p_K} {a n k out worth dp : Int} (hm : la_ok m) (ho : ∀ i, 0 ≤ i → i < 7 → 0 ≤ m x_will_owner_ i ∧ m x_will_owner_ i < 6) (hcw : c_w ws w0) (ha : 0 ≤ a ∧ a ≤ 6) (hn : n = 0) (hw : 0 ≤ worth ∧ worth ≤ 9999) (hwd : ∀ p, 0 ≤ p → p < 6 → 0 ≤ wd p ∧ wd p + worth ≤ 9999) (hQ : ∀ ws' sk', c_w ws' w0 → Q none (u3_m m (g_go (m x_will_kinds_) (m x_will_owner_) (m x_paper_ 3) (c_S Ks w0) f a n k out worth wd) ws' sk' x_forest_ x_will_)) : cw_C (d + 2) k_Pa_give [vr x_paper_, vi a, vi (a + n), vi worth, vi out, vi dp] (u3_m m wd ws sk x_forest_ x_will_) Q := by
  have nr := ho a ha.1 (by omega)
  have wr := hwd _ nr.1 nr.2
  refine la_go_C (u3_m_ok hm) 24 [] ?_
  refine br_f (show ¬ (a < a + n) by omega) ?_
  show cw_C _ _ [vr x_paper_, vi a, vi out] (u3_m m wd ws sk x_forest_ x_will_) _
  refine Pa_isHeir3 hm (by omega) (fun (x8 : g_lf (m x_paper_ 3) out (m x_will_owner_ a) = true) => ⟨(u3_m_ok hm), ?_⟩) (fun (x8 : g_lf (m x_paper_ 3) out (m x_will_owner_ a) = false) => ⟨(u3_m_ok hm), ?_⟩)
  · refine br_f (show ¬ ((1 : Int) = 0) by decide) ?_
    refine And.intro (show 0 ≤ a ∧ a < 7 by omega) ?_
    refine And.intro (show 0 ≤ m x_will_owner_ a ∧ m x_will_owner_ a < 6 by omega) ?_
    refine And.intro (show -2147483648 ≤ (wd (m x_will_owner_ a)) + worth ∧ (wd (m x_will_owner_ a)) + worth < 2147483648 by omega) ?_
    refine And.intro (show 0 ≤ m x_will_owner_ a ∧ m x_will_owner_ a < 6 by omega) ?_
    have hm21 : la_ok (cw_put (u3_m m wd ws sk x_forest_ x_will_) x_paper_would_ (m x_will_owner_ a) ((wd (m x_will_owner_ a)) + worth)) := la_put (u3_m_ok hm) (by decide) (Or.inr (by decide))
    show Q none (cw_put (u3_m m wd ws sk x_forest_ x_will_) x_paper_would_ (m x_will_owner_ a) ((wd (m x_will_owner_ a)) + worth))
    rw [u3_m_pwd]
    have hm22 : la_ok (u3_m m (cw_up wd (m x_will_owner_ a) ((wd (m x_will_owner_ a)) + worth)) ws sk x_forest_ x_will_) := u3_m_ok hm
    rw [show g_go (m x_will_kinds_) (m x_will_owner_) (m x_paper_ 3) (c_S Ks w0) f a n k out worth wd = cw_up wd (m x_will_owner_ a) ((wd (m x_will_owner_ a)) + worth) by rw [g_go0 (by omega)]; unfold g_hr; rw [x8, if_pos rfl]] at hQ
    exact hQ _ _ hcw
  · refine br_t (show (0 : Int) = 0 by decide) ?_
    show Q none (u3_m m wd ws sk x_forest_ x_will_)
    rw [show g_go (m x_will_kinds_) (m x_will_owner_) (m x_paper_ 3) (c_S Ks w0) f a n k out worth wd = wd by rw [g_go0 (by omega)]; unfold g_hr; rw [x8, if_neg (by decide)]] at hQ
    exact hQ _ _ hcw
theorem Pa_give3 : ∀ (f : Nat) {d : Nat} {m : cw_M} {Q : Option cw_V → cw_M → Prop} {wd ws w0 sk : Int → Int} {Ks : List p_K} {a b n k out worth dp ov : Int}, f + 4 ≤ d → la_ok m → T_o m (m x_paper_ 7) Ks → (∀ i, 6 ≤ i → i < 17 → -1000000 ≤ w0 i ∧ w0 i ≤ 1000000) → (∀ i, 0 ≤ i → i < 7 → 0 ≤ m x_will_owner_ i ∧ m x_will_owner_ i < 6) → c_w ws w0 → 0 ≤ a → b = a + n → 0 ≤ n → n ≤ f → b ≤ 6 → 0 ≤ dp ∧ dp + n ≤ 6 → 0 ≤ m x_paper_ 8 ∧ m x_paper_ 8 ≤ 786 → 0 ≤ k ∧ k < t_c n → t_pl (fun q => q.2.2.1) (m x_forest_deep_) (m x_paper_ 8) f a n k dp ov → 0 ≤ worth ∧ worth ≤ 9999 → (∀ p, 0 ≤ p → p < 6 → 0 ≤ wd p ∧ wd p + worth ≤ 9999) → (∀ ws' sk', c_w ws' w0 → Q none (u3_m m (g_go (m x_will_kinds_) (m x_will_owner_) (m x_paper_ 3) (c_S Ks w0) f a n k out worth wd) ws' sk' x_forest_ x_will_)) → cw_C d k_Pa_give [vr x_paper_, vi a, vi b, vi worth, vi out, vi dp] (u3_m m wd ws sk x_forest_ x_will_) Q
  | 0, d, m, Q, wd, ws, w0, sk, Ks, a, b, n, k, out, worth, dp, ov, hd, hm, hT, hw0, ho, hcw, ha, hb, hn, hf, hab, hdp, h8, hk, hH, hw, hwd, hQ => by
    subst hb
    obtain ⟨d, rfl⟩ : ∃ e, d = e + 2 := ⟨d - 2, by omega⟩
    exact Pa_give3z hm ho hcw (by omega) (by omega) hw hwd hQ
  | f + 1, d, m, Q, wd, ws, w0, sk, Ks, a, b, n, k, out, worth, dp, ov, hd, hm, hT, hw0, ho, hcw, ha, hb, hn, hf, hab, hdp, h8, hk, hH, hw, hwd, hQ => by
    subst hb
    by_cases n0 : n = 0
    · obtain ⟨d, rfl⟩ : ∃ e, d = e + 2 := ⟨d - 2, by omega⟩
      exact Pa_give3z hm ho hcw (by omega) n0 hw hwd hQ
    obtain ⟨d, rfl⟩ : ∃ e, d = e + 3 := ⟨d - 3, by omega⟩
    have tk := t_ok (n := n) (k := k) (by omega) hk
    have ih := fun {Q : Option cw_V → cw_M → Prop} {wd ws w0 sk : Int → Int} {Ks : List p_K} {a b n k out worth dp ov : Int} => Pa_give3 f (d := d + 2) (m := m) (Q := Q) (wd := wd) (ws := ws) (w0 := w0) (sk := sk) (Ks := Ks) (a := a) (b := b) (n := n) (k := k) (out := out) (worth := worth) (dp := dp) (ov := ov)
    by_cases kB : m x_will_kinds_ (a + t_top n k) = 2
    · skip
      refine la_go_C (u3_m_ok hm) 40 [] ?_
      refine br_t (show a < a + n by omega) ?_
      show cw_C _ _ [vr x_paper_, vi a, vi (a + n), vi dp] (u3_m m wd ws sk x_forest_ x_will_) _
      refine Pa_topOf3 (f := f) (n := n) (k := k) (ov := ov) hm rfl (by omega) (by omega) (by omega) hk h8 hH ⟨(u3_m_ok hm), ?_⟩
      refine br_t (show a + t_top n k ≠ (-1) by omega) ?_
      refine And.intro (show 0 ≤ a + t_top n k ∧ a + t_top n k < 6 by omega) ?_
      refine br_f (show ¬ (m x_will_kinds_ (a + t_top n k) ≠ 2) by omega) ?_
      refine And.intro (show -2147483648 ≤ (a + t_top n k) + 1 ∧ (a + t_top n k) + 1 < 2147483648 by omega) ?_
      show cw_C _ _ [vr x_will_, vi ((a + t_top n k) + 1), vi (a + n)] (u3_m m wd ws sk x_forest_ x_will_) _
      refine Wi_namedMask (u3_m_ok hm) (by omega) ⟨(u3_m_ok hm), ?_⟩
      refine And.intro (show -2147483648 ≤ dp + 1 ∧ dp + 1 < 2147483648 by omega) ?_
      show cw_C _ _ [vr x_paper_, vi a, vi (a + t_top n k), vi worth, vi (cw_ior out (g_nm (m x_will_owner_) (a + t_top n k) (a + n))), vi (dp + 1)] (u3_m m wd ws sk x_forest_ x_will_) _
      refine ih (by omega) hm hT hw0 ho hcw (by omega) (by omega) (by omega) (by omega) (by omega) (by omega) h8 tk.2.1 (t_plL hH tk.1.2) (by omega) (fun p p0 p1 => by have := hwd p p0 p1; omega) (fun (ws89 sk89 : Int → Int) (hcw89 : c_w ws89 w0) => ⟨(u3_m_ok hm), ?_⟩)
      have gor1 := fun p => g_gor (kd := (m x_will_kinds_)) (nm := (m x_will_owner_)) (fit := (m x_paper_ 3)) (sh := (c_S Ks w0)) (fun _ _ _ _ => c_Sr) f (a := a) (n := t_top n k) (k := t_lk n k) (out := cw_ior out (g_nm (m x_will_owner_) (a + t_top n k) (a + n))) (worth := worth) (wd := wd) p (by omega)
      show Q none (u3_m m (g_go (m x_will_kinds_) (m x_will_owner_) (m x_paper_ 3) (c_S Ks w0) f a (t_top n k) (t_lk n k) (cw_ior out (g_nm (m x_will_owner_) (a + t_top n k) (a + n))) worth wd) ws89 sk89 x_forest_ x_will_)
      first
        | (exfalso; omega)
        | (rw [g_goB (by omega) kB] at hQ; exact hQ _ _ hcw89)
        | (rw [g_goA (by omega) (by omega) x103 x120] at hQ; exact hQ _ _ hcw89)
        | (rw [g_goL (by omega) kB x103 (fun z => x120 z.1)] at hQ; exact hQ _ _ hcw89)
        | (rw [g_goL (by omega) kB x103 (fun z => by have := z.2; omega)] at hQ; exact hQ _ _ hcw89)
        | (rw [g_goR (by omega) kB x103 x120] at hQ; exact hQ _ _ hcw89)
        | (rw [g_goN (by omega) kB x103 x120] at hQ; exact hQ _ _ hcw89)
    · skip
      refine la_go_C (u3_m_ok hm) 97 [] ?_
      refine br_t (show a < a + n by omega) ?_
      show cw_C _ _ [vr x_paper_, vi a, vi (a + n), vi dp] (u3_m m wd ws sk x_forest_ x_will_) _
      refine Pa_topOf3 (f := f) (n := n) (k := k) (ov := ov) hm rfl (by omega) (by omega) (by omega) hk h8 hH ⟨(u3_m_ok hm), ?_⟩
      refine br_t (show a + t_top n k ≠ (-1) by omega) ?_
      refine And.intro (show 0 ≤ a + t_top n k ∧ a + t_top n k < 6 by omega) ?_
      refine br_t (show m x_will_kinds_ (a + t_top n k) ≠ 2 by omega) ?_
      refine And.intro (show -2147483648 ≤ dp + 1 ∧ dp + 1 < 2147483648 by omega) ?_
      show cw_C _ _ [vr x_paper_, vi a, vi (a + t_top n k), vi out, vi (dp + 1)] (u3_m m wd ws sk x_forest_ x_will_) _
      refine Pa_takes3 f (by omega) hm (by omega) (by omega) (by omega) (by omega) (by omega) (by omega) h8 tk.2.1 (t_plL hH tk.1.2) (fun (x103 : g_tk (m x_will_kinds_) (m x_will_owner_) (m x_paper_ 3) f a (t_top n k) (t_lk n k) out = true) => ⟨(u3_m_ok hm), ?_⟩) (fun (x103 : g_tk (m x_will_kinds_) (m x_will_owner_) (m x_paper_ 3) f a (t_top n k) (t_lk n k) out ≠ true) => ⟨(u3_m_ok hm), ?_⟩)
      · refine And.intro (show -2147483648 ≤ (a + t_top n k) + 1 ∧ (a + t_top n k) + 1 < 2147483648 by omega) ?_
        refine And.intro (show -2147483648 ≤ dp + 1 ∧ dp + 1 < 2147483648 by omega) ?_
        show cw_C _ _ [vr x_paper_, vi ((a + t_top n k) + 1), vi (a + n), vi out, vi (dp + 1)] (u3_m m wd ws sk x_forest_ x_will_) _
        refine Pa_takes3 f (by omega) hm (by omega) (by omega) (by omega) (by omega) (by omega) (by omega) h8 tk.2.2.1 (t_plR hH tk.1.1) (fun (x120 : g_tk (m x_will_kinds_) (m x_will_owner_) (m x_paper_ 3) f (a + t_top n k + 1) (n - t_top n k - 1) (t_rk n k) out = true) => ⟨(u3_m_ok hm), ?_⟩) (fun (x120 : g_tk (m x_will_kinds_) (m x_will_owner_) (m x_paper_ 3) f (a + t_top n k + 1) (n - t_top n k - 1) (t_rk n k) out ≠ true) => ⟨(u3_m_ok hm), ?_⟩)
        · refine br_f (show ¬ ((1 : Int) = 0) by decide) ?_
          refine br_f (show ¬ ((1 : Int) = 0) by decide) ?_
          refine And.intro (show 0 ≤ a + t_top n k ∧ a + t_top n k < 6 by omega) ?_
          refine And.intro (fun (c21 : m x_will_kinds_ (a + t_top n k) ≠ 0) => ?_) (fun (c21 : ¬ (m x_will_kinds_ (a + t_top n k) ≠ 0)) => ?_)
          · refine br_f (show ¬ ((1 : Int) = 0) by decide) ?_
            refine And.intro (show -2147483648 ≤ dp + 1 ∧ dp + 1 < 2147483648 by omega) ?_
            show cw_C _ _ [vr x_paper_, vi a, vi (a + t_top n k), vi worth, vi out, vi (dp + 1)] (u3_m m wd ws sk x_forest_ x_will_) _
            refine ih (by omega) hm hT hw0 ho hcw (by omega) (by omega) (by omega) (by omega) (by omega) (by omega) h8 tk.2.1 (t_plL hH tk.1.2) (by omega) (fun p p0 p1 => by have := hwd p p0 p1; omega) (fun (ws232 sk232 : Int → Int) (hcw232 : c_w ws232 w0) => ⟨(u3_m_ok hm), ?_⟩)
            have gor1 := fun p => g_gor (kd := (m x_will_kinds_)) (nm := (m x_will_owner_)) (fit := (m x_paper_ 3)) (sh := (c_S Ks w0)) (fun _ _ _ _ => c_Sr) f (a := a) (n := t_top n k) (k := t_lk n k) (out := out) (worth := worth) (wd := wd) p (by omega)
            show Q none (u3_m m (g_go (m x_will_kinds_) (m x_will_owner_) (m x_paper_ 3) (c_S Ks w0) f a (t_top n k) (t_lk n k) out worth wd) ws232 sk232 x_forest_ x_will_)
            first
              | (exfalso; omega)
              | (rw [g_goB (by omega) kB] at hQ; exact hQ _ _ hcw232)
              | (rw [g_goA (by omega) (by omega) x103 x120] at hQ; exact hQ _ _ hcw232)
              | (rw [g_goL (by omega) kB x103 (fun z => x120 z.1)] at hQ; exact hQ _ _ hcw232)
              | (rw [g_goL (by omega) kB x103 (fun z => by have := z.2; omega)] at hQ; exact hQ _ _ hcw232)
              | (rw [g_goR (by omega) kB x103 x120] at hQ; exact hQ _ _ hcw232)
              | (rw [g_goN (by omega) kB x103 x120] at hQ; exact hQ _ _ hcw232)
          · refine And.intro (show -2147483648 ≤ (a + t_top n k) - a ∧ (a + t_top n k) - a < 2147483648 by omega) ?_
            refine And.intro (show -2147483648 ≤ ((a + t_top n k) - a) + 1 ∧ ((a + t_top n k) - a) + 1 < 2147483648 by omega) ?_
            refine And.intro (show -2147483648 ≤ (a + n) - (a + t_top n k) ∧ (a + n) - (a + t_top n k) < 2147483648 by omega) ?_
            show cw_C _ _ [vr x_paper_, vi (a + t_top n k), vi (((a + t_top n k) - a) + 1), vi ((a + n) - (a + t_top n k)), vi worth] (u3_m m wd ws sk x_forest_ x_will_) _
            refine Pa_askJ3 hm (l' := t_top n k + 1) (r' := n - t_top n k) (by omega) (by omega) ⟨(u3_m_ok hm), ?_⟩
            show cw_C _ _ [vr x_paper_, vi 0, vi 50] (u3_m m wd (c_J ws (a + t_top n k) (t_top n k + 1) (n - t_top n k) worth) sk x_forest_ x_will_) _
            refine Pa_tellJ3 hm hT hcw hw0 (by omega) (by omega) (by omega) hw (fun (sk3 : Int → Int) => ⟨(u3_m_ok hm), ?_⟩)
            have hsb := g_shb hw (c_Sr (Ks := Ks) (w0 := w0) (j := a + t_top n k) (l := t_top n k + 1) (r := n - t_top n k) (wt := worth))
            refine And.intro (show -2147483648 ≤ worth * (c_S Ks w0 (a + t_top n k) (t_top n k + 1) (n - t_top n k) worth) ∧ worth * (c_S Ks w0 (a + t_top n k) (t_top n k + 1) (n - t_top n k) worth) < 2147483648 by omega) ?_
            refine And.intro (show 0 ≤ worth * (c_S Ks w0 (a + t_top n k) (t_top n k + 1) (n - t_top n k) worth) ∧ worth * (c_S Ks w0 (a + t_top n k) (t_top n k + 1) (n - t_top n k) worth) < 2147483648 ∧ 0 < 100 by omega) ?_
            refine And.intro (show -2147483648 ≤ dp + 1 ∧ dp + 1 < 2147483648 by omega) ?_
            show cw_C _ _ [vr x_paper_, vi a, vi (a + t_top n k), vi ((worth * (c_S Ks w0 (a + t_top n k) (t_top n k + 1) (n - t_top n k) worth)) / 100), vi out, vi (dp + 1)] (u3_m m wd (c_J ws (a + t_top n k) (t_top n k + 1) (n - t_top n k) worth) sk3 x_forest_ x_will_) _
            refine ih (by omega) hm hT hw0 ho (c_wt c_wJ hcw) (by omega) (by omega) (by omega) (by omega) (by omega) (by omega) h8 tk.2.1 (t_plL hH tk.1.2) (by omega) (fun p p0 p1 => by have := hwd p p0 p1; omega) (fun (ws191 sk191 : Int → Int) (hcw191 : c_w ws191 w0) => ⟨(u3_m_ok hm), ?_⟩)
            have gor1 := fun p => g_gor (kd := (m x_will_kinds_)) (nm := (m x_will_owner_)) (fit := (m x_paper_ 3)) (sh := (c_S Ks w0)) (fun _ _ _ _ => c_Sr) f (a := a) (n := t_top n k) (k := t_lk n k) (out := out) (worth := (worth * (c_S Ks w0 (a + t_top n k) (t_top n k + 1) (n - t_top n k) worth)) / 100) (wd := wd) p (by omega)
            refine And.intro (show -2147483648 ≤ (a + t_top n k) + 1 ∧ (a + t_top n k) + 1 < 2147483648 by omega) ?_
            refine And.intro (show -2147483648 ≤ worth - ((worth * (c_S Ks w0 (a + t_top n k) (t_top n k + 1) (n - t_top n k) worth)) / 100) ∧ worth - ((worth * (c_S Ks w0 (a + t_top n k) (t_top n k + 1) (n - t_top n k) worth)) / 100) < 2147483648 by omega) ?_
            refine And.intro (show -2147483648 ≤ dp + 1 ∧ dp + 1 < 2147483648 by omega) ?_
            show cw_C _ _ [vr x_paper_, vi ((a + t_top n k) + 1), vi (a + n), vi (worth - ((worth * (c_S Ks w0 (a + t_top n k) (t_top n k + 1) (n - t_top n k) worth)) / 100)), vi out, vi (dp + 1)] (u3_m m (g_go (m x_will_kinds_) (m x_will_owner_) (m x_paper_ 3) (c_S Ks w0) f a (t_top n k) (t_lk n k) out ((worth * (c_S Ks w0 (a + t_top n k) (t_top n k + 1) (n - t_top n k) worth)) / 100) wd) ws191 sk191 x_forest_ x_will_) _
            refine ih (by omega) hm hT hw0 ho hcw191 (by omega) (by omega) (by omega) (by omega) (by omega) (by omega) h8 tk.2.2.1 (t_plR hH tk.1.1) (by omega) (fun p p0 p1 => by have := hwd p p0 p1; have := gor1 p; omega) (fun (ws210 sk210 : Int → Int) (hcw210 : c_w ws210 w0) => ⟨(u3_m_ok hm), ?_⟩)
            show Q none (u3_m m (g_go (m x_will_kinds_) (m x_will_owner_) (m x_paper_ 3) (c_S Ks w0) f (a + t_top n k + 1) (n - t_top n k - 1) (t_rk n k) out (worth - ((worth * (c_S Ks w0 (a + t_top n k) (t_top n k + 1) (n - t_top n k) worth)) / 100)) (g_go (m x_will_kinds_) (m x_will_owner_) (m x_paper_ 3) (c_S Ks w0) f a (t_top n k) (t_lk n k) out ((worth * (c_S Ks w0 (a + t_top n k) (t_top n k + 1) (n - t_top n k) worth)) / 100) wd)) ws210 sk210 x_forest_ x_will_)
            first
              | (exfalso; omega)
              | (rw [g_goB (by omega) kB] at hQ; exact hQ _ _ hcw210)
              | (rw [g_goA (by omega) (by omega) x103 x120] at hQ; exact hQ _ _ hcw210)
              | (rw [g_goL (by omega) kB x103 (fun z => x120 z.1)] at hQ; exact hQ _ _ hcw210)
              | (rw [g_goL (by omega) kB x103 (fun z => by have := z.2; omega)] at hQ; exact hQ _ _ hcw210)
              | (rw [g_goR (by omega) kB x103 x120] at hQ; exact hQ _ _ hcw210)
              | (rw [g_goN (by omega) kB x103 x120] at hQ; exact hQ _ _ hcw210)
        · refine br_f (show ¬ ((1 : Int) = 0) by decide) ?_
          refine br_t (show (0 : Int) = 0 by decide) ?_
          refine br_f (show ¬ ((1 : Int) = 0) by decide) ?_
          refine And.intro (show -2147483648 ≤ dp + 1 ∧ dp + 1 < 2147483648 by omega) ?_
          show cw_C _ _ [vr x_paper_, vi a, vi (a + t_top n k), vi worth, vi out, vi (dp + 1)] (u3_m m wd ws sk x_forest_ x_will_) _
          refine ih (by omega) hm hT hw0 ho hcw (by omega) (by omega) (by omega) (by omega) (by omega) (by omega) h8 tk.2.1 (t_plL hH tk.1.2) (by omega) (fun p p0 p1 => by have := hwd p p0 p1; omega) (fun (ws232 sk232 : Int → Int) (hcw232 : c_w ws232 w0) => ⟨(u3_m_ok hm), ?_⟩)
          have gor1 := fun p => g_gor (kd := (m x_will_kinds_)) (nm := (m x_will_owner_)) (fit := (m x_paper_ 3)) (sh := (c_S Ks w0)) (fun _ _ _ _ => c_Sr) f (a := a) (n := t_top n k) (k := t_lk n k) (out := out) (worth := worth) (wd := wd) p (by omega)
          show Q none (u3_m m (g_go (m x_will_kinds_) (m x_will_owner_) (m x_paper_ 3) (c_S Ks w0) f a (t_top n k) (t_lk n k) out worth wd) ws232 sk232 x_forest_ x_will_)
          first
            | (exfalso; omega)
            | (rw [g_goB (by omega) kB] at hQ; exact hQ _ _ hcw232)
            | (rw [g_goA (by omega) (by omega) x103 x120] at hQ; exact hQ _ _ hcw232)
            | (rw [g_goL (by omega) kB x103 (fun z => x120 z.1)] at hQ; exact hQ _ _ hcw232)
            | (rw [g_goL (by omega) kB x103 (fun z => by have := z.2; omega)] at hQ; exact hQ _ _ hcw232)
            | (rw [g_goR (by omega) kB x103 x120] at hQ; exact hQ _ _ hcw232)
            | (rw [g_goN (by omega) kB x103 x120] at hQ; exact hQ _ _ hcw232)
      · refine And.intro (show -2147483648 ≤ (a + t_top n k) + 1 ∧ (a + t_top n k) + 1 < 2147483648 by omega) ?_
        refine And.intro (show -2147483648 ≤ dp + 1 ∧ dp + 1 < 2147483648 by omega) ?_
        show cw_C _ _ [vr x_paper_, vi ((a + t_top n k) + 1), vi (a + n), vi out, vi (dp + 1)] (u3_m m wd ws sk x_forest_ x_will_) _
        refine Pa_takes3 f (by omega) hm (by omega) (by omega) (by omega) (by omega) (by omega) (by omega) h8 tk.2.2.1 (t_plR hH tk.1.1) (fun (x120 : g_tk (m x_will_kinds_) (m x_will_owner_) (m x_paper_ 3) f (a + t_top n k + 1) (n - t_top n k - 1) (t_rk n k) out = true) => ⟨(u3_m_ok hm), ?_⟩) (fun (x120 : g_tk (m x_will_kinds_) (m x_will_owner_) (m x_paper_ 3) f (a + t_top n k + 1) (n - t_top n k - 1) (t_rk n k) out ≠ true) => ⟨(u3_m_ok hm), ?_⟩)
        · refine br_t (show (0 : Int) = 0 by decide) ?_
          refine br_t (show (0 : Int) = 0 by decide) ?_
          refine br_f (show ¬ ((1 : Int) = 0) by decide) ?_
          refine And.intro (show -2147483648 ≤ (a + t_top n k) + 1 ∧ (a + t_top n k) + 1 < 2147483648 by omega) ?_
          refine And.intro (show -2147483648 ≤ dp + 1 ∧ dp + 1 < 2147483648 by omega) ?_
          show cw_C _ _ [vr x_paper_, vi ((a + t_top n k) + 1), vi (a + n), vi worth, vi out, vi (dp + 1)] (u3_m m wd ws sk x_forest_ x_will_) _
          refine ih (by omega) hm hT hw0 ho hcw (by omega) (by omega) (by omega) (by omega) (by omega) (by omega) h8 tk.2.2.1 (t_plR hH tk.1.1) (by omega) (fun p p0 p1 => by have := hwd p p0 p1; omega) (fun (ws256 sk256 : Int → Int) (hcw256 : c_w ws256 w0) => ⟨(u3_m_ok hm), ?_⟩)
          have gor1 := fun p => g_gor (kd := (m x_will_kinds_)) (nm := (m x_will_owner_)) (fit := (m x_paper_ 3)) (sh := (c_S Ks w0)) (fun _ _ _ _ => c_Sr) f (a := a + t_top n k + 1) (n := n - t_top n k - 1) (k := t_rk n k) (out := out) (worth := worth) (wd := wd) p (by omega)
          show Q none (u3_m m (g_go (m x_will_kinds_) (m x_will_owner_) (m x_paper_ 3) (c_S Ks w0) f (a + t_top n k + 1) (n - t_top n k - 1) (t_rk n k) out worth wd) ws256 sk256 x_forest_ x_will_)
          first
            | (exfalso; omega)
            | (rw [g_goB (by omega) kB] at hQ; exact hQ _ _ hcw256)
            | (rw [g_goA (by omega) (by omega) x103 x120] at hQ; exact hQ _ _ hcw256)
            | (rw [g_goL (by omega) kB x103 (fun z => x120 z.1)] at hQ; exact hQ _ _ hcw256)
            | (rw [g_goL (by omega) kB x103 (fun z => by have := z.2; omega)] at hQ; exact hQ _ _ hcw256)
            | (rw [g_goR (by omega) kB x103 x120] at hQ; exact hQ _ _ hcw256)
            | (rw [g_goN (by omega) kB x103 x120] at hQ; exact hQ _ _ hcw256)
        · refine br_t (show (0 : Int) = 0 by decide) ?_
          refine br_t (show (0 : Int) = 0 by decide) ?_
          refine br_t (show (0 : Int) = 0 by decide) ?_
          show Q none (u3_m m wd ws sk x_forest_ x_will_)
          first
            | (exfalso; omega)
            | (rw [g_goB (by omega) kB] at hQ; exact hQ _ _ hcw)
            | (rw [g_goA (by omega) (by omega) x103 x120] at hQ; exact hQ _ _ hcw)
            | (rw [g_goL (by omega) kB x103 (fun z => x120 z.1)] at hQ; exact hQ _ _ hcw)
            | (rw [g_goL (by omega) kB x103 (fun z => by have := z.2; omega)] at hQ; exact hQ _ _ hcw)
            | (rw [g_goR (by omega) kB x103 x120] at hQ; exact hQ _ _ hcw)
            | (rw [g_goN (by omega) kB x103 x120] at hQ; exact hQ _ _ hcw)
