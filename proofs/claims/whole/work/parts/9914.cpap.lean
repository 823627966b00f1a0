/-! Small steps on paper, by the class (wip/whole/tools/m114.py). -/
theorem C_bit {d : Nat} {m : cw_M} {Q : Option cw_V → cw_M → Prop} {a b : Int} (hm : la_ok m) (h : Q (some (vi (cw_iand (cw_ishr a b) 1))) m) : cw_C d k_C_bit [vi a, vi b] m Q := by
  refine la_go_C hm 8 [] ?_
  exact h
/-- no join of a piece ahead of its top lies as high -/
theorem t_qd : ∀ (f : Nat) {a n k dp ov x : Int}, n ≤ f → (1 ≤ n ∧ n ≤ 6) → (0 ≤ k ∧ k < t_c n) → a ≤ x → x < a + n → dp ≤ (t_q f a n k dp ov x).2.2.1
  | 0, a, n, k, dp, ov, x, hf, hn, hk, h1, h2 => by omega
  | f + 1, a, n, k, dp, ov, x, hf, hn, hk, h1, h2 => by
    obtain ⟨o1, o2, o3, -, -⟩ := t_ok hn hk
    by_cases e1 : x = a + t_top n k
    · show dp ≤ (if x = a + t_top n k then _ else _ : Int × Int × Int × Int).2.2.1
      rw [if_pos e1]
      exact Int.le_refl _
    by_cases e2 : x < a + t_top n k
    · rw [t_qL ⟨h1, e2⟩]
      have := t_qd f (a := a) (n := t_top n k) (k := t_lk n k) (dp := dp + 1) (ov := a + t_top n k) (x := x) (by omega) (by omega) o2 h1 e2
      omega
    · rw [t_qR (by omega)]
      have := t_qd f (a := a + t_top n k + 1) (n := n - t_top n k - 1) (k := t_rk n k) (dp := dp + 1) (ov := a + t_top n k) (x := x) (by omega) (by omega) o3 (by omega) (by omega)
      omega
theorem t_qt {f : Nat} {a n k dp ov : Int} : (t_q (f + 1) a n k dp ov (a + t_top n k)).2.2.1 = dp := by
  show (if a + t_top n k = a + t_top n k then _ else _ : Int × Int × Int × Int).2.2.1 = dp
  rw [if_pos rfl]
theorem t_qn {f : Nat} {a n k dp ov x : Int} (hf : n ≤ f + 1) (hn : 1 ≤ n ∧ n ≤ 6) (hk : 0 ≤ k ∧ k < t_c n) (h1 : a ≤ x) (h2 : x < a + t_top n k) : (t_q (f + 1) a n k dp ov x).2.2.1 ≠ dp := by
  obtain ⟨o1, o2, o3, -, -⟩ := t_ok hn hk
  rw [t_qL ⟨h1, h2⟩]
  have := t_qd f (a := a) (n := t_top n k) (k := t_lk n k) (dp := dp + 1) (ov := a + t_top n k) (x := x) (by omega) (by omega) o2 h1 h2
  omega
/-- what a law is asked at a join, of a person -/
def c_J (w : Int → Int) (j l r wt : Int) : Int → Int := fun i => if i = 0 then j else if i = 1 then l else if i = 2 then r else if i = 3 then wt else if i = 4 then -1 else if i = 5 then -1 else w i
def c_P (w : Int → Int) (p wt tm : Int) : Int → Int := fun i => if i = 0 then -1 else if i = 1 then -1 else if i = 2 then -1 else if i = 3 then wt else if i = 4 then p else if i = 5 then tm else w i
theorem c_Ju {w : Int → Int} {j l r wt : Int} : cw_up (cw_up (cw_up (cw_up (cw_up (cw_up w 0 j) 1 l) 2 r) 3 wt) 4 (-1)) 5 (-1) = c_J w j l r wt := by
  funext i
  unfold c_J
  by_cases h5 : i = 5
  · rw [h5, cw_up_eq]; rfl
  rw [cw_up_ne h5]
  by_cases h4 : i = 4
  · rw [h4, cw_up_eq]; rfl
  rw [cw_up_ne h4]
  by_cases h3 : i = 3
  · rw [h3, cw_up_eq]; rfl
  rw [cw_up_ne h3]
  by_cases h2 : i = 2
  · rw [h2, cw_up_eq]; rfl
  rw [cw_up_ne h2]
  by_cases h1 : i = 1
  · rw [h1, cw_up_eq]; rfl
  rw [cw_up_ne h1]
  by_cases h0 : i = 0
  · rw [h0, cw_up_eq]; rfl
  rw [cw_up_ne h0, if_neg h0, if_neg h1, if_neg h2, if_neg h3, if_neg h4, if_neg h5]
theorem c_Pu {w : Int → Int} {p wt tm : Int} : cw_up (cw_up (cw_up (cw_up (cw_up (cw_up w 0 (-1)) 1 (-1)) 2 (-1)) 3 wt) 4 p) 5 tm = c_P w p wt tm := by
  funext i
  unfold c_P
  by_cases h5 : i = 5
  · rw [h5, cw_up_eq]; rfl
  rw [cw_up_ne h5]
  by_cases h4 : i = 4
  · rw [h4, cw_up_eq]; rfl
  rw [cw_up_ne h4]
  by_cases h3 : i = 3
  · rw [h3, cw_up_eq]; rfl
  rw [cw_up_ne h3]
  by_cases h2 : i = 2
  · rw [h2, cw_up_eq]; rfl
  rw [cw_up_ne h2]
  by_cases h1 : i = 1
  · rw [h1, cw_up_eq]; rfl
  rw [cw_up_ne h1]
  by_cases h0 : i = 0
  · rw [h0, cw_up_eq]; rfl
  rw [cw_up_ne h0, if_neg h0, if_neg h1, if_neg h2, if_neg h3, if_neg h4, if_neg h5]
/-- two rows of words that differ but in what is asked -/
def c_w (w w0 : Int → Int) : Prop := ∀ i, (i < 0 ∨ 5 < i) → w i = w0 i
theorem c_Jw {w w0 : Int → Int} {j l r wt : Int} (h : c_w w w0) : c_J w j l r wt = c_J w0 j l r wt := by
  funext i
  unfold c_J
  (repeat' split) <;> first | rfl | exact h i (by omega)
theorem c_Pw {w w0 : Int → Int} {p wt tm : Int} (h : c_w w w0) : c_P w p wt tm = c_P w0 p wt tm := by
  funext i
  unfold c_P
  (repeat' split) <;> first | rfl | exact h i (by omega)
theorem c_wJ {w0 : Int → Int} {j l r wt : Int} : c_w (c_J w0 j l r wt) w0 := fun i q => by
  unfold c_J; rw [if_neg (by omega), if_neg (by omega), if_neg (by omega), if_neg (by omega), if_neg (by omega), if_neg (by omega)]
theorem c_wP {w0 : Int → Int} {p wt tm : Int} : c_w (c_P w0 p wt tm) w0 := fun i q => by
  unfold c_P; rw [if_neg (by omega), if_neg (by omega), if_neg (by omega), if_neg (by omega), if_neg (by omega), if_neg (by omega)]
theorem Wi_timesOf {d : Nat} {m : cw_M} {Q : Option cw_V → cw_M → Prop} (hm : la_ok m) (hn : 0 ≤ m x_will_ 0 ∧ m x_will_ 0 ≤ 7) {p : Int} (h : Q (some (vi (f_cnt (m x_will_owner_) p (m x_will_ 0).toNat))) m) : cw_C d k_Wi_timesOf [vr x_will_, vi p] m Q := by
  have lp : ∀ (r : Nat) (k : Int), m x_will_ 0 < k + r → (0 ≤ k ∧ k ≤ m x_will_ 0) → cw_R (d) k_Wi_timesOf 4 [vr x_will_, vi p, vi (f_cnt (m x_will_owner_) p k.toNat), vi k] [] m Q := by
    intro r
    induction r with
    | zero =>
      intro k hr hk
      omega
    | succ r ih =>
      intro k hr hk
      have fr := f_cntr (f := m x_will_owner_) (p := p) k.toNat
      refine la_go_R hm 16 [4] ?_
      refine And.intro (fun (c21 : m x_will_ 0 ≤ k) => ?_) (fun (c21 : ¬ (m x_will_ 0 ≤ k)) => ?_)
      · show Q (some (vi (f_cnt (m x_will_owner_) p k.toNat))) (m)
        rw [show k = m x_will_ 0 by omega]
        exact h
      · refine And.intro (show 0 ≤ k ∧ k < 7 by omega) ?_
        refine And.intro (fun (c22 : m x_will_owner_ k ≠ p) => ?_) (fun (c22 : ¬ (m x_will_owner_ k ≠ p)) => ?_)
        · refine And.intro (show -2147483648 ≤ k + 1 ∧ k + 1 < 2147483648 by omega) ?_
          show cw_R _ _ 4 [vr x_will_, vi p, vi (f_cnt (m x_will_owner_) p k.toNat), vi (k + 1)] [] (m) _
          rw [show f_cnt (m x_will_owner_) p k.toNat = f_cnt (m x_will_owner_) p (k + 1).toNat from by rw [show (k + 1).toNat = k.toNat + 1 by omega]; show _ = (f_cnt (m x_will_owner_) p k.toNat + if (m x_will_owner_) (k.toNat : Int) = p then 1 else 0); rw [show (k.toNat : Int) = k by omega, if_neg (by omega), Int.add_zero]]
          exact ih (k + 1) (by omega) (by omega)
        · refine And.intro (show -2147483648 ≤ (f_cnt (m x_will_owner_) p k.toNat) + 1 ∧ (f_cnt (m x_will_owner_) p k.toNat) + 1 < 2147483648 by omega) ?_
          refine And.intro (show -2147483648 ≤ k + 1 ∧ k + 1 < 2147483648 by omega) ?_
          show cw_R _ _ 4 [vr x_will_, vi p, vi ((f_cnt (m x_will_owner_) p k.toNat) + 1), vi (k + 1)] [] (m) _
          rw [show (f_cnt (m x_will_owner_) p k.toNat) + 1 = f_cnt (m x_will_owner_) p (k + 1).toNat from by rw [show (k + 1).toNat = k.toNat + 1 by omega]; show _ = (f_cnt (m x_will_owner_) p k.toNat + if (m x_will_owner_) (k.toNat : Int) = p then 1 else 0); rw [show (k.toNat : Int) = k by omega, if_pos (by omega)]]
          exact ih (k + 1) (by omega) (by omega)
  refine la_go_C hm 7 [4] ?_
  show cw_R _ _ 4 [vr x_will_, vi p, vi 0, vi 0] [] (m) _
  exact lp ((m x_will_ 0).toNat + 1) 0 (by omega) (by omega)
theorem Wi_namedMask {d : Nat} {m : cw_M} {Q : Option cw_V → cw_M → Prop} (hm : la_ok m) {a b : Int} (hab : 0 ≤ a ∧ a ≤ b + 1 ∧ b ≤ 6) (h : Q (some (vi (f_msk (m x_will_owner_) a (b + 1 - a).toNat))) m) : cw_C d k_Wi_namedMask [vr x_will_, vi a, vi b] m Q := by
  have lp : ∀ (r : Nat) (k : Int), b + 1 < k + r → (a ≤ k ∧ k ≤ b + 1) → cw_R (d) k_Wi_namedMask 5 [vr x_will_, vi a, vi b, vi (f_msk (m x_will_owner_) a (k - a).toNat), vi k] [] m Q := by
    intro r
    induction r with
    | zero =>
      intro k hr hk
      omega
    | succ r ih =>
      intro k hr hk
      refine la_go_R hm 17 [5] ?_
      refine And.intro (fun (c21 : b < k) => ?_) (fun (c21 : ¬ (b < k)) => ?_)
      · show Q (some (vi (f_msk (m x_will_owner_) a (k - a).toNat))) (m)
        rw [show k = b + 1 by omega]
        exact h
      · refine And.intro (show 0 ≤ k ∧ k < 7 by omega) ?_
        refine And.intro (show -2147483648 ≤ k + 1 ∧ k + 1 < 2147483648 by omega) ?_
        show cw_R _ _ 5 [vr x_will_, vi a, vi b, vi (cw_ior (f_msk (m x_will_owner_) a (k - a).toNat) (cw_ishl 1 (m x_will_owner_ k))), vi (k + 1)] [] (m) _
        rw [show cw_ior (f_msk (m x_will_owner_) a (k - a).toNat) (cw_ishl 1 (m x_will_owner_ k)) = f_msk (m x_will_owner_) a (k + 1 - a).toNat from f_msk1 (f := m x_will_owner_) hk.1]
        exact ih (k + 1) (by omega) (by omega)
  refine la_go_C hm 7 [5] ?_
  show cw_R _ _ 5 [vr x_will_, vi a, vi b, vi 0, vi a] [] (m) _
  have e : f_msk (m x_will_owner_) a (a - a).toNat = 0 := by rw [show a - a = 0 by omega]; rfl
  rw [← e]
  exact lp (b + 2 - a).toNat a (by omega) (by omega)
def u2_m (m : cw_M) (wd ws sk : Int → Int) (fo wi : Int) : cw_M := fun c => if c = x_ledger_paper_would_ then wd else if c = x_ledger_paper_sums_words_ then ws else if c = x_ledger_paper_sums_stack_ then sk else if c = x_ledger_paper_ then (fun j => if j = 5 then fo else if j = 6 then wi else m x_ledger_paper_ j) else m c
theorem u2_m_ne {m : cw_M} {wd ws sk : Int → Int} {fo wi : Int} {c : Int} (h0 : c ≠ x_ledger_paper_would_) (h1 : c ≠ x_ledger_paper_sums_words_) (h2 : c ≠ x_ledger_paper_sums_stack_) (h3 : c ≠ x_ledger_paper_) : u2_m m wd ws sk fo wi c = m c := by
  unfold u2_m; rw [if_neg h0, if_neg h1, if_neg h2, if_neg h3]
theorem u2_m_wd {m : cw_M} {wd ws sk : Int → Int} {fo wi : Int} : u2_m m wd ws sk fo wi x_ledger_paper_would_ = wd := rfl
theorem u2_m_ws {m : cw_M} {wd ws sk : Int → Int} {fo wi : Int} : u2_m m wd ws sk fo wi x_ledger_paper_sums_words_ = ws := rfl
theorem u2_m_sk {m : cw_M} {wd ws sk : Int → Int} {fo wi : Int} : u2_m m wd ws sk fo wi x_ledger_paper_sums_stack_ = sk := rfl
theorem u2_m_ox_ledger_paper_ {m : cw_M} {wd ws sk : Int → Int} {fo wi : Int} {j : Int} (h0 : j ≠ 5) (h1 : j ≠ 6) : u2_m m wd ws sk fo wi x_ledger_paper_ j = m x_ledger_paper_ j := by
  show (if j = 5 then fo else if j = 6 then wi else m x_ledger_paper_ j) = _
  rw [if_neg h0, if_neg h1]
theorem u2_m_ok {m : cw_M} {wd ws sk : Int → Int} {fo wi : Int} (hm : la_ok m) : la_ok (u2_m m wd ws sk fo wi) := by
  refine ⟨by rw [u2_m_ne (by decide) (by decide) (by decide) (by decide)]; exact hm.1, fun e he => ?_⟩
  obtain ⟨z1, h2, -, z4⟩ := la_lok e he
  have n0 : e.1 ≠ x_ledger_paper_would_ := fun q => by rw [q] at h2; revert h2; decide
  have n1 : e.1 ≠ x_ledger_paper_sums_words_ := fun q => by rw [q] at h2; revert h2; decide
  have n2 : e.1 ≠ x_ledger_paper_sums_stack_ := fun q => by rw [q] at h2; revert h2; decide
  by_cases q0 : e.1 = x_ledger_paper_
  · rw [q0, u2_m_ox_ledger_paper_ (fun q => by rw [q0, q] at z4; cases z4) (fun q => by rw [q0, q] at z4; cases z4), ← q0]; exact hm.2 e he
  rw [u2_m_ne n0 n1 n2 q0]; exact hm.2 e he
theorem u2_m_x {m M : cw_M} {wd ws sk : Int → Int} {fo wi : Int} (r0 : M x_ledger_paper_would_ = wd) (r1 : M x_ledger_paper_sums_words_ = ws) (r2 : M x_ledger_paper_sums_stack_ = sk) (f0 : M x_ledger_paper_ 5 = fo) (f1 : M x_ledger_paper_ 6 = wi) (o0 : ∀ j, j ≠ 5 → j ≠ 6 → M x_ledger_paper_ j = m x_ledger_paper_ j) (h : ∀ c, c ≠ x_ledger_paper_would_ → c ≠ x_ledger_paper_sums_words_ → c ≠ x_ledger_paper_sums_stack_ → c ≠ x_ledger_paper_ → M c = m c) : M = u2_m m wd ws sk fo wi := by
  funext c
  by_cases h0 : c = x_ledger_paper_would_
  · rw [h0, r0]; rfl
  by_cases h1 : c = x_ledger_paper_sums_words_
  · rw [h1, r1]; rfl
  by_cases h2 : c = x_ledger_paper_sums_stack_
  · rw [h2, r2]; rfl
  by_cases h3 : c = x_ledger_paper_
  · funext j
    rw [h3]
    by_cases z0 : j = 5
    · rw [z0, f0]; rfl
    by_cases z1 : j = 6
    · rw [z1, f1]; rfl
    rw [o0 j z0 z1, u2_m_ox_ledger_paper_ z0 z1]
  rw [h c h0 h1 h2 h3, u2_m_ne h0 h1 h2 h3]
theorem u2_m_rwd {m : cw_M} {wd ws sk : Int → Int} {fo wi : Int} {f : Int → Int} : cw_row (u2_m m wd ws sk fo wi) x_ledger_paper_would_ f = u2_m m f ws sk fo wi := by
  refine u2_m_x rfl rfl rfl rfl rfl (fun j z0 z1 => by rw [cw_row_ne (by decide), u2_m_ox_ledger_paper_ z0 z1]) (fun c h0 h1 h2 h3 => by rw [cw_row_ne h0, u2_m_ne h0 h1 h2 h3])
theorem u2_m_pwd {m : cw_M} {wd ws sk : Int → Int} {fo wi : Int} {i v : Int} : cw_put (u2_m m wd ws sk fo wi) x_ledger_paper_would_ i v = u2_m m (cw_up wd i v) ws sk fo wi := by
  rw [cw_put_row, u2_m_rwd, u2_m_wd]
theorem u2_m_rws {m : cw_M} {wd ws sk : Int → Int} {fo wi : Int} {f : Int → Int} : cw_row (u2_m m wd ws sk fo wi) x_ledger_paper_sums_words_ f = u2_m m wd f sk fo wi := by
  refine u2_m_x rfl rfl rfl rfl rfl (fun j z0 z1 => by rw [cw_row_ne (by decide), u2_m_ox_ledger_paper_ z0 z1]) (fun c h0 h1 h2 h3 => by rw [cw_row_ne h1, u2_m_ne h0 h1 h2 h3])
theorem u2_m_pws {m : cw_M} {wd ws sk : Int → Int} {fo wi : Int} {i v : Int} : cw_put (u2_m m wd ws sk fo wi) x_ledger_paper_sums_words_ i v = u2_m m wd (cw_up ws i v) sk fo wi := by
  rw [cw_put_row, u2_m_rws, u2_m_ws]
theorem u2_m_rsk {m : cw_M} {wd ws sk : Int → Int} {fo wi : Int} {f : Int → Int} : cw_row (u2_m m wd ws sk fo wi) x_ledger_paper_sums_stack_ f = u2_m m wd ws f fo wi := by
  refine u2_m_x rfl rfl rfl rfl rfl (fun j z0 z1 => by rw [cw_row_ne (by decide), u2_m_ox_ledger_paper_ z0 z1]) (fun c h0 h1 h2 h3 => by rw [cw_row_ne h2, u2_m_ne h0 h1 h2 h3])
theorem u2_m_psk {m : cw_M} {wd ws sk : Int → Int} {fo wi : Int} {i v : Int} : cw_put (u2_m m wd ws sk fo wi) x_ledger_paper_sums_stack_ i v = u2_m m wd ws (cw_up sk i v) fo wi := by
  rw [cw_put_row, u2_m_rsk, u2_m_sk]
theorem u2_m_ffo {m : cw_M} {wd ws sk : Int → Int} {fo wi : Int} {v : Int} : cw_put (u2_m m wd ws sk fo wi) x_ledger_paper_ 5 v = u2_m m wd ws sk v wi := by
  refine u2_m_x rfl rfl rfl rfl rfl (fun j z0 z1 => by rw [cw_put_off z0, u2_m_ox_ledger_paper_ z0 z1]) (fun c h0 h1 h2 h3 => by rw [cw_put_ne h3, u2_m_ne h0 h1 h2 h3])
theorem u2_m_fwi {m : cw_M} {wd ws sk : Int → Int} {fo wi : Int} {v : Int} : cw_put (u2_m m wd ws sk fo wi) x_ledger_paper_ 6 v = u2_m m wd ws sk fo v := by
  refine u2_m_x rfl rfl rfl rfl rfl (fun j z0 z1 => by rw [cw_put_off z1, u2_m_ox_ledger_paper_ z0 z1]) (fun c h0 h1 h2 h3 => by rw [cw_put_ne h3, u2_m_ne h0 h1 h2 h3])
theorem u2_m_2 {m : cw_M} {wd ws sk : Int → Int} {fo wi : Int} {wd' ws' sk' : Int → Int} {fo' wi' : Int} : u2_m (u2_m m wd ws sk fo wi) wd' ws' sk' fo' wi' = u2_m m wd' ws' sk' fo' wi' := by
  refine u2_m_x rfl rfl rfl rfl rfl (fun j z0 z1 => by rw [u2_m_ox_ledger_paper_ z0 z1, u2_m_ox_ledger_paper_ z0 z1]) (fun c h0 h1 h2 h3 => by rw [u2_m_ne h0 h1 h2 h3, u2_m_ne h0 h1 h2 h3])
theorem u2_m_self {m : cw_M} : u2_m m (m x_ledger_paper_would_) (m x_ledger_paper_sums_words_) (m x_ledger_paper_sums_stack_) (m x_ledger_paper_ 5) (m x_ledger_paper_ 6) = m := by
  refine (u2_m_x rfl rfl rfl rfl rfl (fun _ _ _ => rfl) (fun _ _ _ _ _ => rfl)).symm
theorem Pa_isHeir2 {d : Nat} {m : cw_M} {Q : Option cw_V → cw_M → Prop} (hm : la_ok m) {wd ws sk : Int → Int} {a out : Int} (ha : 0 ≤ a ∧ a ≤ 6) (h1 : g_lf (m x_ledger_paper_ 3) out (m x_will_owner_ a) = true → Q (some (vi 1)) (u2_m m wd ws sk x_forest_ x_will_)) (h0 : g_lf (m x_ledger_paper_ 3) out (m x_will_owner_ a) = false → Q (some (vi 0)) (u2_m m wd ws sk x_forest_ x_will_)) : cw_C (d + 1) k_Pa_isHeir [vr x_ledger_paper_, vi a, vi out] (u2_m m wd ws sk x_forest_ x_will_) Q := by
  refine la_go_C (u2_m_ok hm) 20 [] ?_
  refine And.intro (show 0 ≤ a ∧ a < 7 by omega) ?_
  show cw_C _ _ [vi (cw_iand (m x_ledger_paper_ 3) (cw_ixor out (-1))), vi (m x_will_owner_ a)] (u2_m m wd ws sk x_forest_ x_will_) _
  refine C_bit (u2_m_ok hm) ⟨(u2_m_ok hm), ?_⟩
  refine And.intro (fun (c21 : cw_iand (cw_ishr (cw_iand (m x_ledger_paper_ 3) (cw_ixor out (-1))) (m x_will_owner_ a)) 1 ≠ 1) => ?_) (fun (c21 : ¬ (cw_iand (cw_ishr (cw_iand (m x_ledger_paper_ 3) (cw_ixor out (-1))) (m x_will_owner_ a)) 1 ≠ 1)) => ?_)
  · refine And.intro (Or.inl rfl) ?_
    show Q (some (vi 0)) (u2_m m wd ws sk x_forest_ x_will_)
    have e : g_lf (m x_ledger_paper_ 3) out (m x_will_owner_ a) = false := by unfold g_lf; exact decide_eq_false (by omega)
    exact h0 e
  · refine And.intro (Or.inr rfl) ?_
    show Q (some (vi 1)) (u2_m m wd ws sk x_forest_ x_will_)
    have e : g_lf (m x_ledger_paper_ 3) out (m x_will_owner_ a) = true := by unfold g_lf; exact decide_eq_true (by omega)
    exact h1 e
theorem Pa_topOf2 {d : Nat} {m : cw_M} {Q : Option cw_V → cw_M → Prop} (hm : la_ok m) {wd ws sk : Int → Int} {f : Nat} {a b n k dp ov : Int} (hb : b = a + n) (ha : 0 ≤ a ∧ a + n ≤ 6) (hf : n ≤ f + 1) (hn : 1 ≤ n ∧ n ≤ 6) (hk : 0 ≤ k ∧ k < t_c n) (h8 : 0 ≤ m x_ledger_paper_ 8 ∧ m x_ledger_paper_ 8 ≤ 786) (hd : t_pl (fun q => q.2.2.1) (m x_forest_deep_) (m x_ledger_paper_ 8) (f + 1) a n k dp ov) (h : Q (some (vi (a + t_top n k))) (u2_m m wd ws sk x_forest_ x_will_)) : cw_C d k_Pa_topOf [vr x_ledger_paper_, vi a, vi b, vi dp] (u2_m m wd ws sk x_forest_ x_will_) Q := by
  have tk := (t_ok hn hk).1
  have lp : ∀ (r : Nat) (x : Int), a + n < x + r → (a ≤ x ∧ x ≤ a + t_top n k) → cw_R (d) k_Pa_topOf 3 [vr x_ledger_paper_, vi a, vi b, vi dp, vi x] [] (u2_m m wd ws sk x_forest_ x_will_) Q := by
    intro r
    induction r with
    | zero =>
      intro x hr hx
      omega
    | succ r ih =>
      intro x hr hx
      have hd1 : m x_forest_deep_ (m x_ledger_paper_ 8 + (a + t_top n k)) = dp := (hd (a + t_top n k) (by omega) (by omega)).trans t_qt
      have hxr : x < a + n := by omega
      have hd2 : x = a + t_top n k → m x_forest_deep_ (m x_ledger_paper_ 8 + x) = dp := fun q => by rw [q]; exact hd1
      refine la_go_R (u2_m_ok hm) 18 [3] ?_
      refine And.intro (fun (c21 : b ≤ x) => ?_) (fun (c21 : ¬ (b ≤ x)) => ?_)
      · show Q (some (vi (-1))) (u2_m m wd ws sk x_forest_ x_will_)
        exfalso; omega
      · refine And.intro (show -2147483648 ≤ (m x_ledger_paper_ 8) + x ∧ (m x_ledger_paper_ 8) + x < 2147483648 by omega) ?_
        refine And.intro (show 0 ≤ (m x_ledger_paper_ 8) + x ∧ (m x_ledger_paper_ 8) + x < 792 by omega) ?_
        refine And.intro (fun (c22 : m x_forest_deep_ ((m x_ledger_paper_ 8) + x) ≠ dp) => ?_) (fun (c22 : ¬ (m x_forest_deep_ ((m x_ledger_paper_ 8) + x) ≠ dp)) => ?_)
        · refine And.intro (show -2147483648 ≤ x + 1 ∧ x + 1 < 2147483648 by omega) ?_
          show cw_R _ _ 3 [vr x_ledger_paper_, vi a, vi b, vi dp, vi (x + 1)] [] (u2_m m wd ws sk x_forest_ x_will_) _
          by_cases q : x = a + t_top n k
          · exfalso; have := hd2 q; omega
          · exact ih (x + 1) (by omega) (by omega)
        · show Q (some (vi x)) (u2_m m wd ws sk x_forest_ x_will_)
          rw [show x = a + t_top n k by
            by_cases q : x < a + t_top n k
            · exact absurd (hd x hx.1 (by omega)) (fun z => t_qn hf hn hk hx.1 q (z.symm.trans (by omega)))
            · omega]
          exact h
  refine la_go_C (u2_m_ok hm) 5 [3] ?_
  show cw_R _ _ 3 [vr x_ledger_paper_, vi a, vi b, vi dp, vi a] [] (u2_m m wd ws sk x_forest_ x_will_) _
  exact lp (n.toNat + 1) a (by omega) (by omega)
theorem Pa_askOfJoin2 {d : Nat} {m : cw_M} {Q : Option cw_V → cw_M → Prop} (hm : la_ok m) {wd ws sk : Int → Int} {j l r wt : Int} (h : Q none (u2_m m wd (c_J ws j l r wt) sk x_forest_ x_will_)) : cw_C d k_Pa_askOfJoin [vr x_ledger_paper_, vi j, vi l, vi r, vi wt] (u2_m m wd ws sk x_forest_ x_will_) Q := by
  refine la_go_C (u2_m_ok hm) 40 [] ?_
  refine And.intro (show 0 ≤ 0 ∧ 0 < 17 by omega) ?_
  have hm21 : la_ok (cw_put (u2_m m wd ws sk x_forest_ x_will_) x_ledger_paper_sums_words_ 0 j) := la_put (u2_m_ok hm) (by decide) (Or.inr (by decide))
  refine And.intro (show 0 ≤ 1 ∧ 1 < 17 by omega) ?_
  have hm22 : la_ok (cw_put (cw_put (u2_m m wd ws sk x_forest_ x_will_) x_ledger_paper_sums_words_ 0 j) x_ledger_paper_sums_words_ 1 l) := la_put hm21 (by decide) (Or.inr (by decide))
  refine And.intro (show 0 ≤ 2 ∧ 2 < 17 by omega) ?_
  have hm23 : la_ok (cw_put (cw_put (cw_put (u2_m m wd ws sk x_forest_ x_will_) x_ledger_paper_sums_words_ 0 j) x_ledger_paper_sums_words_ 1 l) x_ledger_paper_sums_words_ 2 r) := la_put hm22 (by decide) (Or.inr (by decide))
  refine And.intro (show 0 ≤ 3 ∧ 3 < 17 by omega) ?_
  have hm24 : la_ok (cw_put (cw_put (cw_put (cw_put (u2_m m wd ws sk x_forest_ x_will_) x_ledger_paper_sums_words_ 0 j) x_ledger_paper_sums_words_ 1 l) x_ledger_paper_sums_words_ 2 r) x_ledger_paper_sums_words_ 3 wt) := la_put hm23 (by decide) (Or.inr (by decide))
  refine And.intro (show 0 ≤ 4 ∧ 4 < 17 by omega) ?_
  have hm25 : la_ok (cw_put (cw_put (cw_put (cw_put (cw_put (u2_m m wd ws sk x_forest_ x_will_) x_ledger_paper_sums_words_ 0 j) x_ledger_paper_sums_words_ 1 l) x_ledger_paper_sums_words_ 2 r) x_ledger_paper_sums_words_ 3 wt) x_ledger_paper_sums_words_ 4 (-1)) := la_put hm24 (by decide) (Or.inr (by decide))
  refine And.intro (show 0 ≤ 5 ∧ 5 < 17 by omega) ?_
  have hm26 : la_ok (cw_put (cw_put (cw_put (cw_put (cw_put (cw_put (u2_m m wd ws sk x_forest_ x_will_) x_ledger_paper_sums_words_ 0 j) x_ledger_paper_sums_words_ 1 l) x_ledger_paper_sums_words_ 2 r) x_ledger_paper_sums_words_ 3 wt) x_ledger_paper_sums_words_ 4 (-1)) x_ledger_paper_sums_words_ 5 (-1)) := la_put hm25 (by decide) (Or.inr (by decide))
  show Q none (cw_put (cw_put (cw_put (cw_put (cw_put (cw_put (u2_m m wd ws sk x_forest_ x_will_) x_ledger_paper_sums_words_ 0 j) x_ledger_paper_sums_words_ 1 l) x_ledger_paper_sums_words_ 2 r) x_ledger_paper_sums_words_ 3 wt) x_ledger_paper_sums_words_ 4 (-1)) x_ledger_paper_sums_words_ 5 (-1))
  rw [u2_m_pws, u2_m_pws, u2_m_pws, u2_m_pws, u2_m_pws, u2_m_pws]
  have hm27 : la_ok (u2_m m wd (cw_up (cw_up (cw_up (cw_up (cw_up (cw_up ws 0 j) 1 l) 2 r) 3 wt) 4 (-1)) 5 (-1)) sk x_forest_ x_will_) := u2_m_ok hm
  rw [c_Ju]
  exact h
theorem Pa_askOfPerson2 {d : Nat} {m : cw_M} {Q : Option cw_V → cw_M → Prop} (hm : la_ok m) (hn : 0 ≤ m x_will_ 0 ∧ m x_will_ 0 ≤ 7) {wd ws sk : Int → Int} {p wt : Int} (h : Q none (u2_m m wd (c_P ws p wt (f_cnt (m x_will_owner_) p (m x_will_ 0).toNat)) sk x_forest_ x_will_)) : cw_C (d + 1) k_Pa_askOfPerson [vr x_ledger_paper_, vi p, vi wt] (u2_m m wd ws sk x_forest_ x_will_) Q := by
  refine la_go_C (u2_m_ok hm) 43 [] ?_
  refine And.intro (show 0 ≤ 0 ∧ 0 < 17 by omega) ?_
  have hm21 : la_ok (cw_put (u2_m m wd ws sk x_forest_ x_will_) x_ledger_paper_sums_words_ 0 (-1)) := la_put (u2_m_ok hm) (by decide) (Or.inr (by decide))
  refine And.intro (show 0 ≤ 1 ∧ 1 < 17 by omega) ?_
  have hm22 : la_ok (cw_put (cw_put (u2_m m wd ws sk x_forest_ x_will_) x_ledger_paper_sums_words_ 0 (-1)) x_ledger_paper_sums_words_ 1 (-1)) := la_put hm21 (by decide) (Or.inr (by decide))
  refine And.intro (show 0 ≤ 2 ∧ 2 < 17 by omega) ?_
  have hm23 : la_ok (cw_put (cw_put (cw_put (u2_m m wd ws sk x_forest_ x_will_) x_ledger_paper_sums_words_ 0 (-1)) x_ledger_paper_sums_words_ 1 (-1)) x_ledger_paper_sums_words_ 2 (-1)) := la_put hm22 (by decide) (Or.inr (by decide))
  refine And.intro (show 0 ≤ 3 ∧ 3 < 17 by omega) ?_
  have hm24 : la_ok (cw_put (cw_put (cw_put (cw_put (u2_m m wd ws sk x_forest_ x_will_) x_ledger_paper_sums_words_ 0 (-1)) x_ledger_paper_sums_words_ 1 (-1)) x_ledger_paper_sums_words_ 2 (-1)) x_ledger_paper_sums_words_ 3 wt) := la_put hm23 (by decide) (Or.inr (by decide))
  refine And.intro (show 0 ≤ 4 ∧ 4 < 17 by omega) ?_
  have hm25 : la_ok (cw_put (cw_put (cw_put (cw_put (cw_put (u2_m m wd ws sk x_forest_ x_will_) x_ledger_paper_sums_words_ 0 (-1)) x_ledger_paper_sums_words_ 1 (-1)) x_ledger_paper_sums_words_ 2 (-1)) x_ledger_paper_sums_words_ 3 wt) x_ledger_paper_sums_words_ 4 p) := la_put hm24 (by decide) (Or.inr (by decide))
  show cw_C _ _ [vr x_will_, vi p] (cw_put (cw_put (cw_put (cw_put (cw_put (u2_m m wd ws sk x_forest_ x_will_) x_ledger_paper_sums_words_ 0 (-1)) x_ledger_paper_sums_words_ 1 (-1)) x_ledger_paper_sums_words_ 2 (-1)) x_ledger_paper_sums_words_ 3 wt) x_ledger_paper_sums_words_ 4 p) _
  rw [u2_m_pws, u2_m_pws, u2_m_pws, u2_m_pws, u2_m_pws]
  have hm26 : la_ok (u2_m m wd (cw_up (cw_up (cw_up (cw_up (cw_up ws 0 (-1)) 1 (-1)) 2 (-1)) 3 wt) 4 p) sk x_forest_ x_will_) := u2_m_ok hm
  refine Wi_timesOf hm26 hn ⟨hm26, ?_⟩
  refine And.intro (show 0 ≤ 5 ∧ 5 < 17 by omega) ?_
  have hm27 : la_ok (cw_put (u2_m m wd (cw_up (cw_up (cw_up (cw_up (cw_up ws 0 (-1)) 1 (-1)) 2 (-1)) 3 wt) 4 p) sk x_forest_ x_will_) x_ledger_paper_sums_words_ 5 (f_cnt (m x_will_owner_) p (m x_will_ 0).toNat)) := la_put hm26 (by decide) (Or.inr (by decide))
  show Q none (cw_put (u2_m m wd (cw_up (cw_up (cw_up (cw_up (cw_up ws 0 (-1)) 1 (-1)) 2 (-1)) 3 wt) 4 p) sk x_forest_ x_will_) x_ledger_paper_sums_words_ 5 (f_cnt (m x_will_owner_) p (m x_will_ 0).toNat))
  rw [u2_m_pws]
  have hm28 : la_ok (u2_m m wd (cw_up (cw_up (cw_up (cw_up (cw_up (cw_up ws 0 (-1)) 1 (-1)) 2 (-1)) 3 wt) 4 p) 5 (f_cnt (m x_will_owner_) p (m x_will_ 0).toNat)) sk x_forest_ x_will_) := u2_m_ok hm
  rw [c_Pu]
  exact h
theorem u2_v {m : cw_M} {wd ws sk : Int → Int} {sk' : Int → Int} : v2_m (u2_m m wd ws sk x_forest_ x_will_) sk' = u2_m m wd ws sk' x_forest_ x_will_ := by
  refine u2_m_x rfl rfl rfl rfl rfl (fun j p q => ?_) (fun c a b e p => ?_)
  · show (if j = 5 then _ else _) = _
    rw [if_neg p, if_neg q]
  · rw [v2_m_ne e, u2_m_ne a b e p]
theorem Pa_tell2 {d : Nat} {m : cw_M} {Q : Option cw_V → cw_M → Prop} (hm : la_ok m) {wd ws sk : Int → Int} {h wo : Int} {Ks : List p_K} (hT : T_o m (m x_ledger_paper_ 7) Ks) (hW : ∀ i, 0 ≤ i → i < 17 → -1000000 ≤ ws i ∧ ws i ≤ 1000000) (hQ : ∀ sk', Q (some (vi (l_tl Ks h wo ws))) (u2_m m wd ws sk' x_forest_ x_will_)) : cw_C (d + 2) k_Pa_lawTells [vr x_ledger_paper_, vi h, vi wo] (u2_m m wd ws sk x_forest_ x_will_) Q := by
  have e : v2_m (u2_m m wd ws sk x_forest_ x_will_) sk = u2_m m wd ws sk x_forest_ x_will_ := u2_v
  rw [← e]
  refine Pa_tells2 (u2_m_ok hm) (Ks := Ks) ?_ hW (fun sk' => ?_)
  · refine T_oe hT (fun c q => ?_)
    exact u2_m_ne (fun e => by rw [e] at q; exact absurd q (by unfold h_c; decide)) (fun e => by rw [e] at q; exact absurd q (by unfold h_c; decide)) (fun e => by rw [e] at q; exact absurd q (by unfold h_c; decide)) (fun e => by rw [e] at q; exact absurd q (by unfold h_c; decide))
  · rw [u2_v]; exact hQ sk'
def u3_m (m : cw_M) (wd ws sk : Int → Int) (fo wi : Int) : cw_M := fun c => if c = x_paper_would_ then wd else if c = x_paper_sums_words_ then ws else if c = x_paper_sums_stack_ then sk else if c = x_paper_ then (fun j => if j = 5 then fo else if j = 6 then wi else m x_paper_ j) else m c
theorem u3_m_ne {m : cw_M} {wd ws sk : Int → Int} {fo wi : Int} {c : Int} (h0 : c ≠ x_paper_would_) (h1 : c ≠ x_paper_sums_words_) (h2 : c ≠ x_paper_sums_stack_) (h3 : c ≠ x_paper_) : u3_m m wd ws sk fo wi c = m c := by
  unfold u3_m; rw [if_neg h0, if_neg h1, if_neg h2, if_neg h3]
theorem u3_m_wd {m : cw_M} {wd ws sk : Int → Int} {fo wi : Int} : u3_m m wd ws sk fo wi x_paper_would_ = wd := rfl
theorem u3_m_ws {m : cw_M} {wd ws sk : Int → Int} {fo wi : Int} : u3_m m wd ws sk fo wi x_paper_sums_words_ = ws := rfl
theorem u3_m_sk {m : cw_M} {wd ws sk : Int → Int} {fo wi : Int} : u3_m m wd ws sk fo wi x_paper_sums_stack_ = sk := rfl
theorem u3_m_ox_paper_ {m : cw_M} {wd ws sk : Int → Int} {fo wi : Int} {j : Int} (h0 : j ≠ 5) (h1 : j ≠ 6) : u3_m m wd ws sk fo wi x_paper_ j = m x_paper_ j := by
  show (if j = 5 then fo else if j = 6 then wi else m x_paper_ j) = _
  rw [if_neg h0, if_neg h1]
theorem u3_m_ok {m : cw_M} {wd ws sk : Int → Int} {fo wi : Int} (hm : la_ok m) : la_ok (u3_m m wd ws sk fo wi) := by
  refine ⟨by rw [u3_m_ne (by decide) (by decide) (by decide) (by decide)]; exact hm.1, fun e he => ?_⟩
  obtain ⟨z1, h2, -, z4⟩ := la_lok e he
  have n0 : e.1 ≠ x_paper_would_ := fun q => by rw [q] at h2; revert h2; decide
  have n1 : e.1 ≠ x_paper_sums_words_ := fun q => by rw [q] at h2; revert h2; decide
  have n2 : e.1 ≠ x_paper_sums_stack_ := fun q => by rw [q] at h2; revert h2; decide
  by_cases q0 : e.1 = x_paper_
  · rw [q0, u3_m_ox_paper_ (fun q => by rw [q0, q] at z4; cases z4) (fun q => by rw [q0, q] at z4; cases z4), ← q0]; exact hm.2 e he
  rw [u3_m_ne n0 n1 n2 q0]; exact hm.2 e he
theorem u3_m_x {m M : cw_M} {wd ws sk : Int → Int} {fo wi : Int} (r0 : M x_paper_would_ = wd) (r1 : M x_paper_sums_words_ = ws) (r2 : M x_paper_sums_stack_ = sk) (f0 : M x_paper_ 5 = fo) (f1 : M x_paper_ 6 = wi) (o0 : ∀ j, j ≠ 5 → j ≠ 6 → M x_paper_ j = m x_paper_ j) (h : ∀ c, c ≠ x_paper_would_ → c ≠ x_paper_sums_words_ → c ≠ x_paper_sums_stack_ → c ≠ x_paper_ → M c = m c) : M = u3_m m wd ws sk fo wi := by
  funext c
  by_cases h0 : c = x_paper_would_
  · rw [h0, r0]; rfl
  by_cases h1 : c = x_paper_sums_words_
  · rw [h1, r1]; rfl
  by_cases h2 : c = x_paper_sums_stack_
  · rw [h2, r2]; rfl
  by_cases h3 : c = x_paper_
  · funext j
    rw [h3]
    by_cases z0 : j = 5
    · rw [z0, f0]; rfl
    by_cases z1 : j = 6
    · rw [z1, f1]; rfl
    rw [o0 j z0 z1, u3_m_ox_paper_ z0 z1]
  rw [h c h0 h1 h2 h3, u3_m_ne h0 h1 h2 h3]
theorem u3_m_rwd {m : cw_M} {wd ws sk : Int → Int} {fo wi : Int} {f : Int → Int} : cw_row (u3_m m wd ws sk fo wi) x_paper_would_ f = u3_m m f ws sk fo wi := by
  refine u3_m_x rfl rfl rfl rfl rfl (fun j z0 z1 => by rw [cw_row_ne (by decide), u3_m_ox_paper_ z0 z1]) (fun c h0 h1 h2 h3 => by rw [cw_row_ne h0, u3_m_ne h0 h1 h2 h3])
theorem u3_m_pwd {m : cw_M} {wd ws sk : Int → Int} {fo wi : Int} {i v : Int} : cw_put (u3_m m wd ws sk fo wi) x_paper_would_ i v = u3_m m (cw_up wd i v) ws sk fo wi := by
  rw [cw_put_row, u3_m_rwd, u3_m_wd]
theorem u3_m_rws {m : cw_M} {wd ws sk : Int → Int} {fo wi : Int} {f : Int → Int} : cw_row (u3_m m wd ws sk fo wi) x_paper_sums_words_ f = u3_m m wd f sk fo wi := by
  refine u3_m_x rfl rfl rfl rfl rfl (fun j z0 z1 => by rw [cw_row_ne (by decide), u3_m_ox_paper_ z0 z1]) (fun c h0 h1 h2 h3 => by rw [cw_row_ne h1, u3_m_ne h0 h1 h2 h3])
theorem u3_m_pws {m : cw_M} {wd ws sk : Int → Int} {fo wi : Int} {i v : Int} : cw_put (u3_m m wd ws sk fo wi) x_paper_sums_words_ i v = u3_m m wd (cw_up ws i v) sk fo wi := by
  rw [cw_put_row, u3_m_rws, u3_m_ws]
theorem u3_m_rsk {m : cw_M} {wd ws sk : Int → Int} {fo wi : Int} {f : Int → Int} : cw_row (u3_m m wd ws sk fo wi) x_paper_sums_stack_ f = u3_m m wd ws f fo wi := by
  refine u3_m_x rfl rfl rfl rfl rfl (fun j z0 z1 => by rw [cw_row_ne (by decide), u3_m_ox_paper_ z0 z1]) (fun c h0 h1 h2 h3 => by rw [cw_row_ne h2, u3_m_ne h0 h1 h2 h3])
theorem u3_m_psk {m : cw_M} {wd ws sk : Int → Int} {fo wi : Int} {i v : Int} : cw_put (u3_m m wd ws sk fo wi) x_paper_sums_stack_ i v = u3_m m wd ws (cw_up sk i v) fo wi := by
  rw [cw_put_row, u3_m_rsk, u3_m_sk]
theorem u3_m_ffo {m : cw_M} {wd ws sk : Int → Int} {fo wi : Int} {v : Int} : cw_put (u3_m m wd ws sk fo wi) x_paper_ 5 v = u3_m m wd ws sk v wi := by
  refine u3_m_x rfl rfl rfl rfl rfl (fun j z0 z1 => by rw [cw_put_off z0, u3_m_ox_paper_ z0 z1]) (fun c h0 h1 h2 h3 => by rw [cw_put_ne h3, u3_m_ne h0 h1 h2 h3])
theorem u3_m_fwi {m : cw_M} {wd ws sk : Int → Int} {fo wi : Int} {v : Int} : cw_put (u3_m m wd ws sk fo wi) x_paper_ 6 v = u3_m m wd ws sk fo v := by
  refine u3_m_x rfl rfl rfl rfl rfl (fun j z0 z1 => by rw [cw_put_off z1, u3_m_ox_paper_ z0 z1]) (fun c h0 h1 h2 h3 => by rw [cw_put_ne h3, u3_m_ne h0 h1 h2 h3])
theorem u3_m_2 {m : cw_M} {wd ws sk : Int → Int} {fo wi : Int} {wd' ws' sk' : Int → Int} {fo' wi' : Int} : u3_m (u3_m m wd ws sk fo wi) wd' ws' sk' fo' wi' = u3_m m wd' ws' sk' fo' wi' := by
  refine u3_m_x rfl rfl rfl rfl rfl (fun j z0 z1 => by rw [u3_m_ox_paper_ z0 z1, u3_m_ox_paper_ z0 z1]) (fun c h0 h1 h2 h3 => by rw [u3_m_ne h0 h1 h2 h3, u3_m_ne h0 h1 h2 h3])
theorem u3_m_self {m : cw_M} : u3_m m (m x_paper_would_) (m x_paper_sums_words_) (m x_paper_sums_stack_) (m x_paper_ 5) (m x_paper_ 6) = m := by
  refine (u3_m_x rfl rfl rfl rfl rfl (fun _ _ _ => rfl) (fun _ _ _ _ _ => rfl)).symm
theorem Pa_isHeir3 {d : Nat} {m : cw_M} {Q : Option cw_V → cw_M → Prop} (hm : la_ok m) {wd ws sk : Int → Int} {a out : Int} (ha : 0 ≤ a ∧ a ≤ 6) (h1 : g_lf (m x_paper_ 3) out (m x_will_owner_ a) = true → Q (some (vi 1)) (u3_m m wd ws sk x_forest_ x_will_)) (h0 : g_lf (m x_paper_ 3) out (m x_will_owner_ a) = false → Q (some (vi 0)) (u3_m m wd ws sk x_forest_ x_will_)) : cw_C (d + 1) k_Pa_isHeir [vr x_paper_, vi a, vi out] (u3_m m wd ws sk x_forest_ x_will_) Q := by
  refine la_go_C (u3_m_ok hm) 20 [] ?_
  refine And.intro (show 0 ≤ a ∧ a < 7 by omega) ?_
  show cw_C _ _ [vi (cw_iand (m x_paper_ 3) (cw_ixor out (-1))), vi (m x_will_owner_ a)] (u3_m m wd ws sk x_forest_ x_will_) _
  refine C_bit (u3_m_ok hm) ⟨(u3_m_ok hm), ?_⟩
  refine And.intro (fun (c21 : cw_iand (cw_ishr (cw_iand (m x_paper_ 3) (cw_ixor out (-1))) (m x_will_owner_ a)) 1 ≠ 1) => ?_) (fun (c21 : ¬ (cw_iand (cw_ishr (cw_iand (m x_paper_ 3) (cw_ixor out (-1))) (m x_will_owner_ a)) 1 ≠ 1)) => ?_)
  · refine And.intro (Or.inl rfl) ?_
    show Q (some (vi 0)) (u3_m m wd ws sk x_forest_ x_will_)
    have e : g_lf (m x_paper_ 3) out (m x_will_owner_ a) = false := by unfold g_lf; exact decide_eq_false (by omega)
    exact h0 e
  · refine And.intro (Or.inr rfl) ?_
    show Q (some (vi 1)) (u3_m m wd ws sk x_forest_ x_will_)
    have e : g_lf (m x_paper_ 3) out (m x_will_owner_ a) = true := by unfold g_lf; exact decide_eq_true (by omega)
    exact h1 e
theorem Pa_topOf3 {d : Nat} {m : cw_M} {Q : Option cw_V → cw_M → Prop} (hm : la_ok m) {wd ws sk : Int → Int} {f : Nat} {a b n k dp ov : Int} (hb : b = a + n) (ha : 0 ≤ a ∧ a + n ≤ 6) (hf : n ≤ f + 1) (hn : 1 ≤ n ∧ n ≤ 6) (hk : 0 ≤ k ∧ k < t_c n) (h8 : 0 ≤ m x_paper_ 8 ∧ m x_paper_ 8 ≤ 786) (hd : t_pl (fun q => q.2.2.1) (m x_forest_deep_) (m x_paper_ 8) (f + 1) a n k dp ov) (h : Q (some (vi (a + t_top n k))) (u3_m m wd ws sk x_forest_ x_will_)) : cw_C d k_Pa_topOf [vr x_paper_, vi a, vi b, vi dp] (u3_m m wd ws sk x_forest_ x_will_) Q := by
  have tk := (t_ok hn hk).1
  have lp : ∀ (r : Nat) (x : Int), a + n < x + r → (a ≤ x ∧ x ≤ a + t_top n k) → cw_R (d) k_Pa_topOf 3 [vr x_paper_, vi a, vi b, vi dp, vi x] [] (u3_m m wd ws sk x_forest_ x_will_) Q := by
    intro r
    induction r with
    | zero =>
      intro x hr hx
      omega
    | succ r ih =>
      intro x hr hx
      have hd1 : m x_forest_deep_ (m x_paper_ 8 + (a + t_top n k)) = dp := (hd (a + t_top n k) (by omega) (by omega)).trans t_qt
      have hxr : x < a + n := by omega
      have hd2 : x = a + t_top n k → m x_forest_deep_ (m x_paper_ 8 + x) = dp := fun q => by rw [q]; exact hd1
      refine la_go_R (u3_m_ok hm) 18 [3] ?_
      refine And.intro (fun (c21 : b ≤ x) => ?_) (fun (c21 : ¬ (b ≤ x)) => ?_)
      · show Q (some (vi (-1))) (u3_m m wd ws sk x_forest_ x_will_)
        exfalso; omega
      · refine And.intro (show -2147483648 ≤ (m x_paper_ 8) + x ∧ (m x_paper_ 8) + x < 2147483648 by omega) ?_
        refine And.intro (show 0 ≤ (m x_paper_ 8) + x ∧ (m x_paper_ 8) + x < 792 by omega) ?_
        refine And.intro (fun (c22 : m x_forest_deep_ ((m x_paper_ 8) + x) ≠ dp) => ?_) (fun (c22 : ¬ (m x_forest_deep_ ((m x_paper_ 8) + x) ≠ dp)) => ?_)
        · refine And.intro (show -2147483648 ≤ x + 1 ∧ x + 1 < 2147483648 by omega) ?_
          show cw_R _ _ 3 [vr x_paper_, vi a, vi b, vi dp, vi (x + 1)] [] (u3_m m wd ws sk x_forest_ x_will_) _
          by_cases q : x = a + t_top n k
          · exfalso; have := hd2 q; omega
          · exact ih (x + 1) (by omega) (by omega)
        · show Q (some (vi x)) (u3_m m wd ws sk x_forest_ x_will_)
          rw [show x = a + t_top n k by
            by_cases q : x < a + t_top n k
            · exact absurd (hd x hx.1 (by omega)) (fun z => t_qn hf hn hk hx.1 q (z.symm.trans (by omega)))
            · omega]
          exact h
  refine la_go_C (u3_m_ok hm) 5 [3] ?_
  show cw_R _ _ 3 [vr x_paper_, vi a, vi b, vi dp, vi a] [] (u3_m m wd ws sk x_forest_ x_will_) _
  exact lp (n.toNat + 1) a (by omega) (by omega)
theorem Pa_askOfJoin3 {d : Nat} {m : cw_M} {Q : Option cw_V → cw_M → Prop} (hm : la_ok m) {wd ws sk : Int → Int} {j l r wt : Int} (h : Q none (u3_m m wd (c_J ws j l r wt) sk x_forest_ x_will_)) : cw_C d k_Pa_askOfJoin [vr x_paper_, vi j, vi l, vi r, vi wt] (u3_m m wd ws sk x_forest_ x_will_) Q := by
  refine la_go_C (u3_m_ok hm) 40 [] ?_
  refine And.intro (show 0 ≤ 0 ∧ 0 < 17 by omega) ?_
  have hm21 : la_ok (cw_put (u3_m m wd ws sk x_forest_ x_will_) x_paper_sums_words_ 0 j) := la_put (u3_m_ok hm) (by decide) (Or.inr (by decide))
  refine And.intro (show 0 ≤ 1 ∧ 1 < 17 by omega) ?_
  have hm22 : la_ok (cw_put (cw_put (u3_m m wd ws sk x_forest_ x_will_) x_paper_sums_words_ 0 j) x_paper_sums_words_ 1 l) := la_put hm21 (by decide) (Or.inr (by decide))
  refine And.intro (show 0 ≤ 2 ∧ 2 < 17 by omega) ?_
  have hm23 : la_ok (cw_put (cw_put (cw_put (u3_m m wd ws sk x_forest_ x_will_) x_paper_sums_words_ 0 j) x_paper_sums_words_ 1 l) x_paper_sums_words_ 2 r) := la_put hm22 (by decide) (Or.inr (by decide))
  refine And.intro (show 0 ≤ 3 ∧ 3 < 17 by omega) ?_
  have hm24 : la_ok (cw_put (cw_put (cw_put (cw_put (u3_m m wd ws sk x_forest_ x_will_) x_paper_sums_words_ 0 j) x_paper_sums_words_ 1 l) x_paper_sums_words_ 2 r) x_paper_sums_words_ 3 wt) := la_put hm23 (by decide) (Or.inr (by decide))
  refine And.intro (show 0 ≤ 4 ∧ 4 < 17 by omega) ?_
  have hm25 : la_ok (cw_put (cw_put (cw_put (cw_put (cw_put (u3_m m wd ws sk x_forest_ x_will_) x_paper_sums_words_ 0 j) x_paper_sums_words_ 1 l) x_paper_sums_words_ 2 r) x_paper_sums_words_ 3 wt) x_paper_sums_words_ 4 (-1)) := la_put hm24 (by decide) (Or.inr (by decide))
  refine And.intro (show 0 ≤ 5 ∧ 5 < 17 by omega) ?_
  have hm26 : la_ok (cw_put (cw_put (cw_put (cw_put (cw_put (cw_put (u3_m m wd ws sk x_forest_ x_will_) x_paper_sums_words_ 0 j) x_paper_sums_words_ 1 l) x_paper_sums_words_ 2 r) x_paper_sums_words_ 3 wt) x_paper_sums_words_ 4 (-1)) x_paper_sums_words_ 5 (-1)) := la_put hm25 (by decide) (Or.inr (by decide))
  show Q none (cw_put (cw_put (cw_put (cw_put (cw_put (cw_put (u3_m m wd ws sk x_forest_ x_will_) x_paper_sums_words_ 0 j) x_paper_sums_words_ 1 l) x_paper_sums_words_ 2 r) x_paper_sums_words_ 3 wt) x_paper_sums_words_ 4 (-1)) x_paper_sums_words_ 5 (-1))
  rw [u3_m_pws, u3_m_pws, u3_m_pws, u3_m_pws, u3_m_pws, u3_m_pws]
  have hm27 : la_ok (u3_m m wd (cw_up (cw_up (cw_up (cw_up (cw_up (cw_up ws 0 j) 1 l) 2 r) 3 wt) 4 (-1)) 5 (-1)) sk x_forest_ x_will_) := u3_m_ok hm
  rw [c_Ju]
  exact h
theorem Pa_askOfPerson3 {d : Nat} {m : cw_M} {Q : Option cw_V → cw_M → Prop} (hm : la_ok m) (hn : 0 ≤ m x_will_ 0 ∧ m x_will_ 0 ≤ 7) {wd ws sk : Int → Int} {p wt : Int} (h : Q none (u3_m m wd (c_P ws p wt (f_cnt (m x_will_owner_) p (m x_will_ 0).toNat)) sk x_forest_ x_will_)) : cw_C (d + 1) k_Pa_askOfPerson [vr x_paper_, vi p, vi wt] (u3_m m wd ws sk x_forest_ x_will_) Q := by
  refine la_go_C (u3_m_ok hm) 43 [] ?_
  refine And.intro (show 0 ≤ 0 ∧ 0 < 17 by omega) ?_
  have hm21 : la_ok (cw_put (u3_m m wd ws sk x_forest_ x_will_) x_paper_sums_words_ 0 (-1)) := la_put (u3_m_ok hm) (by decide) (Or.inr (by decide))
  refine And.intro (show 0 ≤ 1 ∧ 1 < 17 by omega) ?_
  have hm22 : la_ok (cw_put (cw_put (u3_m m wd ws sk x_forest_ x_will_) x_paper_sums_words_ 0 (-1)) x_paper_sums_words_ 1 (-1)) := la_put hm21 (by decide) (Or.inr (by decide))
  refine And.intro (show 0 ≤ 2 ∧ 2 < 17 by omega) ?_
  have hm23 : la_ok (cw_put (cw_put (cw_put (u3_m m wd ws sk x_forest_ x_will_) x_paper_sums_words_ 0 (-1)) x_paper_sums_words_ 1 (-1)) x_paper_sums_words_ 2 (-1)) := la_put hm22 (by decide) (Or.inr (by decide))
  refine And.intro (show 0 ≤ 3 ∧ 3 < 17 by omega) ?_
  have hm24 : la_ok (cw_put (cw_put (cw_put (cw_put (u3_m m wd ws sk x_forest_ x_will_) x_paper_sums_words_ 0 (-1)) x_paper_sums_words_ 1 (-1)) x_paper_sums_words_ 2 (-1)) x_paper_sums_words_ 3 wt) := la_put hm23 (by decide) (Or.inr (by decide))
  refine And.intro (show 0 ≤ 4 ∧ 4 < 17 by omega) ?_
  have hm25 : la_ok (cw_put (cw_put (cw_put (cw_put (cw_put (u3_m m wd ws sk x_forest_ x_will_) x_paper_sums_words_ 0 (-1)) x_paper_sums_words_ 1 (-1)) x_paper_sums_words_ 2 (-1)) x_paper_sums_words_ 3 wt) x_paper_sums_words_ 4 p) := la_put hm24 (by decide) (Or.inr (by decide))
  show cw_C _ _ [vr x_will_, vi p] (cw_put (cw_put (cw_put (cw_put (cw_put (u3_m m wd ws sk x_forest_ x_will_) x_paper_sums_words_ 0 (-1)) x_paper_sums_words_ 1 (-1)) x_paper_sums_words_ 2 (-1)) x_paper_sums_words_ 3 wt) x_paper_sums_words_ 4 p) _
  rw [u3_m_pws, u3_m_pws, u3_m_pws, u3_m_pws, u3_m_pws]
  have hm26 : la_ok (u3_m m wd (cw_up (cw_up (cw_up (cw_up (cw_up ws 0 (-1)) 1 (-1)) 2 (-1)) 3 wt) 4 p) sk x_forest_ x_will_) := u3_m_ok hm
  refine Wi_timesOf hm26 hn ⟨hm26, ?_⟩
  refine And.intro (show 0 ≤ 5 ∧ 5 < 17 by omega) ?_
  have hm27 : la_ok (cw_put (u3_m m wd (cw_up (cw_up (cw_up (cw_up (cw_up ws 0 (-1)) 1 (-1)) 2 (-1)) 3 wt) 4 p) sk x_forest_ x_will_) x_paper_sums_words_ 5 (f_cnt (m x_will_owner_) p (m x_will_ 0).toNat)) := la_put hm26 (by decide) (Or.inr (by decide))
  show Q none (cw_put (u3_m m wd (cw_up (cw_up (cw_up (cw_up (cw_up ws 0 (-1)) 1 (-1)) 2 (-1)) 3 wt) 4 p) sk x_forest_ x_will_) x_paper_sums_words_ 5 (f_cnt (m x_will_owner_) p (m x_will_ 0).toNat))
  rw [u3_m_pws]
  have hm28 : la_ok (u3_m m wd (cw_up (cw_up (cw_up (cw_up (cw_up (cw_up ws 0 (-1)) 1 (-1)) 2 (-1)) 3 wt) 4 p) 5 (f_cnt (m x_will_owner_) p (m x_will_ 0).toNat)) sk x_forest_ x_will_) := u3_m_ok hm
  rw [c_Pu]
  exact h
theorem u3_v {m : cw_M} {wd ws sk : Int → Int} {sk' : Int → Int} : v3_m (u3_m m wd ws sk x_forest_ x_will_) sk' = u3_m m wd ws sk' x_forest_ x_will_ := by
  refine u3_m_x rfl rfl rfl rfl rfl (fun j p q => ?_) (fun c a b e p => ?_)
  · show (if j = 5 then _ else _) = _
    rw [if_neg p, if_neg q]
  · rw [v3_m_ne e, u3_m_ne a b e p]
theorem Pa_tell3 {d : Nat} {m : cw_M} {Q : Option cw_V → cw_M → Prop} (hm : la_ok m) {wd ws sk : Int → Int} {h wo : Int} {Ks : List p_K} (hT : T_o m (m x_paper_ 7) Ks) (hW : ∀ i, 0 ≤ i → i < 17 → -1000000 ≤ ws i ∧ ws i ≤ 1000000) (hQ : ∀ sk', Q (some (vi (l_tl Ks h wo ws))) (u3_m m wd ws sk' x_forest_ x_will_)) : cw_C (d + 2) k_Pa_lawTells [vr x_paper_, vi h, vi wo] (u3_m m wd ws sk x_forest_ x_will_) Q := by
  have e : v3_m (u3_m m wd ws sk x_forest_ x_will_) sk = u3_m m wd ws sk x_forest_ x_will_ := u3_v
  rw [← e]
  refine Pa_tells3 (u3_m_ok hm) (Ks := Ks) ?_ hW (fun sk' => ?_)
  · refine T_oe hT (fun c q => ?_)
    exact u3_m_ne (fun e => by rw [e] at q; exact absurd q (by unfold h_c; decide)) (fun e => by rw [e] at q; exact absurd q (by unfold h_c; decide)) (fun e => by rw [e] at q; exact absurd q (by unfold h_c; decide)) (fun e => by rw [e] at q; exact absurd q (by unfold h_c; decide))
  · rw [u3_v]; exact hQ sk'
