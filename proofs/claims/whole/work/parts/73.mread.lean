/-! The reference reads a text (wip/whole/tools/m73.py). -/
theorem M_readOneT {d : Nat} {m : cw_M} {Q : Option cw_V → cw_M → Prop} {c v pl : Int → Int} {n : Int} (hm0 : la_ok m) (hY : Y_h m c v pl true n) {i l : Int} (h0 : 0 ≤ i) (h1 : i ≤ n) (hl0 : 0 ≤ l) (hl1 : l ≤ 50) (hok : ∀ i1 l1 K, p_one c v true i l = .ok (i1, l1, K) → Q none (y_m m i1 l1 (-1))) (her : ∀ er tk lv bd, p_one c v true i l = .error er → bd = pl er → 0 ≤ bd → Q none (y_m m tk lv bd)) : cw_C (d + 46) k_M_readOne [vr m_] (y_m m i l (-1)) Q := by
  have hm : la_ok (y_m m i l (-1)) := y_m_ok hm0
  have y10 : m m_ 10 = 1 := hY.2.2.2.1
  refine la_go_C hm 10 [] ?_
  refine br_f (show ¬ (m m_ 10 = 0) by omega) ?_
  show cw_C _ _ [vr m_] (y_m m i l (-1)) _
  refine M_readOrder1 hm0 hY h0 h1 hl0 hl1 (fun (i1 l1 : Int) (K1 : p_K) (e1 : p_one c v true i l = .ok (i1, l1, K1)) => ⟨(y_m_ok hm0), ?_⟩) (fun (r1 t1 u1 b1 : Int) (e1 : p_one c v true i l = .error r1) (eb1 : b1 = pl r1) (nb1 : 0 ≤ b1) => ⟨(y_m_ok hm0), ?_⟩)
  · show Q none (y_m m i1 l1 (-1))
    exact hok _ _ _ e1
  · show Q none (y_m m t1 u1 b1)
    exact her _ _ _ _ e1 eb1 nb1
theorem M_readOneF {d : Nat} {m : cw_M} {Q : Option cw_V → cw_M → Prop} {c v pl : Int → Int} {n : Int} (hm0 : la_ok m) (hY : Y_h m c v pl false n) {i l : Int} (h0 : 0 ≤ i) (h1 : i ≤ n) (hl0 : 0 ≤ l) (hl1 : l ≤ 50) (hok : ∀ i1 l1 K, p_one c v false i l = .ok (i1, l1, K) → Q none (y_m m i1 l1 (-1))) (her : ∀ er tk lv bd, p_one c v false i l = .error er → bd = pl er → 0 ≤ bd → Q none (y_m m tk lv bd)) : cw_C (d + 46) k_M_readOne [vr m_] (y_m m i l (-1)) Q := by
  have hm : la_ok (y_m m i l (-1)) := y_m_ok hm0
  have y10 : m m_ 10 = 0 := hY.2.2.2.1
  refine la_go_C hm 9 [] ?_
  refine br_t (show m m_ 10 = 0 by omega) ?_
  show cw_C _ _ [vr m_] (y_m m i l (-1)) _
  refine M_readClause1 hm0 hY h0 h1 hl0 hl1 (fun (i1 l1 : Int) (K1 : p_K) (e1 : p_one c v false i l = .ok (i1, l1, K1)) => ⟨(y_m_ok hm0), ?_⟩) (fun (r1 t1 u1 b1 : Int) (e1 : p_one c v false i l = .error r1) (eb1 : b1 = pl r1) (nb1 : 0 ≤ b1) => ⟨(y_m_ok hm0), ?_⟩)
  · show Q none (y_m m i1 l1 (-1))
    exact hok _ _ _ e1
  · show Q none (y_m m t1 u1 b1)
    exact her _ _ _ _ e1 eb1 nb1
theorem M_readOne1 {d : Nat} {m : cw_M} {Q : Option cw_V → cw_M → Prop} {c v pl : Int → Int} {o : Bool} {n : Int} (hm0 : la_ok m) (hY : Y_h m c v pl o n) {i l : Int} (h0 : 0 ≤ i) (h1 : i ≤ n) (hl0 : 0 ≤ l) (hl1 : l ≤ 50) (hok : ∀ i1 l1 K, p_one c v o i l = .ok (i1, l1, K) → Q none (y_m m i1 l1 (-1))) (her : ∀ er tk lv bd, p_one c v o i l = .error er → bd = pl er → 0 ≤ bd → Q none (y_m m tk lv bd)) : cw_C (d + 46) k_M_readOne [vr m_] (y_m m i l (-1)) Q := by
  cases o with
  | true => exact M_readOneT hm0 hY h0 h1 hl0 hl1 hok her
  | false => exact M_readOneF hm0 hY h0 h1 hl0 hl1 hok her
def p_NK (n i l : Int) (r : Except Int (Int × Int × p_K)) : Prop := match r with
  | .error e => i ≤ e ∧ e ≤ n
  | .ok (i1, l1, _) => i < i1 ∧ i1 ≤ n ∧ l ≤ l1 ∧ l1 ≤ 50
section PKN
variable {c v : Int → Int} {o : Bool} {n : Int}
theorem p_iftN (hz : c n = 0) (hn : n ≤ 400) {h k i l i0 l0 : Int} {A B : p_D} (h0 : 0 ≤ i0) (hi : i0 < i) (h1 : i ≤ n) (hl : 0 ≤ l0) (hll : l0 ≤ l) (hl2 : l ≤ 50) : p_NK n i0 l0 (p_ift c v o h A B k i l) := by
  unfold p_ift
  by_cases q : c i = 4
  · rw [if_pos q]
    have : i ≠ n := fun e => by rw [e, hz] at q; omega
    have N := (p_tN (c := c) (v := v) (o := o) hz 2100 (dp := 0) (i := i + 1) (l := l) (acc := p_z) (ng := false) (by omega) (by omega) (by omega) (by omega)).2.2.2.1 (by omega)
    revert N
    cases p_t c v o 2100 3 0 (i + 1) l p_z false with
    | error e => intro N; have N : i + 1 ≤ e ∧ e ≤ n := N; show i0 ≤ e ∧ e ≤ n; omega
    | ok q =>
      obtain ⟨i1, l1, T⟩ := q
      intro N
      have N : i + 1 ≤ i1 ∧ i1 ≤ n ∧ l ≤ l1 ∧ l1 ≤ 50 ∧ (true = true → i + 1 < i1 ∧ l < l1) := N
      show i0 < i1 ∧ i1 ≤ n ∧ l0 ≤ l1 ∧ l1 ≤ 50
      omega
  · rw [if_neg q]
    show i0 < i ∧ i ≤ n ∧ l0 ≤ l ∧ l ≤ 50
    omega
theorem p_timN (hz : c n = 0) (hn : n ≤ 400) {h i l i0 l0 : Int} {A B : p_D} (h0 : 0 ≤ i0) (hi : i0 < i) (h1 : i ≤ n) (hl : 0 ≤ l0) (hll : l0 ≤ l) (hl2 : l ≤ 50) : p_NK n i0 l0 (p_tim c v o h A B i l) := by
  unfold p_tim
  by_cases q : c i = 13
  · rw [if_pos q]
    have h2 : i ≠ n := fun e => by rw [e, hz] at q; omega
    by_cases q2 : c (i + 1) = 50 ∧ 1 ≤ v (i + 1) ∧ v (i + 1) ≤ 20
    · rw [if_pos q2]
      have : i + 1 ≠ n := fun e => by rw [e, hz] at q2; omega
      exact p_iftN hz hn h0 (by omega) (by omega) hl hll hl2
    · rw [if_neg q2]; show i0 ≤ i + 1 ∧ i + 1 ≤ n; omega
  · rw [if_neg q]
    exact p_iftN hz hn h0 hi h1 hl hll hl2
theorem p_sumN (hz : c n = 0) (hn : n ≤ 400) {i l i0 l0 : Int} {k : Int → Int → p_D → Except Int (Int × Int × p_K)} (h0 : 0 ≤ i0) (hi : i0 < i) (h1 : i ≤ n) (hl : 0 ≤ l0) (hll : l0 ≤ l) (hl2 : l ≤ 50) (hk : ∀ i1 l1 D, i < i1 → i1 ≤ n → l ≤ l1 → l1 ≤ 50 → p_NK n i0 l0 (k i1 l1 D)) : p_NK n i0 l0 (match p_s c v o 2100 3 0 i l p_z with
    | .error e => .error e
    | .ok (i1, l1, A) => k i1 l1 A) := by
  have N := (p_sN (c := c) (v := v) (o := o) hz 2100 (dp := 0) (i := i) (l := l) (acc := p_z) (by omega) (by omega) (by omega) (by omega)).2.2.2.1 (by omega)
  revert N
  cases p_s c v o 2100 3 0 i l p_z with
  | error e => intro N; have N : i ≤ e ∧ e ≤ n := N; show i0 ≤ e ∧ e ≤ n; omega
  | ok q =>
    obtain ⟨i1, l1, T⟩ := q
    intro N
    have N : i ≤ i1 ∧ i1 ≤ n ∧ l ≤ l1 ∧ l1 ≤ 50 ∧ (true = true → i < i1 ∧ l < l1) := N
    have N2 := N.2.2.2.2 rfl
    exact hk i1 l1 T (by omega) (by omega) (by omega) (by omega)
theorem p_twoN (hz : c n = 0) (hn : n ≤ 400) {h w i l : Int} (hw : w ≠ 0) (h0 : 0 ≤ i) (h1 : i < n) (hl : 0 ≤ l) (hl2 : l ≤ 50) : p_NK n i l (p_two c v o h w i l) := by
  unfold p_two
  refine p_sumN hz hn h0 (by omega) (by omega) hl (Int.le_refl _) hl2 (k := fun i1 l1 A => if c i1 = w then (match p_s c v o 2100 3 0 (i1 + 1) l1 p_z with
    | .error e => .error e
    | .ok (i2, l2, B) => p_tim c v o h A B i2 l2) else .error i1) (fun i1 l1 D a b e g => ?_)
  show p_NK n i l (if c i1 = w then _ else _)
  by_cases q : c i1 = w
  · rw [if_pos q]
    have : i1 ≠ n := fun e => by rw [e, hz] at q; omega
    exact p_sumN hz hn h0 (by omega) (by omega) hl (by omega) (by omega) (k := fun i2 l2 B => p_tim c v o h D B i2 l2) (fun i2 l2 B a2 b2 e2 g2 => p_timN hz hn h0 (by omega) (by omega) hl (by omega) (by omega))
  · rw [if_neg q]; show i ≤ i1 ∧ i1 ≤ n; omega
theorem p_oneN (hz : c n = 0) (hn : n ≤ 400) {i l : Int} (h0 : 0 ≤ i) (h1 : i ≤ n) (hl : 0 ≤ l) (hl2 : l ≤ 50) : p_NK n i l (p_one c v o i l) := by
  have hlt : c i ≠ 0 → i < n := fun q => by
    by_cases e : i = n
    · rw [e] at q; exact absurd hz q
    · omega
  have herr : p_NK n i l (.error i) := by show i ≤ i ∧ i ≤ n; omega
  cases o with
  | true =>
    rw [p_oneO]
    by_cases q1 : c i = 20
    · rw [if_pos q1]; exact p_twoN hz hn (by decide) h0 (hlt (by omega)) hl hl2
    · rw [if_neg q1]
      by_cases q2 : c i = 23
      · rw [if_pos q2]; exact p_twoN hz hn (by decide) h0 (hlt (by omega)) hl hl2
      · rw [if_neg q2]
        by_cases q3 : c i = 25
        · rw [if_pos q3]
          have := hlt (by omega)
          exact p_sumN hz hn h0 (by omega) (by omega) hl (Int.le_refl _) hl2 (k := fun i1 l1 A => p_tim c v true 2 A p_z i1 l1) (fun i1 l1 D a b e g => p_timN hz hn h0 (by omega) (by omega) hl (by omega) (by omega))
        · rw [if_neg q3]
          by_cases q4 : c i = 26
          · rw [if_pos q4]
            have := hlt (by omega)
            exact p_timN hz hn h0 (by omega) (by omega) hl (Int.le_refl _) hl2
          · rw [if_neg q4]; exact herr
  | false =>
    rw [p_oneL]
    by_cases q1 : c i = 1 ∨ c i = 2
    · rw [if_pos q1]
      have := hlt (by omega)
      exact p_sumN hz hn h0 (by omega) (by omega) hl (Int.le_refl _) hl2 (k := fun i1 l1 A => p_ift c v false (c i - 1) A p_z 1 i1 l1) (fun i1 l1 D a b e g => p_iftN hz hn h0 (by omega) (by omega) hl (by omega) (by omega))
    · rw [if_neg q1]
      by_cases q2 : c i = 3
      · rw [if_pos q2]
        have := hlt (by omega)
        exact p_iftN hz hn h0 (by omega) (by omega) hl (Int.le_refl _) hl2
      · rw [if_neg q2]; exact herr
theorem p_NKok {i l i1 l1 : Int} {K : p_K} {r : Except Int (Int × Int × p_K)} (h : p_NK n i l r) (e : r = .ok (i1, l1, K)) : i < i1 ∧ i1 ≤ n ∧ l ≤ l1 ∧ l1 ≤ 50 := by
  rw [e] at h; exact h
end PKN
theorem y_m_puts {M : cw_M} {a b e : Int} : cw_put (cw_put (cw_put M m_ 19 a) m_ 20 b) m_ 21 e = y_m M a b e := by
  rw [show cw_put M m_ 19 a = y_m M a (M m_ 20) (M m_ 21) by
    have h := y_m_ftk (m := M) (tk := M m_ 19) (lv := M m_ 20) (bd := M m_ 21) (v := a)
    rw [y_m_self] at h
    exact h, y_m_flv, y_m_fbd]
theorem y_m_c14 {m : cw_M} {tk lv bd w : Int} : cw_put (y_m m tk lv bd) m_ 14 w = y_m (cw_put m m_ 14 w) tk lv bd := by
  refine y_m_x rfl rfl rfl (fun j z0 z1 z2 => ?_) (fun c h0 => by rw [cw_put_ne h0, y_m_ne h0, cw_put_ne h0])
  by_cases z : j = 14
  · rw [z, cw_put_eq, cw_put_eq]
  · rw [cw_put_off z, y_m_om_ z0 z1 z2, cw_put_off z]
theorem M_reads95a {d : Nat} {m : cw_M} {Q : Option cw_V → cw_M → Prop} {tk lv k : Int} (hm0 : la_ok m) (h : Q (some (vi 1)) (y_m (cw_put m m_ 14 (-1)) tk lv (-1))) : cw_R (d + 1) k_M_reads 95 [vr m_, vi k] [] (y_m m tk lv (-1)) Q := by
  have hm : la_ok (y_m m tk lv (-1)) := y_m_ok hm0
  refine la_go_R hm 12 [] ?_
  show cw_C _ _ [vr m_] (cw_put (y_m m tk lv (-1)) m_ 14 (-1)) _
  rw [y_m_c14]
  have hm1 : la_ok (cw_put m m_ 14 (-1)) := la_put hm0 (by decide) (Or.inl rfl)
  refine M_fine1 hm1 ⟨y_m_ok hm1, ?_⟩
  exact ⟨Or.inr rfl, h⟩
theorem M_reads95b {d : Nat} {m : cw_M} {Q : Option cw_V → cw_M → Prop} {tk lv bd k : Int} (hm0 : la_ok m) (hbd : 0 ≤ bd) (h : Q (some (vi 0)) (y_m (cw_put m m_ 14 bd) tk lv bd)) : cw_R (d + 1) k_M_reads 95 [vr m_, vi k] [] (y_m m tk lv bd) Q := by
  have hm : la_ok (y_m m tk lv bd) := y_m_ok hm0
  refine la_go_R hm 12 [] ?_
  show cw_C _ _ [vr m_] (cw_put (y_m m tk lv bd) m_ 14 bd) _
  rw [y_m_c14]
  have hm1 : la_ok (cw_put m m_ 14 bd) := la_put hm0 (by decide) (Or.inl rfl)
  refine M_fine0 hm1 hbd ⟨y_m_ok hm1, ?_⟩
  exact ⟨Or.inl rfl, h⟩
theorem M_reads34b {d : Nat} {m : cw_M} {Q : Option cw_V → cw_M → Prop} {tk lv bd k : Int} (hm0 : la_ok m) (hbd : 0 ≤ bd) (h : Q (some (vi 0)) (y_m (cw_put m m_ 14 bd) tk lv bd)) : cw_R (d + 2) k_M_reads 34 [vr m_, vi k] [] (y_m m tk lv bd) Q := by
  have hm : la_ok (y_m m tk lv bd) := y_m_ok hm0
  refine la_go_R hm 11 [95] ?_
  show cw_C _ _ [vi 59] (y_m m tk lv bd) _
  refine M_sign (by decide) rfl ⟨hm, ?_⟩
  show cw_C _ _ [vr m_, vi 159] (y_m m tk lv bd) _
  refine M_takes00 hm0 (by omega) ⟨hm, ?_⟩
  refine br_t (show (0 : Int) = 0 by decide) ?_
  show cw_C _ _ [vr m_] (y_m m tk lv bd) _
  refine M_fine0 hm0 (by omega) ⟨hm, ?_⟩
  refine br_t (show (0 : Int) = 0 by decide) ?_
  show cw_R _ _ 95 [vr m_, vi k] [] (y_m m tk lv bd) _
  exact M_reads95b hm0 hbd h
theorem M_reads34 {d : Nat} {m : cw_M} {Q : Option cw_V → cw_M → Prop} {c v pl : Int → Int} {o : Bool} {n : Int} (hm0 : la_ok m) (hY : Y_h m c v pl o n) (htk : m m_ 18 = n) : ∀ (f : Nat) (k i l : Int) (acc : List p_K), 1 ≤ k → k ≤ 12 → k + f = 14 → 0 ≤ i → i ≤ n → 0 ≤ l → l ≤ 50 → (∀ Ks tk lv, p_rest c v o n f k i l acc = .ok Ks → Q (some (vi 1)) (y_m (cw_put m m_ 14 (-1)) tk lv (-1))) → (∀ er tk lv bd, p_rest c v o n f k i l acc = .error er → bd = pl er → 0 ≤ bd → Q (some (vi 0)) (y_m (cw_put m m_ 14 bd) tk lv bd)) → cw_R (d + 47) k_M_reads 34 [vr m_, vi k] [] (y_m m i l (-1)) Q
  | 0, k, i, l, acc, a1, a2, a3, _, _, _, _, _, _ => by omega
  | f + 1, k, i, l, acc, hk1, hk2, hkf, h0, h1, hl0, hl1, hok, her => by
    have ih := M_reads34 (d := d) (Q := Q) hm0 hY htk f
    have hm : la_ok (y_m m i l (-1)) := y_m_ok hm0
    have yn := hY.1
    have hlt : c i ≠ 0 → i < n := fun q => by
      by_cases e : i = n
      · rw [e, hY.2.1] at q; exact absurd rfl q
      · omega
    have hlt2 : c i = 159 → i < n := fun q => hlt (by omega)
    refine la_go_R hm 18 [34, 95] ?_
    show cw_C _ _ [vi 59] (y_m m i l (-1)) _
    refine M_sign (by decide) rfl ⟨hm, ?_⟩
    show cw_C _ _ [vr m_, vi 159] (y_m m i l (-1)) _
    refine M_takes01 hm0 hY (by omega) (by omega) (fun (a1 : c i = 159) => ⟨(y_m_ok hm0), ?_⟩) (fun (a1 : c i ≠ 159) => ⟨hm, ?_⟩)
    · refine br_f (show ¬ ((1 : Int) = 0) by decide) ?_
      refine And.intro (fun (c2 : k ≠ 12) => ?_) (fun (c2 : ¬ (k ≠ 12)) => ?_)
      · show cw_C _ _ [vr m_] (y_m m (i + 1) l (-1)) _
        refine M_fine1 hm0 ⟨(y_m_ok hm0), ?_⟩
        refine br_f (show ¬ ((1 : Int) = 0) by decide) ?_
        show cw_C _ _ [vr m_] (y_m m (i + 1) l (-1)) _
        refine M_readOne1 hm0 hY (by omega) (by omega) (by omega) (by omega) (fun (i3 l3 : Int) (K3 : p_K) (e3 : p_one c v o (i + 1) l = .ok (i3, l3, K3)) => ⟨(y_m_ok hm0), ?_⟩) (fun (r3 t3 u3 b3 : Int) (e3 : p_one c v o (i + 1) l = .error r3) (eb3 : b3 = pl r3) (nb3 : 0 ≤ b3) => ⟨(y_m_ok hm0), ?_⟩)
        · have N3 := p_NKok (p_oneN hY.2.1 hY.1.2 (by omega) (by omega) (by omega) (by omega)) e3
          refine And.intro (show -2147483648 ≤ k + 1 ∧ k + 1 < 2147483648 by omega) ?_
          show cw_R _ _ 34 [vr m_, vi (k + 1)] [] (y_m m i3 l3 (-1)) _
          refine ih (k + 1) i3 l3 (acc ++ [K3]) (by omega) (by omega) (by omega) (by omega) (by omega) (by omega) (by omega) (fun Ks tk lv ez => hok Ks tk lv ?_) (fun er tk lv bd ez => her er tk lv bd ?_)
          · show (if _ then _ else _) = _
            rw [if_pos (by omega), if_neg (by omega), e3]; exact ez
          · show (if _ then _ else _) = _
            rw [if_pos (by omega), if_neg (by omega), e3]; exact ez
        · refine And.intro (show -2147483648 ≤ k + 1 ∧ k + 1 < 2147483648 by omega) ?_
          show cw_R _ _ 34 [vr m_, vi (k + 1)] [] (y_m m t3 u3 b3) _
          exact M_reads34b hm0 nb3 (her _ _ _ _ (by show (if _ then _ else _) = _; rw [if_pos (by omega), if_neg (by omega), e3]) eb3 nb3)
      · show cw_C _ _ [vr m_] (y_m m (i + 1) l (-1)) _
        refine M_faults1 hm0 hY (by omega) (by omega) (fun (b4 : Int) (eb4 : b4 = pl (i + 1)) (nb4 : 0 ≤ b4) => ⟨(y_m_ok hm0), ?_⟩)
        show cw_C _ _ [vr m_] (y_m m (i + 1) l b4) _
        refine M_fine0 hm0 (by omega) ⟨(y_m_ok hm0), ?_⟩
        refine br_t (show (0 : Int) = 0 by decide) ?_
        refine And.intro (show -2147483648 ≤ k + 1 ∧ k + 1 < 2147483648 by omega) ?_
        show cw_R _ _ 34 [vr m_, vi (k + 1)] [] (y_m m (i + 1) l b4) _
        exact M_reads34b hm0 nb4 (her _ _ _ _ (by show (if _ then _ else _) = _; rw [if_pos (by omega), if_pos (by omega)]) eb4 nb4)
    · refine br_t (show (0 : Int) = 0 by decide) ?_
      show cw_C _ _ [vr m_] (y_m m i l (-1)) _
      refine M_fine1 hm0 ⟨hm, ?_⟩
      refine br_f (show ¬ ((1 : Int) = 0) by decide) ?_
      refine And.intro (fun (c5 : m m_ 18 ≤ i) => ?_) (fun (c5 : ¬ (m m_ 18 ≤ i)) => ?_)
      · show cw_R _ _ 95 [vr m_, vi k] [] (y_m m i l (-1)) _
        exact M_reads95a hm0 (hok _ _ _ (by show (if _ then _ else _) = _; rw [if_neg (by omega), if_neg (by omega)]))
      · show cw_C _ _ [vr m_] (y_m m i l (-1)) _
        refine M_faults1 hm0 hY (by omega) (by omega) (fun (b6 : Int) (eb6 : b6 = pl i) (nb6 : 0 ≤ b6) => ⟨(y_m_ok hm0), ?_⟩)
        show cw_R _ _ 95 [vr m_, vi k] [] (y_m m i l b6) _
        exact M_reads95b hm0 nb6 (her _ _ _ _ (by show (if _ then _ else _) = _; rw [if_neg (by omega), if_pos (by omega)]) eb6 nb6)
