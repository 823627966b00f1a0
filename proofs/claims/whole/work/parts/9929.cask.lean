/-! Whom to ask, by the class (wip/whole/tools/m129.py). -/
theorem c_nc {P P' : Int → Prop} : ∀ n : Nat, (∀ j : Int, 0 ≤ j → j < n → (P j ↔ P' j)) → c_n P n = c_n P' n
  | 0, _ => rfl
  | n + 1, h => by
    show c_n P n + @ite _ (P n) (Classical.propDecidable _) 1 0 = c_n P' n + @ite _ (P' n) (Classical.propDecidable _) 1 0
    rw [c_nc n (fun j a b => h j a (by omega))]
    have z := h n (by omega) (by omega)
    by_cases q : P n
    · rw [@if_pos _ (Classical.propDecidable _) q, @if_pos _ (Classical.propDecidable _) (z.mp q)]
    · rw [@if_neg _ (Classical.propDecidable _) q, @if_neg _ (Classical.propDecidable _) (fun w => q (z.mpr w))]
theorem c_nm {P P' : Int → Prop} : ∀ n : Nat, (∀ j : Int, 0 ≤ j → j < n → P j → P' j) → c_n P n ≤ c_n P' n
  | 0, _ => Int.le_refl 0
  | n + 1, h => by
    show c_n P n + @ite _ (P n) (Classical.propDecidable _) 1 0 ≤ c_n P' n + @ite _ (P' n) (Classical.propDecidable _) 1 0
    have i := c_nm n (fun j a b => h j a (by omega))
    have z := h n (by omega) (by omega)
    by_cases q : P n
    · rw [@if_pos _ (Classical.propDecidable _) q, @if_pos _ (Classical.propDecidable _) (z q)]; omega
    · rw [@if_neg _ (Classical.propDecidable _) q]
      by_cases w : P' n
      · rw [@if_pos _ (Classical.propDecidable _) w]; omega
      · rw [@if_neg _ (Classical.propDecidable _) w]; omega
/-- counted over the list of those that are so -/
theorem c_nl {P : Int → Prop} {g : Int → Int} {x : Int} : ∀ n : Nat, c_n (fun r => P r ∧ g r = x) n = c_n (fun j => g (t_g (t_rl P n) j) = x) (t_rl P n).length
  | 0 => rfl
  | n + 1 => by
    show c_n (fun r => P r ∧ g r = x) n + @ite _ (P n ∧ g n = x) (Classical.propDecidable _) 1 0 = _
    rw [c_nl n]
    by_cases q : P n
    · rw [t_rl1 q, List.length_append]
      show _ = c_n (fun j => g (t_g (t_rl P n ++ [(n : Int)]) j) = x) (t_rl P n).length + @ite _ (g (t_g (t_rl P n ++ [(n : Int)]) (t_rl P n).length) = x) (Classical.propDecidable _) 1 0
      rw [t_g2, c_nc (P := fun j => g (t_g (t_rl P n ++ [(n : Int)]) j) = x) (P' := fun j => g (t_g (t_rl P n) j) = x) (t_rl P n).length (fun j a b => by rw [t_g1 ⟨a, b⟩])]
      by_cases w : g n = x
      · rw [@if_pos _ (Classical.propDecidable _) ⟨q, w⟩, @if_pos _ (Classical.propDecidable _) w]
      · rw [@if_neg _ (Classical.propDecidable _) (fun z => w z.2), @if_neg _ (Classical.propDecidable _) w]
    · rw [t_rl0 q, @if_neg _ (Classical.propDecidable _) (fun z => q z.1), Int.add_zero]
theorem f_first {F : Int → Int} {x : Int} : ∀ n : Nat, (∀ j : Int, 0 ≤ j → j < n → F j ≠ x) ∨ ∃ i : Int, (0 ≤ i ∧ i < n) ∧ F i = x ∧ ∀ j : Int, 0 ≤ j → j < i → F j ≠ x
  | 0 => Or.inl (fun j a b => by omega)
  | n + 1 => by
    rcases f_first (F := F) (x := x) n with h | ⟨i, a, b, c⟩
    · by_cases q : F n = x
      · exact Or.inr ⟨n, by omega, q, h⟩
      · refine Or.inl (fun j a b => ?_)
        by_cases e : j = n
        · rw [e]; exact q
        · exact h j a (by omega)
    · exact Or.inr ⟨i, by omega, b, c⟩
/-- what a person gets in the fitting ones -/
noncomputable def f_F (K : Int → Int) (p j : Int) : Int := G_R K (t_g (f_l K) j) p
noncomputable def f_sc (K : Int → Int) (p i : Int) (n : Nat) : Int := c_n (fun j => i ≤ j ∧ f_F K p j = f_F K p i) n
theorem c_alF {K : Int → Int} {p x : Int} : c_al K p x = c_n (fun j => f_F K p j = x) (f_l K).length := c_nl (P := so_K K) (g := fun r => G_R K r p) (x := x) (R_K K).length
theorem f_so {K : Int → Int} {k : Int} (h0 : 0 ≤ k ∧ k < ((R_K K).length : Int)) (h : so_K K k) : ∃ j : Int, (0 ≤ j ∧ j < ((f_l K).length : Int)) ∧ t_g (f_l K) j = k := by
  have key : ∀ n : Nat, k < n → ∃ j : Int, (0 ≤ j ∧ j < ((t_rl (so_K K) n).length : Int)) ∧ t_g (t_rl (so_K K) n) j = k := by
    intro n
    induction n with
    | zero => intro q; omega
    | succ n ih =>
      intro q
      by_cases e : k = n
      · have hn : so_K K n := by rw [← e]; exact h
        rw [t_rl1 hn]
        exact ⟨(t_rl (so_K K) n).length, by rw [List.length_append]; simp; omega, by rw [t_g2, e]⟩
      · obtain ⟨j, a, b⟩ := ih (by omega)
        by_cases hn : so_K K n
        · rw [t_rl1 hn]
          exact ⟨j, by rw [List.length_append]; simp; omega, by rw [t_g1 a, b]⟩
        · rw [t_rl0 hn]; exact ⟨j, a, b⟩
  exact key (R_K K).length (by omega)
theorem f_mem {K : Int → Int} {j : Int} (h : 0 ≤ j ∧ j < ((f_l K).length : Int)) : (0 ≤ t_g (f_l K) j ∧ t_g (f_l K) j < ((R_K K).length : Int)) ∧ so_K K (t_g (f_l K) j) := t_rlm (R_K K).length (t_gm h)
/-- the greatest count from some place on -/
noncomputable def f_mx (K : Int → Int) (p : Int) : Nat → Int
  | 0 => 0
  | n + 1 => max (f_mx K p n) (f_sc K p n (f_l K).length)
theorem f_mxr {K : Int → Int} {p : Int} : ∀ n : Nat, (n : Int) ≤ (f_l K).length → 0 ≤ f_mx K p n ∧ (∀ i : Int, 0 ≤ i → i < n → f_sc K p i (f_l K).length ≤ f_mx K p n) ∧ (f_mx K p n = 0 ∨ ∃ i : Int, (0 ≤ i ∧ i < n) ∧ f_sc K p i (f_l K).length = f_mx K p n)
  | 0, _ => ⟨Int.le_refl 0, fun i a b => by omega, Or.inl rfl⟩
  | n + 1, h => by
    obtain ⟨h1, h2, h3⟩ := f_mxr (K := K) (p := p) n (by omega)
    have hs : 0 ≤ f_sc K p n (f_l K).length := (c_nr (f_l K).length).1
    have e : f_mx K p (n + 1) = max (f_mx K p n) (f_sc K p n (f_l K).length) := rfl
    rw [e]
    refine ⟨by omega, fun i a b => ?_, ?_⟩
    · by_cases q : i = n
      · rw [q]; omega
      · have := h2 i a (by omega); omega
    · by_cases q : f_mx K p n < f_sc K p n (f_l K).length
      · exact Or.inr ⟨n, by omega, by omega⟩
      · rcases h3 with h3 | ⟨i, a, b⟩
        · exact Or.inl (by omega)
        · exact Or.inr ⟨i, by omega, by omega⟩
theorem f_mxq {K : Int → Int} {p : Int} : f_mx K p (f_l K).length = q_ma K p := by
  obtain ⟨h1, h2, h3⟩ := f_mxr (K := K) (p := p) (f_l K).length (Int.le_refl _)
  have up : ∀ k : Int, 0 ≤ k → k < ((R_K K).length : Int) → so_K K k → c_al K p (G_R K k p) ≤ f_mx K p (f_l K).length := fun k a b s => by
    obtain ⟨j, ja, jb⟩ := f_so ⟨a, b⟩ s
    rcases f_first (F := f_F K p) (x := G_R K k p) (f_l K).length with z | ⟨i, ia, ib, ic⟩
    · exact absurd (by unfold f_F; rw [jb]) (z j ja.1 ja.2)
    · have e : f_sc K p i (f_l K).length = c_al K p (G_R K k p) := by
        rw [c_alF]
        unfold f_sc
        refine c_nc _ (fun j' a' b' => ⟨fun z => z.2.trans ib, fun z => ⟨?_, z.trans ib.symm⟩⟩)
        by_cases w : j' < i
        · exact absurd z (ic j' a' w)
        · omega
      rw [← e]
      exact h2 i ia.1 ia.2
  refine q_maU h1 up ?_
  rcases h3 with h3 | ⟨i, ia, ib⟩
  · exact Or.inl h3
  · have m := f_mem ia
    refine Or.inr ⟨t_g (f_l K) i, m.1, m.2, ?_⟩
    have u := up _ m.1.1 m.1.2 m.2
    have l : f_sc K p i (f_l K).length ≤ c_al K p (G_R K (t_g (f_l K) i) p) := by
      rw [c_alF]
      exact c_nm _ (fun j a b z => z.2)
    omega
theorem f_sc0 {K : Int → Int} {p i : Int} (hi : 0 ≤ i) : f_sc K p i i.toNat = 0 := by
  have key : ∀ n : Nat, (n : Int) ≤ i → f_sc K p i n = 0 := by
    intro n
    induction n with
    | zero => intro _; rfl
    | succ n ih =>
      intro q
      show f_sc K p i n + @ite _ (i ≤ (n : Int) ∧ f_F K p n = f_F K p i) (Classical.propDecidable _) 1 0 = 0
      rw [ih (by omega), @if_neg _ (Classical.propDecidable _) (fun z => by have := z.1; omega)]
      rfl
  exact key i.toNat (by omega)
theorem C_most32 {d : Nat} {Y : cw_M} {Q : Option cw_V → cw_M → Prop} {K : Int → Int} {p i mo : Int} (hq : Q_c K Y) (hf : ∀ i, 0 ≤ i → i < ((f_l K).length : Int) → Y x_fitting_ i = t_g (f_l K) i) (hp : 0 ≤ p ∧ p < 6) (hi : 0 ≤ i ∧ i < ((f_l K).length : Int)) (ex : ∀ w7 : Int, cw_R (d + 1) k_C_mostAlike 64 [vr x_, vi ((f_l K).length : Int), vi p, vi mo, vi i, vi (f_F K p i), vi (f_sc K p i (f_l K).length), vi w7] [] Y Q) : cw_R (d + 1) k_C_mostAlike 32 [vr x_, vi ((f_l K).length : Int), vi p, vi mo, vi i, vi (f_F K p i), vi 0, vi i] [] Y Q := by
  have rk := (R_Kr hq.1.2).1
  have fl : (f_l K).length ≤ (R_K K).length := t_rll (R_K K).length
  have lp : ∀ (r : Nat) (j : Int), ((f_l K).length : Int) < j + r → (i ≤ j ∧ j ≤ ((f_l K).length : Int)) → cw_R (d + 1) k_C_mostAlike 32 [vr x_, vi ((f_l K).length : Int), vi p, vi mo, vi i, vi (f_F K p i), vi (f_sc K p i j.toNat), vi j] [] Y Q := by
    intro r
    induction r with
    | zero =>
      intro j hr hj
      omega
    | succ r ih =>
      intro j hr hj
      have cr : 0 ≤ f_sc K p i j.toNat ∧ f_sc K p i j.toNat ≤ j.toNat := c_nr j.toNat
      refine la_go_R hq.1.1 18 [32, 64] ?_
      refine And.intro (fun (c21 : ((f_l K).length : Int) ≤ j) => ?_) (fun (c21 : ¬ (((f_l K).length : Int) ≤ j)) => ?_)
      · show cw_R _ _ 64 [vr x_, vi ((f_l K).length : Int), vi p, vi mo, vi i, vi (f_F K p i), vi (f_sc K p i j.toNat), vi j] [] (Y) _
        rw [show j.toNat = (f_l K).length by omega]
        exact ex _
      · refine And.intro (show 0 ≤ j ∧ j < 132 by omega) ?_
        show cw_C _ _ [vr x_, vi (Y x_fitting_ j), vi p] (Y) _
        refine C_amountE hq.1.1 hq.1.2 hq.2.1.2 (hf j (by omega) (by omega)) (by have := (f_mem (K := K) (j := j) (by omega)).1; have := hf j (by omega) (by omega); omega) (by omega) (hq.2.2 _ (f_mem (K := K) (j := j) (by omega)).1.1 (f_mem (K := K) (j := j) (by omega)).1.2) ⟨hq.1.1, ?_⟩
        refine And.intro (fun (c22 : f_F K p j ≠ f_F K p i) => ?_) (fun (c22 : ¬ (f_F K p j ≠ f_F K p i)) => ?_)
        · refine And.intro (show -2147483648 ≤ j + 1 ∧ j + 1 < 2147483648 by omega) ?_
          show cw_R _ _ 32 [vr x_, vi ((f_l K).length : Int), vi p, vi mo, vi i, vi (f_F K p i), vi (f_sc K p i j.toNat), vi (j + 1)] [] (Y) _
          have e := (c_ns (P := fun j => i ≤ j ∧ f_F K p j = f_F K p i) (k := j) (by omega))
          have e1 : f_sc K p i j.toNat + 0 = f_sc K p i (j + 1).toNat := e.2 (fun z => by have := z.2; omega)
          rw [Int.add_zero] at e1
          rw [e1]
          exact ih (j + 1) (by omega) (by omega)
        · refine And.intro (show -2147483648 ≤ (f_sc K p i j.toNat) + 1 ∧ (f_sc K p i j.toNat) + 1 < 2147483648 by omega) ?_
          refine And.intro (show -2147483648 ≤ j + 1 ∧ j + 1 < 2147483648 by omega) ?_
          show cw_R _ _ 32 [vr x_, vi ((f_l K).length : Int), vi p, vi mo, vi i, vi (f_F K p i), vi ((f_sc K p i j.toNat) + 1), vi (j + 1)] [] (Y) _
          have e := (c_ns (P := fun j => i ≤ j ∧ f_F K p j = f_F K p i) (k := j) (by omega))
          have e1 : f_sc K p i j.toNat + 1 = f_sc K p i (j + 1).toNat := e.1 ⟨by omega, by omega⟩
          rw [e1]
          exact ih (j + 1) (by omega) (by omega)
  have a := lp ((f_l K).length + 1) i (by omega) (by omega)
  rw [f_sc0 hi.1] at a
  exact a
theorem C_mostAlike {d : Nat} {Y : cw_M} {Q : Option cw_V → cw_M → Prop} {K : Int → Int} {p : Int} (hq : Q_c K Y) (hf : ∀ i, 0 ≤ i → i < ((f_l K).length : Int) → Y x_fitting_ i = t_g (f_l K) i) (hp : 0 ≤ p ∧ p < 6) (h : Q (some (vi (q_ma K p))) Y) : cw_C (d + 1) k_C_mostAlike [vr x_, vi ((f_l K).length : Int), vi p] Y Q := by
  have rk := (R_Kr hq.1.2).1
  have fl : (f_l K).length ≤ (R_K K).length := t_rll (R_K K).length
  have lp : ∀ (r : Nat) (i : Int) (w5 w6 w7 : cw_V), ((f_l K).length : Int) < i + r → (0 ≤ i ∧ i ≤ ((f_l K).length : Int)) → cw_R (d + 1) k_C_mostAlike 5 [vr x_, vi ((f_l K).length : Int), vi p, vi (f_mx K p i.toNat), vi i, w5, w6, w7] [] Y Q := by
    intro r
    induction r with
    | zero =>
      intro i w5 w6 w7 hr hi
      omega
    | succ r ih =>
      intro i w5 w6 w7 hr hi
      refine la_go_R hq.1.1 18 [5, 32] ?_
      refine And.intro (fun (c21 : ((f_l K).length : Int) ≤ i) => ?_) (fun (c21 : ¬ (((f_l K).length : Int) ≤ i)) => ?_)
      · show Q (some (vi (f_mx K p i.toNat))) (Y)
        rw [show i.toNat = (f_l K).length by omega, f_mxq]
        exact h
      · refine And.intro (show 0 ≤ i ∧ i < 132 by omega) ?_
        show cw_C _ _ [vr x_, vi (Y x_fitting_ i), vi p] (Y) _
        refine C_amountE hq.1.1 hq.1.2 hq.2.1.2 (hf i (by omega) (by omega)) (by have := (f_mem (K := K) (j := i) (by omega)).1; have := hf i (by omega) (by omega); omega) (by omega) (hq.2.2 _ (f_mem (K := K) (j := i) (by omega)).1.1 (f_mem (K := K) (j := i) (by omega)).1.2) ⟨hq.1.1, ?_⟩
        show cw_R _ _ 32 [vr x_, vi ((f_l K).length : Int), vi p, vi (f_mx K p i.toNat), vi i, vi (f_F K p i), vi 0, vi i] [] (Y) _
        refine C_most32 hq hf hp (by omega) (fun u7 => ?_)
        refine la_go_R hq.1.1 9 [5] ?_
        show cw_C _ _ [vi (f_mx K p i.toNat), vi (f_sc K p i (f_l K).length)] (Y) _
        refine Jm_max ⟨hq.1.1, ?_⟩
        refine And.intro (show -2147483648 ≤ i + 1 ∧ i + 1 < 2147483648 by omega) ?_
        show cw_R _ _ 5 [vr x_, vi ((f_l K).length : Int), vi p, vi (max (f_mx K p i.toNat) (f_sc K p i (f_l K).length)), vi (i + 1), vi (f_F K p i), vi (f_sc K p i (f_l K).length), vi u7] [] (Y) _
        have e : max (f_mx K p i.toNat) (f_sc K p i (f_l K).length) = f_mx K p (i + 1).toNat := by rw [show (i + 1).toNat = i.toNat + 1 by omega]; show _ = max _ (f_sc K p (i.toNat : Int) _); rw [show (i.toNat : Int) = i by omega]
        rw [e]
        exact ih (i + 1) _ _ _ (by omega) (by omega)
  refine la_go_C hq.1.1 7 [5] ?_
  show cw_R _ _ 5 [vr x_, vi ((f_l K).length : Int), vi p, vi 0, vi 0, none, none, none] [] (Y) _
  exact lp ((f_l K).length + 1) 0 _ _ _ (by omega) (by omega)
theorem c_n1 {P : Int → Prop} : ∀ (n : Nat) {j : Int}, 0 ≤ j → j < n → P j → 1 ≤ c_n P n
  | 0, j, a, b, h => by omega
  | n + 1, j, a, b, h => by
    show 1 ≤ c_n P n + @ite _ (P n) (Classical.propDecidable _) 1 0
    have r := c_nr (P := P) n
    by_cases e : j = n
    · rw [@if_pos _ (Classical.propDecidable _) (by rw [← e]; exact h)]; omega
    · have := c_n1 n a (by omega) h
      by_cases q : P n
      · rw [@if_pos _ (Classical.propDecidable _) q]; omega
      · rw [@if_neg _ (Classical.propDecidable _) q]; omega
theorem q_mab {K : Int → Int} {p : Int} (h : 0 < (f_l K).length) : 1 ≤ q_ma K p ∧ q_ma K p ≤ (f_l K).length := by
  rw [← f_mxq]
  obtain ⟨h1, h2, h3⟩ := f_mxr (K := K) (p := p) (f_l K).length (Int.le_refl _)
  have a := h2 0 (by omega) (by omega)
  have b : 1 ≤ f_sc K p 0 (f_l K).length := c_n1 (f_l K).length (j := 0) (by omega) (by omega) ⟨Int.le_refl 0, rfl⟩
  refine ⟨by omega, ?_⟩
  rcases h3 with h3 | ⟨i, ia, ib⟩
  · omega
  · rw [← ib]
    exact (c_nr (f_l K).length).2
theorem q_ma0 {K : Int → Int} {p : Int} (h : (f_l K).length = 0) : q_ma K p = 0 := by
  rw [← f_mxq, h]; rfl
theorem C_ask38 {d : Nat} {m Y : cw_M} {Q : Option cw_V → cw_M → Prop} {K : Int → Int} {w : Int} {w7 : cw_V} (hw : 0 ≤ w ∧ w < 2) (hfl : 0 < (f_l K).length) (hq : Q_c K Y) (hV : V_s m Y) (hf : ∀ i, 0 ≤ i → i < ((f_l K).length : Int) → Y x_fitting_ i = t_g (f_l K) i) (h : ∀ M, la_ok M → V_s m M → Z_c M K → Q (some (vi (q_ask K w))) M) : cw_R (d + 14) k_C_ask 38 [vr x_, vi w, vi ((R_K K).length : Int), vi ((f_l K).length : Int), vi (-1), vi (((f_l K).length : Int) + 1), vi 0, w7] [] Y Q := by
  have rk := (R_Kr hq.1.2).1
  have fl : (f_l K).length ≤ (R_K K).length := t_rll (R_K K).length
  have lp : ∀ (r : Nat) (k lf : Int) (w7 : cw_V), 6 < k + r → (0 ≤ k ∧ k ≤ 6) → ((k = 0 ∧ lf = ((f_l K).length : Int) + 1) ∨ (1 ≤ k ∧ lf = (a_k (q_ma K) k.toNat).2)) → (1 ≤ k → (a_k (q_ma K) k.toNat).1 ≠ -1) → cw_R (d + 14) k_C_ask 38 [vr x_, vi w, vi ((R_K K).length : Int), vi ((f_l K).length : Int), vi ((a_k (q_ma K) k.toNat).1), vi lf, vi k, w7] [] Y Q := by
    intro r
    induction r with
    | zero =>
      intro k lf w7 hr hk hl hne
      omega
    | succ r ih =>
      intro k lf w7 hr hk hl hne
      have mb := q_mab (K := K) (p := k) hfl
      refine la_go_R hq.1.1 20 [38] ?_
      refine And.intro (fun (c21 : 6 ≤ k) => ?_) (fun (c21 : ¬ (6 ≤ k)) => ?_)
      · refine And.intro (fun (c22 : w ≠ 0) => ?_) (fun (c22 : ¬ (w ≠ 0)) => ?_)
        · show Q (some (vi lf)) (Y)
          have a6 := hne (by omega)
          rw [show k.toNat = 6 by omega] at a6 hl
          have e : q_ask K w = lf := by unfold q_ask; rw [if_pos (by omega), if_neg (by omega)]; omega
          rw [← e]
          exact h Y hq.1.1 hV hq.2.1.2.1
        · show Q (some (vi ((a_k (q_ma K) k.toNat).1))) (Y)
          have e : q_ask K w = (a_k (q_ma K) 6).1 := by unfold q_ask; rw [if_pos (by omega), if_pos (Or.inr (by omega))]
          rw [show k.toNat = 6 by omega, ← e]
          exact h Y hq.1.1 hV hq.2.1.2.1
      · show cw_C _ _ [vr x_, vi ((f_l K).length : Int), vi k] (Y) _
        refine C_mostAlike hq hf (by omega) ⟨hq.1.1, ?_⟩
        refine And.intro (fun (c23 : lf ≤ q_ma K k) => ?_) (fun (c23 : ¬ (lf ≤ q_ma K k)) => ?_)
        · refine And.intro (show -2147483648 ≤ k + 1 ∧ k + 1 < 2147483648 by omega) ?_
          show cw_R _ _ 38 [vr x_, vi w, vi ((R_K K).length : Int), vi ((f_l K).length : Int), vi ((a_k (q_ma K) k.toNat).1), vi lf, vi (k + 1), vi (q_ma K k)] [] (Y) _
          have e := (a_ks (ma := q_ma K) (k := k) (by omega)).2 (fun z => by have := z.2; omega)
          have ih2 := ih (k + 1) lf (vi (q_ma K k)) (by omega) (by omega) (Or.inr ⟨by omega, by rw [e]; omega⟩) (fun _ => by rw [e]; exact hne (by omega))
          rw [e] at ih2
          exact ih2
        · refine And.intro (show -2147483648 ≤ k + 1 ∧ k + 1 < 2147483648 by omega) ?_
          show cw_R _ _ 38 [vr x_, vi w, vi ((R_K K).length : Int), vi ((f_l K).length : Int), vi k, vi (q_ma K k), vi (k + 1), vi (q_ma K k)] [] (Y) _
          have e := (a_ks (ma := q_ma K) (k := k) (by omega)).1 ⟨by omega, by rcases hl with hl | hl; have z0 : (a_k (q_ma K) k.toNat).2 = 1000000 := (by rw [show k.toNat = 0 by omega]; rfl); omega; omega⟩
          have ih2 := ih (k + 1) (q_ma K k) (vi (q_ma K k)) (by omega) (by omega) (Or.inr ⟨by omega, by rw [e]⟩) (fun _ => by rw [e]; show k ≠ -1; omega)
          rw [e] at ih2
          exact ih2
  exact lp 7 0 (((f_l K).length : Int) + 1) w7 (by omega) (by omega) (Or.inl ⟨rfl, rfl⟩) (fun z => by omega)
theorem C_ask {d : Nat} {m : cw_M} {Q : Option cw_V → cw_M → Prop} {K : Int → Int} (hm : la_ok m) (hT : ∀ j, 0 ≤ j → j < 7 → m cw_TREES j = t_c j) (hK : K_r K) (hW : W_r m K) (hZ : Z_c m K) {w : Int} (h : ∀ M, la_ok M → V_s m M → Z_c M K → Q (some (vi (q_ask K w))) M) : cw_C (d + 14) k_C_ask [vr x_, vi w] m Q := by
  have rk := (R_Kr hK).1
  have fl : (f_l K).length ≤ (R_K K).length := t_rll (R_K K).length
  refine la_go_C hm 24 [38] ?_
  show cw_C _ _ [vi w, vi 2] (m) _
  refine C_isBelow (fun (a21 : 0 ≤ w) (a22 : w < 2) => ⟨hm, ?_⟩) (fun (a23 : ¬ (0 ≤ w ∧ w < 2)) => ⟨hm, ?_⟩)
  · refine br_t (show (1 : Int) ≠ 0 by decide) ?_
    show cw_C _ _ [vr x_] (m) _
    refine C_learnReadings hm hT hK hW hZ (fun (X : cw_M) (hV : V_s m X) (hq : Q_c K X) => ⟨hq.1.1, ?_⟩)
    show cw_C _ _ [vr x_, vi ((R_K K).length : Int)] (X) _
    refine C_gather hq (fun (Y : cw_M) (hqY : Q_c K Y) (heY : ∀ c, c ≠ x_fitting_ → Y c = X c) (hfY : ∀ i, 0 ≤ i → i < ((f_l K).length : Int) → Y x_fitting_ i = t_g (f_l K) i) => ⟨hqY.1.1, ?_⟩)
    refine And.intro (fun (c24 : ((f_l K).length : Int) ≠ 0) => ?_) (fun (c24 : ¬ (((f_l K).length : Int) ≠ 0)) => ?_)
    · refine And.intro (show -2147483648 ≤ ((f_l K).length : Int) + 1 ∧ ((f_l K).length : Int) + 1 < 2147483648 by omega) ?_
      show cw_R _ _ 38 [vr x_, vi w, vi ((R_K K).length : Int), vi ((f_l K).length : Int), vi (-1), vi (((f_l K).length : Int) + 1), vi 0, none] [] (Y) _
      exact C_ask38 (by omega) (by omega) hqY (V_st hV (Q_cV heY)) hfY h
    · show Q (some (vi (-1))) (Y)
      have z : ∀ n : Nat, a_k (q_ma K) n = (-1, 1000000) := by
        intro n
        induction n with
        | zero => rfl
        | succ n ih => show (if _ then _ else _) = _; rw [if_neg (fun q => q.1 (q_ma0 (by omega)))]; exact ih
      have e : q_ask K w = -1 := by unfold q_ask; rw [if_pos (by omega), z 6, if_pos (Or.inl rfl)]
      rw [← e]
      exact h Y hqY.1.1 (V_st hV (Q_cV heY)) hqY.2.1.2.1
  · refine br_f (show ¬ ((0 : Int) ≠ 0) by decide) ?_
    show Q (some (vi (-1))) (m)
    have e : q_ask K w = -1 := by unfold q_ask; rw [if_neg (by omega)]
    rw [← e]
    exact h m hm V_sr hZ
