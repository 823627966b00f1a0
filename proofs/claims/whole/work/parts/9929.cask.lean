/-! Whom to ask, by the class (wip/whole/tools/m129.py). -/
theorem c_nc {P P' : Int → Prop} : ∀ n : Nat, (∀ j : Int, 0 ≤ j → j < n → (P j ↔ P' j)) → c_n P n = c_n P' n
  | 0, _ => rfl
  | n + 1, h => by
    show c_n P n + @ite _ (P n) (Classical.propDecidable _) 1 0 = c_n P' n + @ite _ (P' n) (Classical.propDecidable _) 1 0
    rw [c_nc n (fun j a b => h j a (by omega))]
    have z := h n (by omega) (by omega)
    by_cases q : P n
    · rw [@if_pos _ (Classical.propDecidable _) q, @if_pos _ (Classical.propDecidable _) (z.mp q)]
    · rw [@if_neg _ (Classical.propDecidable _) q, @if_neg _ (Classical.propDecidable _) (fun w => q (z.mpr w))]
theorem c_nm {P P' : Int → Prop} : ∀ n : Nat, (∀ j : Int, 0 ≤ j → j < n → P j → P' j) → c_n P n ≤ c_n P' n
  | 0, _ => Int.le_refl 0
  | n + 1, h => by
    show c_n P n + @ite _ (P n) (Classical.propDecidable _) 1 0 ≤ c_n P' n + @ite _ (P' n) (Classical.propDecidable _) 1 0
    have i := c_nm n (fun j a b => h j a (by omega))
    have z := h n (by omega) (by omega)
    by_cases q : P n
    · rw [@if_pos _ (Classical.propDecidable _) q, @if_pos _ (Classical.propDecidable _) (z q)]; omega
    · rw [@if_neg _ (Classical.propDecidable _) q]
      by_cases w : P' n
      · rw [@if_pos _ (Classical.propDecidable _) w]; omega
      · rw [@if_neg _ (Classical.propDecidable _) w]; omega
/-- counted over the list of those that are so -/
theorem c_nl {P : Int → Prop} {g : Int → Int} {x : Int} : ∀ n : Nat, c_n (fun r => P r ∧ g r = x) n = c_n (fun j => g (t_g (t_rl P n) j) = x) (t_rl P n).length
  | 0 => rfl
  | n + 1 => by
    show c_n (fun r => P r ∧ g r = x) n + @ite _ (P n ∧ g n = x) (Classical.propDecidable _) 1 0 = _
    rw [c_nl n]
    by_cases q : P n
    · rw [t_rl1 q, List.length_append]
      show _ = c_n (fun j => g (t_g (t_rl P n ++ [(n : Int)]) j) = x) (t_rl P n).length + @ite _ (g (t_g (t_rl P n ++ [(n : Int)]) (t_rl P n).length) = x) (Classical.propDecidable _) 1 0
      rw [t_g2, c_nc (P := fun j => g (t_g (t_rl P n ++ [(n : Int)]) j) = x) (P' := fun j => g (t_g (t_rl P n) j) = x) (t_rl P n).length (fun j a b => by rw [t_g1 ⟨a, b⟩])]
      by_cases w : g n = x
      · rw [@if_pos _ (Classical.propDecidable _) ⟨q, w⟩, @if_pos _ (Classical.propDecidable _) w]
      · rw [@if_neg _ (Classical.propDecidable _) (fun z => w z.2), @if_neg _ (Classical.propDecidable _) w]
    · rw [t_rl0 q, @if_neg _ (Classical.propDecidable _) (fun z => q z.1), Int.add_zero]
theorem f_first {F : Int → Int} {x : Int} : ∀ n : Nat, (∀ j : Int, 0 ≤ j → j < n → F j ≠ x) ∨ ∃ i : Int, (0 ≤ i ∧ i < n) ∧ F i = x ∧ ∀ j : Int, 0 ≤ j → j < i → F j ≠ x
  | 0 => Or.inl (fun j a b => by omega)
  | n + 1 => by
    rcases f_first (F := F) (x := x) n with h | ⟨i, a, b, c⟩
    · by_cases q : F n = x
      · exact Or.inr ⟨n, by omega, q, h⟩
      · refine Or.inl (fun j a b => ?_)
        by_cases e : j = n
        · rw [e]; exact q
        · exact h j a (by omega)
    · exact Or.inr ⟨i, by omega, b, c⟩
/-- what a person gets in the fitting ones -/
noncomputable def f_F (K : Int → Int) (p j : Int) : Int := G_R K (t_g (f_l K) j) p
noncomputable def f_sc (K : Int → Int) (p i : Int) (n : Nat) : Int := c_n (fun j => i ≤ j ∧ f_F K p j = f_F K p i) n
theorem c_alF {K : Int → Int} {p x : Int} : c_al K p x = c_n (fun j => f_F K p j = x) (f_l K).length := c_nl (P := so_K K) (g := fun r => G_R K r p) (x := x) (R_K K).length
theorem f_so {K : Int → Int} {k : Int} (h0 : 0 ≤ k ∧ k < ((R_K K).length : Int)) (h : so_K K k) : ∃ j : Int, (0 ≤ j ∧ j < ((f_l K).length : Int)) ∧ t_g (f_l K) j = k := by
  have key : ∀ n : Nat, k < n → ∃ j : Int, (0 ≤ j ∧ j < ((t_rl (so_K K) n).length : Int)) ∧ t_g (t_rl (so_K K) n) j = k := by
    intro n
    induction n with
    | zero => intro q; omega
    | succ n ih =>
      intro q
      by_cases e : k = n
      · have hn : so_K K n := by rw [← e]; exact h
        rw [t_rl1 hn]
        exact ⟨(t_rl (so_K K) n).length, by rw [List.length_append]; simp; omega, by rw [t_g2, e]⟩
      · obtain ⟨j, a, b⟩ := ih (by omega)
        by_cases hn : so_K K n
        · rw [t_rl1 hn]
          exact ⟨j, by rw [List.length_append]; simp; omega, by rw [t_g1 a, b]⟩
        · rw [t_rl0 hn]; exact ⟨j, a, b⟩
  exact key (R_K K).length (by omega)
theorem f_mem {K : Int → Int} {j : Int} (h : 0 ≤ j ∧ j < ((f_l K).length : Int)) : (0 ≤ t_g (f_l K) j ∧ t_g (f_l K) j < ((R_K K).length : Int)) ∧ so_K K (t_g (f_l K) j) := t_rlm (R_K K).length (t_gm h)
/-- the greatest count from some place on -/
noncomputable def f_mx (K : Int → Int) (p : Int) : Nat → Int
  | 0 => 0
  | n + 1 => max (f_mx K p n) (f_sc K p n (f_l K).length)
theorem f_mxr {K : Int → Int} {p : Int} : ∀ n : Nat, (n : Int) ≤ (f_l K).length → 0 ≤ f_mx K p n ∧ (∀ i : Int, 0 ≤ i → i < n → f_sc K p i (f_l K).length ≤ f_mx K p n) ∧ (f_mx K p n = 0 ∨ ∃ i : Int, (0 ≤ i ∧ i < n) ∧ f_sc K p i (f_l K).length = f_mx K p n)
  | 0, _ => ⟨Int.le_refl 0, fun i a b => by omega, Or.inl rfl⟩
  | n + 1, h => by
    obtain ⟨h1, h2, h3⟩ := f_mxr (K := K) (p := p) n (by omega)
    have hs : 0 ≤ f_sc K p n (f_l K).length := (c_nr (f_l K).length).1
    have e : f_mx K p (n + 1) = max (f_mx K p n) (f_sc K p n (f_l K).length) := rfl
    rw [e]
    refine ⟨by omega, fun i a b => ?_, ?_⟩
    · by_cases q : i = n
      · rw [q]; omega
      · have := h2 i a (by omega); omega
    · by_cases q : f_mx K p n < f_sc K p n (f_l K).length
      · exact Or.inr ⟨n, by omega, by omega⟩
      · rcases h3 with h3 | ⟨i, a, b⟩
        · exact Or.inl (by omega)
        · exact Or.inr ⟨i, by omega, by omega⟩
theorem f_mxq {K : Int → Int} {p : Int} : f_mx K p (f_l K).length = q_ma K p := by
  obtain ⟨h1, h2, h3⟩ := f_mxr (K := K) (p := p) (f_l K).length (Int.le_refl _)
  have up : ∀ k : Int, 0 ≤ k → k < ((R_K K).length : Int) → so_K K k → c_al K p (G_R K k p) ≤ f_mx K p (f_l K).length := fun k a b s => by
    obtain ⟨j, ja, jb⟩ := f_so ⟨a, b⟩ s
    rcases f_first (F := f_F K p) (x := G_R K k p) (f_l K).length with z | ⟨i, ia, ib, ic⟩
    · exact absurd (by unfold f_F; rw [jb]) (z j ja.1 ja.2)
    · have e : f_sc K p i (f_l K).length = c_al K p (G_R K k p) := by
        rw [c_alF]
        unfold f_sc
        refine c_nc _ (fun j' a' b' => ⟨fun z => z.2.trans ib, fun z => ⟨?_, z.trans ib.symm⟩⟩)
        by_cases w : j' < i
        · exact absurd z (ic j' a' w)
        · omega
      rw [← e]
      exact h2 i ia.1 ia.2
  refine q_maU h1 up ?_
  rcases h3 with h3 | ⟨i, ia, ib⟩
  · exact Or.inl h3
  · have m := f_mem ia
    refine Or.inr ⟨t_g (f_l K) i, m.1, m.2, ?_⟩
    have u := up _ m.1.1 m.1.2 m.2
    have l : f_sc K p i (f_l K).length ≤ c_al K p (G_R K (t_g (f_l K) i) p) := by
      rw [c_alF]
      exact c_nm _ (fun j a b z => z.2)
    omega
