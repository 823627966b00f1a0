/-! What is kept, told twice: what gives the same. -/
section CG
variable {kd kd' nm nm' : Int → Int} {fit : Int}
theorem g_tkc (hk : ∀ j, 0 ≤ j → j < 6 → kd j = kd' j) (hn : ∀ i, 0 ≤ i → i < 7 → nm i = nm' i) : ∀ (f : Nat) {a n k out : Int}, 0 ≤ a → a + n ≤ 6 → 0 ≤ n → 0 ≤ k ∧ k < t_c n → g_tk kd nm fit f a n k out = g_tk kd' nm' fit f a n k out
  | 0, a, n, k, out, h0, h1, h2, h3 => by
    show g_lf fit out (nm a) = g_lf fit out (nm' a)
    rw [hn a h0 (by omega)]
  | f + 1, a, n, k, out, h0, h1, h2, h3 => by
    by_cases q : n ≤ 0
    · rw [g_tk0 q, g_tk0 q, hn a h0 (by omega)]
    have tk := t_ok (n := n) (k := k) (by omega) h3
    have ek := hk (a + t_top n k) (by omega) (by omega)
    have en : g_nm nm (a + t_top n k) (a + n) = g_nm nm' (a + t_top n k) (a + n) := f_mskc _ (fun i a b => hn i (by omega) (by omega))
    by_cases q2 : kd (a + t_top n k) = 2
    · rw [g_tkB q q2, g_tkB q (by omega), en]
      exact g_tkc hk hn f h0 (by omega) (by omega) tk.2.1
    · rw [g_tkO q q2, g_tkO q (by omega), g_tkc hk hn f h0 (by omega) (by omega) tk.2.1, g_tkc hk hn f (by omega) (by omega) (by omega) tk.2.2.1]
theorem g_hrc (hn : ∀ i, 0 ≤ i → i < 7 → nm i = nm' i) {a out worth : Int} {wd : Int → Int} (h0 : 0 ≤ a) (h1 : a < 7) : g_hr nm fit a out worth wd = g_hr nm' fit a out worth wd := by
  unfold g_hr; rw [hn a h0 h1]
theorem g_goC {sh : Int → Int → Int → Int → Int} (hk : ∀ j, 0 ≤ j → j < 6 → kd j = kd' j) (hn : ∀ i, 0 ≤ i → i < 7 → nm i = nm' i) : ∀ (f : Nat) {a n k out worth : Int} {wd : Int → Int}, 0 ≤ a → a + n ≤ 6 → 0 ≤ n → 0 ≤ k ∧ k < t_c n → g_go kd nm fit sh f a n k out worth wd = g_go kd' nm' fit sh f a n k out worth wd
  | 0, a, n, k, out, worth, wd, h0, h1, h2, h3 => g_hrc hn h0 (by omega)
  | f + 1, a, n, k, out, worth, wd, h0, h1, h2, h3 => by
    by_cases q : n ≤ 0
    · rw [g_go0 q, g_go0 q, g_hrc hn h0 (by omega)]
    have tk := t_ok (n := n) (k := k) (by omega) h3
    have ek := hk (a + t_top n k) (by omega) (by omega)
    have en : g_nm nm (a + t_top n k) (a + n) = g_nm nm' (a + t_top n k) (a + n) := f_mskc _ (fun i a b => hn i (by omega) (by omega))
    by_cases q2 : kd (a + t_top n k) = 2
    · rw [g_goB q q2, g_goB q (by omega), en]
      exact g_goC hk hn f h0 (by omega) (by omega) tk.2.1
    have eL := g_tkc (fit := fit) hk hn f (out := out) h0 (by omega) (by omega) tk.2.1
    have eR := g_tkc (fit := fit) hk hn f (out := out) (a := a + t_top n k + 1) (by omega) (by omega) (by omega) tk.2.2.1
    by_cases hl : g_tk kd nm fit f a (t_top n k) (t_lk n k) out = true
    · by_cases hr : g_tk kd nm fit f (a + t_top n k + 1) (n - t_top n k - 1) (t_rk n k) out = true ∧ kd (a + t_top n k) = 0
      · rw [g_goA q hr.2 hl hr.1, g_goA q (by omega) (by rw [← eL]; exact hl) (by rw [← eR]; exact hr.1), g_goC hk hn f h0 (by omega) (by omega) tk.2.1, g_goC hk hn f (by omega) (by omega) (by omega) tk.2.2.1]
      · rw [g_goL q q2 hl hr, g_goL q (by omega) (by rw [← eL]; exact hl) (by rw [← eR, ← ek]; exact hr)]
        exact g_goC hk hn f h0 (by omega) (by omega) tk.2.1
    · by_cases hr : g_tk kd nm fit f (a + t_top n k + 1) (n - t_top n k - 1) (t_rk n k) out = true
      · rw [g_goR q q2 hl hr, g_goR q (by omega) (by rw [← eL]; exact hl) (by rw [← eR]; exact hr)]
        exact g_goC hk hn f (by omega) (by omega) (by omega) tk.2.2.1
      · rw [g_goN q q2 hl hr, g_goN q (by omega) (by rw [← eL]; exact hl) (by rw [← eR]; exact hr)]
end CG
/-- the things kept that shares, taxes, bars and pieces ask for are the same -/
def K_e (K K' : Int → Int) : Prop := (∀ j, 0 ≤ j → j < 6 → K (6 + j) = K' (6 + j)) ∧ (∀ i, 0 ≤ i → i < 7 → K (19 + i) = K' (19 + i)) ∧ K 43 = K' 43 ∧ K 44 = K' 44 ∧ K 46 = K' 46
theorem l_Ec {K K' : Int → Int} {yr jn lf rg wt hr : Int} (hn : 0 ≤ K 46 ∧ K 46 ≤ 7) (h : K_e K K') : l_E K yr jn lf rg wt hr = l_E K' yr jn lf rg wt hr := by
  funext i
  unfold l_E
  rw [← h.2.2.2.1, ← h.2.2.2.2, f_cntc (f := fun i => K (19 + i)) (g := fun i => K' (19 + i)) (p := hr) (K 46).toNat (fun i a b => h.2.1 i a (by omega))]
section CL
variable {K K' : Int → Int} {fc fc' yr : Int}
theorem l_Shc (hn : 0 ≤ K 46 ∧ K 46 ≤ 7) (h : K_e K K') (hf : l_fo K fc = l_fo K' fc') : l_Sh K fc yr = l_Sh K' fc' yr := by
  funext j l r w; unfold l_Sh; rw [hf, l_Ec hn h]
theorem l_txc (hn : 0 ≤ K 46 ∧ K 46 ≤ 7) (h : K_e K K') (hf : l_fo K fc = l_fo K' fc') : l_tx K fc yr = l_tx K' fc' yr := by
  funext p w; unfold l_tx; rw [hf, l_Ec hn h]
theorem l_brc (hn : 0 ≤ K 46 ∧ K 46 ≤ 7) (h : K_e K K') (hf : l_fo K fc = l_fo K' fc') : l_br K fc yr = l_br K' fc' yr := by
  funext p; unfold l_br; rw [hf, l_Ec hn h, h.2.2.1]
theorem G_tc {fit t p : Int} (hn : 0 ≤ K 46 ∧ K 46 ≤ 7) (h : K_e K K') (hf : l_fo K fc = l_fo K' fc') (ht : 0 ≤ t ∧ t < t_tm (K 46)) : G_t K fc yr fit t p = G_t K' fc' yr fit t p := by
  have tq := t_tmr hn
  have e : G_w K fc yr fit t = G_w K' fc' yr fit t := by
    unfold G_w
    rw [← h.2.2.2.2, ← h.2.2.1, ← l_Shc hn h hf]
    exact g_goC (fun j a b => h.1 j a b) (fun i a b => h.2.1 i a b) 6 (by omega) (by omega) (by omega) (by omega)
  unfold G_t
  rw [e, l_txc hn h hf]
theorem l_fitc {lv lv' br br' : Int → Int} (h1 : ∀ p, 0 ≤ p → p < 6 → lv p = lv' p) (h2 : ∀ p, 0 ≤ p → p < 6 → br p = br' p) : ∀ n : Nat, n ≤ 6 → l_fit lv br n = l_fit lv' br' n
  | 0, _ => rfl
  | n + 1, hn => by
    show cw_ior (l_fit lv br n) (if lv n = 1 ∧ ¬ 0 < br n then cw_ishl 1 n else 0) = cw_ior (l_fit lv' br' n) (if lv' n = 1 ∧ ¬ 0 < br' n then cw_ishl 1 n else 0)
    rw [l_fitc h1 h2 n (by omega), h1 n (by omega) (by omega), h2 n (by omega) (by omega)]
end CL
/-- a law lies the same in two rows -/
theorem l_ksc {K K' : Int → Int} {i : Int} (h0 : K (51 + i) = K' (51 + i)) (h1 : ∀ k, 0 ≤ k → k < K (51 + i) → K (58 + (400 * i + k)) = K' (58 + (400 * i + k)) ∧ K (2858 + (400 * i + k)) = K' (2858 + (400 * i + k))) : l_c K i = l_c K' i ∧ l_v K i = l_v K' i ∧ l_ks K i = l_ks K' i := by
  have e1 : l_c K i = l_c K' i := by
    funext k
    unfold l_c
    by_cases q : 0 ≤ k ∧ k < K (51 + i)
    · rw [if_pos q, if_pos (by rw [← h0]; exact q), (h1 k q.1 q.2).1]
    · rw [if_neg q, if_neg (by rw [← h0]; exact q)]
  have e2 : l_v K i = l_v K' i := by
    funext k
    unfold l_v
    by_cases q : 0 ≤ k ∧ k < K (51 + i)
    · rw [if_pos q, if_pos (by rw [← h0]; exact q), (h1 k q.1 q.2).2]
    · rw [if_neg q, if_neg (by rw [← h0]; exact q)]
  refine ⟨e1, e2, ?_⟩
  unfold l_ks
  rw [e1, e2, h0]
/-- the reference's row up to what counts: all but a law's room behind the sixth -/
def K_q (K K' : Int → Int) : Prop := ∀ i, 0 ≤ i → i < 5658 → (i < 57 ∨ (58 ≤ i ∧ i < 2458) ∨ (2858 ≤ i ∧ i < 5258)) → K i = K' i
theorem K_qL {K K' : Int → Int} (h : K_q K K') {i : Int} (hi : 0 ≤ i ∧ i < 6) (hn : K (51 + i) ≤ 400) : l_c K i = l_c K' i ∧ l_v K i = l_v K' i ∧ l_ks K i = l_ks K' i := l_ksc (h _ (by omega) (by omega) (by omega)) (fun k a b => ⟨h _ (by omega) (by omega) (by omega), h _ (by omega) (by omega) (by omega)⟩)
theorem K_qo {K K' : Int → Int} (h : K_q K K') {i : Int} (hi : 0 ≤ i ∧ i < 6) (hL : L_ok K i) : L_ok K' i := by
  have e := K_qL h hi hL.1.2
  have e0 : K (51 + i) = K' (51 + i) := h _ (by omega) (by omega) (by omega)
  refine ⟨by rw [← e0]; exact hL.1, fun k a b => ?_, by rw [← e.1, ← e.2.1, ← e0, ← e.2.2]; exact hL.2.2⟩
  have := hL.1
  rw [← h _ (by omega) (by omega) (by omega)]
  exact hL.2.1 k a (by rw [e0]; exact b)
