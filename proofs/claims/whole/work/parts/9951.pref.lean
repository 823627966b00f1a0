/-! Changes done to both: refusals, small ones (wip/whole/tools/m151.py). -/
/-- caches of the class that no plain change touches -/
def D_X : List Int := [x_forest_, x_forest_deep_, x_forest_above_, x_forest_list_, x_ledger_got_, x_ledger_isKnown_, x_ledger_paper_, x_ledger_paper_sums_words_, x_paper_sums_words_, x_images_]
def D_s (m a : cw_M) : Prop := ∀ c, (c ∈ D_X ∨ c < 33554432 ∨ m_ ≤ c) → a c = m c
theorem D_sr {m : cw_M} : D_s m m := fun _ _ => rfl
theorem D_st {m a b : cw_M} (h : D_s m a) (h2 : D_s a b) : D_s m b := fun c q => by rw [h2 c q, h c q]
theorem D_sp {m a : cw_M} {x i v : Int} (h : D_s m a) (hx : x ∉ D_X ∧ 33554432 ≤ x ∧ x < m_) : D_s m (cw_put a x i v) := fun c q => by
  rw [cw_put_ne (fun e => by rw [e] at q; rcases q with q | q | q; exact hx.1 q; omega; omega)]
  exact h c q
theorem D_sw {m a : cw_M} {x : Int} {f : Int → Int} (h : D_s m a) (hx : x ∉ D_X ∧ 33554432 ≤ x ∧ x < m_) : D_s m (cw_row a x f) := fun c q => by
  rw [cw_row_ne (fun e => by rw [e] at q; rcases q with q | q | q; exact hx.1 q; omega; omega)]
  exact h c q
theorem D_sc {m a : cw_M} {x sp y yp k : Int} (h : D_s m a) (hx : y ∉ D_X ∧ 33554432 ≤ y ∧ y < m_) : D_s m (cw_cpy a x sp y yp k) := fun c q => by
  rw [cw_cpy_ne (fun e => by rw [e] at q; rcases q with q | q | q; exact hx.1 q; omega; omega)]
  exact h c q
theorem D_sh {m a : cw_M} (h : D_s m a) : ∀ c, h_c c → a c = m c := by
  intro c q
  have z : m_ < 130023424 := by decide
  unfold h_c at q
  exact h c (Or.inr (Or.inr (by omega)))
theorem D_sm {m a : cw_M} (h : D_s m a) {c : Int} (hc : m_ ≤ c) : a c = m c := h c (Or.inr (Or.inr hc))
theorem D_sk {m a : cw_M} (h : D_s m a) (hk : la_k m) : la_k a := ⟨fun c x y z => by rw [h c (Or.inr (Or.inl y))]; exact hk.1 c x y z, fun j x y => by rw [D_sm h (by decide)]; exact hk.2 j x y⟩
theorem D_sN {n sc : Int} {S : Int → Int} {m a : cw_M} (hs : sc < 33554432) (h : D_s m a) (hN : J_N n sc S m) : J_N n sc S a := by
  unfold J_N at hN ⊢
  rw [h sc (Or.inr (Or.inl hs)), h (-1) (Or.inr (Or.inl (by decide)))]
  exact hN
theorem D_sS {m a : cw_M} {K K' : Int → Int} (h : D_s m a) (hZ : Z_c m K) (h18 : a x_ 18 = 1) (h19 : a x_ 19 = 1) : Z_c a K' := by
  refine ⟨⟨?_, Or.inr h18, fun q => absurd (q.symm.trans h18) (by decide)⟩, fun i q => ?_, Or.inr h19, fun q => absurd (q.symm.trans h19) (by decide)⟩
  · rw [h x_forest_ (Or.inl (by decide)), h x_forest_deep_ (Or.inl (by decide)), h x_forest_above_ (Or.inl (by decide))]; exact hZ.1.1
  · rw [h x_ledger_paper_sums_words_ (Or.inl (by decide)), h x_paper_sums_words_ (Or.inl (by decide))]; exact hZ.2.1 i q
theorem D_s2 {m a : cw_M} {K K' : Int → Int} (h : D_s m a) (hZ : Z_c m K) (h18 : a x_ 18 = m x_ 18) (h19 : a x_ 19 = 1) (h6 : K' 46 = K 46) (hm : ∀ i, 0 ≤ i → i < 6 → K' i = K i) (hn : 0 ≤ K 46 ∧ K 46 ≤ 7) : Z_c a K' := by
  refine ⟨S_cK (S_ce hZ.1 (h _ (Or.inl (by decide))) (h _ (Or.inl (by decide))) (h _ (Or.inl (by decide))) (h _ (Or.inl (by decide))) h18) h6 hm hn, fun i q => ?_, Or.inr h19, fun q => absurd (q.symm.trans h19) (by decide)⟩
  rw [h x_ledger_paper_sums_words_ (Or.inl (by decide)), h x_paper_sums_words_ (Or.inl (by decide))]; exact hZ.2.1 i q
theorem D_s3 {m a : cw_M} {K K' : Int → Int} (h : D_s m a) (hZ : Z_c m K) (h18 : a x_ 18 = m x_ 18) (h19 : a x_ 19 = m x_ 19) (hl : a x_will_lawAt_ = m x_will_lawAt_) (hp : K_p K K') (hm : ∀ i, 0 ≤ i → i < 6 → K' i = K i) (hn : 0 ≤ K 46 ∧ K 46 ≤ 7) : Z_c a K' := by
  refine Z_cK (K := K) ⟨S_ce hZ.1 (h _ (Or.inl (by decide))) (h _ (Or.inl (by decide))) (h _ (Or.inl (by decide))) (h _ (Or.inl (by decide))) h18, fun i q => ?_, by rw [h19]; exact hZ.2.2.1, fun q => ?_⟩ hp hm hn
  · rw [h x_ledger_paper_sums_words_ (Or.inl (by decide)), h x_paper_sums_words_ (Or.inl (by decide))]; exact hZ.2.1 i q
  · rw [h19] at q
    exact L_ce (hZ.2.2.2 q) (h _ (Or.inl (by decide))) (h _ (Or.inl (by decide))) (h _ (Or.inl (by decide))) (h _ (Or.inl (by decide))) (D_sh h) hl
theorem E_s1 {a : cw_M} {K : Int → Int} (h : a x_settler_ 0 = -1) : E_s a K := Or.inl h
theorem E_s2 {m a : cw_M} {K K' : Int → Int} (hE : E_s m K) (h1 : a x_settler_ = m x_settler_) (h2 : a x_settler_trial_ = m x_settler_trial_) (hp : K_p K K') (hm : ∀ i, 0 ≤ i → i < 6 → K' i = K i) (hn : 0 ≤ K 46 ∧ K 46 ≤ 7) : E_s a K' := by
  refine E_sK (K := K) ?_ hp hm hn
  unfold E_s at hE ⊢
  rw [h1, h2]
  exact hE
theorem K_pr {K : Int → Int} : K_p K K := ⟨fun _ _ _ => rfl, rfl, rfl, rfl, rfl, rfl, Int.le_refl _⟩
theorem W_mr {a : cw_M} {K : Int → Int} {nm lv jd td lw fc : Int} {ow kd mk tr hd of mu la : Int → Int} (h0 : a x_will_ 0 = nm) (h4 : a x_will_ 4 = lv) (h6 : a x_will_ 6 = jd) (h8 : a x_will_ 8 = td) (h11 : a x_will_ 11 = lw) (h13 : a x_will_ 13 = fc) (ho : a x_will_owner_ = ow) (hk : a x_will_kinds_ = kd) (hm : a x_will_marks_ = mk) (ht : a x_will_terms_ = tr) (hh : a x_will_held_ = hd) (hf : a x_will_toldOf_ = of) (hu : a x_will_toldMuch_ = mu) (hl : a x_will_lawAt_ = la) (h : W_q nm lv jd td lw fc ow kd mk tr hd of mu la a K) : W_r a K := by
  unfold W_r
  rw [h0, h4, h6, h8, h11, h13, ho, hk, hm, ht, hh, hf, hu, hl]
  exact h
theorem j_Hd {m a : cw_M} {K K' has im : Int → Int} (h : D_s m a) (h9 : K' 49 = K 49) (hl : a x_will_lawAt_ = m x_will_lawAt_) (hH : j_H m K has im) : j_H a K' has im := by
  have z := j_He (D_sh h) (h (-1) (Or.inr (Or.inl (by decide)))) (h x_images_ (Or.inl (by decide))) hl hH
  obtain ⟨c0, c1, h1, h2, h3, h4, h5⟩ := z
  exact ⟨c0, c1, h1, h2, h3, fun i x y => h4 i x (by rw [← h9]; exact y), h5⟩
/-- nothing can be undone any more -/
theorem j_G0 {n : Int} {wt wh ws : Int → Int} {un : Int} {L K : Int → Int} (h : n = 0) (h2 : un = 0) : j_G n wt wh ws un L K := ⟨⟨by omega, by omega, by omega⟩, fun i a b => by omega⟩
/-- what isn't marks, turns, deaths, years may change -/
theorem j_GK {n : Int} {wt wh ws : Int → Int} {un : Int} {L K K' : Int → Int} (hG : j_G n wt wh ws un L K) (h : ∀ x, 0 ≤ x → x < 19 → K' x = K x) : j_G n wt wh ws un L K' := by
  refine ⟨hG.1, fun i a b => ?_⟩
  obtain ⟨⟨q1, q2, q2b, q3⟩, q4, q5⟩ := hG.2 i a b
  exact ⟨⟨q1, q2, q2b, q3⟩, q4, fun x c d => by rw [q5 x c d, h x c d]⟩
theorem rf_F {a : cw_M} {k : Int} : F_m a (rf_m a k) := F_mt (F_mp (by decide)) (F_mp (by decide))
theorem gd_F {a : cw_M} : F_m a (gd_m a) := F_mp (by decide)
theorem kr_F {a : cw_M} {K : Int → Int} : F_m a (kr_m a K) := F_mw (by decide)
theorem sd_F {a : cw_M} : F_m a (sd_m a) := F_mt (F_mp (by decide)) (F_mp (by decide))
theorem J_Br {n : Int} {a : cw_M} {k : Int} (hk : 1 ≤ k ∧ k ≤ 6) (h : J_B n a) : J_B (n + 1) (rf_m a (-k)) := by
  refine ⟨h.1, fun i x y => ?_⟩
  have z := h.2 i x y
  have z2 := h.2 k (by omega) (by omega)
  show 0 ≤ cw_put (cw_put a m_ 0 (-k)) m_refused_ (-(-k)) (a m_refused_ (-(-k)) + 1) m_refused_ i ∧ _
  by_cases e : i = k
  · rw [show -(-k) = i by omega]
    show 0 ≤ cw_put (cw_put a m_ 0 (-k)) m_refused_ i (a m_refused_ i + 1) m_refused_ i ∧ cw_put (cw_put a m_ 0 (-k)) m_refused_ (-(-k)) (a m_refused_ (-(-k)) + 1) m_refused_ i ≤ n + 1
    rw [show -(-k) = i by omega, cw_put_eq]; omega
  · show 0 ≤ cw_put (cw_put a m_ 0 (-k)) m_refused_ (-(-k)) (a m_refused_ (-(-k)) + 1) m_refused_ i ∧ cw_put (cw_put a m_ 0 (-k)) m_refused_ (-(-k)) (a m_refused_ (-(-k)) + 1) m_refused_ i ≤ n + 1
    rw [cw_put_off (by omega), cw_put_ne (by decide)]; omega
theorem J_Bd {n : Int} {m a : cw_M} (h : D_s m a) (hB : J_B n m) : J_B n a := by
  unfold J_B at hB ⊢
  rw [D_sm h (show m_ ≤ m_words_ by decide), D_sm h (show m_ ≤ m_refused_ by decide)]
  exact hB
theorem cr_D {m : cw_M} {k i : Int} : D_s m (cr_m m k i) := D_sp (D_sp D_sr (by decide)) (by decide)
theorem J_r1 {n sc : Int} {S : Int → Int} {m : cw_M} (hn : n < 600) (hs : sc < 33554432) (hI : J_I n sc S m) : J_I (n + 1) sc S (rf_m (cr_m m (-1) 0) (-1)) := by
  obtain ⟨⟨h1, h2⟩, hA, hB, hC, hN⟩ := hI
  have hD := cr_D (m := m) (k := -1) (i := 0)
  have hm : (33554432 : Int) ≤ m_ := by decide
  obtain ⟨⟨r0, r1, r2, r3, r4⟩, s, t, dd, g, hh⟩ := hC
  refine J_up (by omega) (rf_ok (cr_ok h1)) rf_F rfl (D_sk hD h2) ?_ (J_Br (k := 1) (by decide) (J_Bd hD hB)) ?_ (J_Nm hn (D_sN hs hD hN))
  · show J_A (cr_m m (-1) 0) (m m_kept_)
    exact ⟨hA.1, W_mr rfl rfl rfl rfl rfl rfl rfl rfl rfl rfl rfl rfl rfl rfl (W_qe hA.2.1 (D_sh hD)), D_s3 hD hA.2.2.1 rfl rfl rfl K_pr (fun _ _ _ => rfl) hA.1.1, E_s2 hA.2.2.2 rfl rfl K_pr (fun _ _ _ => rfl) hA.1.1⟩
  · exact ⟨⟨(congrArg (· + 1) r0), r1, r2, r3, r4⟩, ⟨rfl, s.2⟩, t, dd, g, j_Hd hD rfl rfl hh⟩
theorem J_r2 {n sc : Int} {S : Int → Int} {m : cw_M} (hn : n < 600) (hs : sc < 33554432) (hI : J_I n sc S m) : J_I (n + 1) sc S (rf_m (cr_m m (-2) 1) (-2)) := by
  obtain ⟨⟨h1, h2⟩, hA, hB, hC, hN⟩ := hI
  have hD := cr_D (m := m) (k := -2) (i := 1)
  have hm : (33554432 : Int) ≤ m_ := by decide
  obtain ⟨⟨r0, r1, r2, r3, r4⟩, s, t, dd, g, hh⟩ := hC
  refine J_up (by omega) (rf_ok (cr_ok h1)) rf_F rfl (D_sk hD h2) ?_ (J_Br (k := 2) (by decide) (J_Bd hD hB)) ?_ (J_Nm hn (D_sN hs hD hN))
  · show J_A (cr_m m (-2) 1) (m m_kept_)
    exact ⟨hA.1, W_mr rfl rfl rfl rfl rfl rfl rfl rfl rfl rfl rfl rfl rfl rfl (W_qe hA.2.1 (D_sh hD)), D_s3 hD hA.2.2.1 rfl rfl rfl K_pr (fun _ _ _ => rfl) hA.1.1, E_s2 hA.2.2.2 rfl rfl K_pr (fun _ _ _ => rfl) hA.1.1⟩
  · exact ⟨⟨r0, (congrArg (· + 1) r1), r2, r3, r4⟩, ⟨rfl, s.2⟩, t, dd, g, j_Hd hD rfl rfl hh⟩
theorem J_r3 {n sc : Int} {S : Int → Int} {m : cw_M} (hn : n < 600) (hs : sc < 33554432) (hI : J_I n sc S m) : J_I (n + 1) sc S (rf_m (cr_m m (-3) 2) (-3)) := by
  obtain ⟨⟨h1, h2⟩, hA, hB, hC, hN⟩ := hI
  have hD := cr_D (m := m) (k := -3) (i := 2)
  have hm : (33554432 : Int) ≤ m_ := by decide
  obtain ⟨⟨r0, r1, r2, r3, r4⟩, s, t, dd, g, hh⟩ := hC
  refine J_up (by omega) (rf_ok (cr_ok h1)) rf_F rfl (D_sk hD h2) ?_ (J_Br (k := 3) (by decide) (J_Bd hD hB)) ?_ (J_Nm hn (D_sN hs hD hN))
  · show J_A (cr_m m (-3) 2) (m m_kept_)
    exact ⟨hA.1, W_mr rfl rfl rfl rfl rfl rfl rfl rfl rfl rfl rfl rfl rfl rfl (W_qe hA.2.1 (D_sh hD)), D_s3 hD hA.2.2.1 rfl rfl rfl K_pr (fun _ _ _ => rfl) hA.1.1, E_s2 hA.2.2.2 rfl rfl K_pr (fun _ _ _ => rfl) hA.1.1⟩
  · exact ⟨⟨r0, r1, (congrArg (· + 1) r2), r3, r4⟩, ⟨rfl, s.2⟩, t, dd, g, j_Hd hD rfl rfl hh⟩
theorem J_r5 {n sc : Int} {S : Int → Int} {m : cw_M} (hn : n < 600) (hs : sc < 33554432) (hI : J_I n sc S m) : J_I (n + 1) sc S (rf_m (cr_m m (-5) 3) (-5)) := by
  obtain ⟨⟨h1, h2⟩, hA, hB, hC, hN⟩ := hI
  have hD := cr_D (m := m) (k := -5) (i := 3)
  have hm : (33554432 : Int) ≤ m_ := by decide
  obtain ⟨⟨r0, r1, r2, r3, r4⟩, s, t, dd, g, hh⟩ := hC
  refine J_up (by omega) (rf_ok (cr_ok h1)) rf_F rfl (D_sk hD h2) ?_ (J_Br (k := 5) (by decide) (J_Bd hD hB)) ?_ (J_Nm hn (D_sN hs hD hN))
  · show J_A (cr_m m (-5) 3) (m m_kept_)
    exact ⟨hA.1, W_mr rfl rfl rfl rfl rfl rfl rfl rfl rfl rfl rfl rfl rfl rfl (W_qe hA.2.1 (D_sh hD)), D_s3 hD hA.2.2.1 rfl rfl rfl K_pr (fun _ _ _ => rfl) hA.1.1, E_s2 hA.2.2.2 rfl rfl K_pr (fun _ _ _ => rfl) hA.1.1⟩
  · exact ⟨⟨r0, r1, r2, (congrArg (· + 1) r3), r4⟩, ⟨rfl, s.2⟩, t, dd, g, j_Hd hD rfl rfl hh⟩
theorem J_r6 {n sc : Int} {S : Int → Int} {m : cw_M} (hn : n < 600) (hs : sc < 33554432) (hI : J_I n sc S m) : J_I (n + 1) sc S (rf_m (cr_m m (-6) 4) (-6)) := by
  obtain ⟨⟨h1, h2⟩, hA, hB, hC, hN⟩ := hI
  have hD := cr_D (m := m) (k := -6) (i := 4)
  have hm : (33554432 : Int) ≤ m_ := by decide
  obtain ⟨⟨r0, r1, r2, r3, r4⟩, s, t, dd, g, hh⟩ := hC
  refine J_up (by omega) (rf_ok (cr_ok h1)) rf_F rfl (D_sk hD h2) ?_ (J_Br (k := 6) (by decide) (J_Bd hD hB)) ?_ (J_Nm hn (D_sN hs hD hN))
  · show J_A (cr_m m (-6) 4) (m m_kept_)
    exact ⟨hA.1, W_mr rfl rfl rfl rfl rfl rfl rfl rfl rfl rfl rfl rfl rfl rfl (W_qe hA.2.1 (D_sh hD)), D_s3 hD hA.2.2.1 rfl rfl rfl K_pr (fun _ _ _ => rfl) hA.1.1, E_s2 hA.2.2.2 rfl rfl K_pr (fun _ _ _ => rfl) hA.1.1⟩
  · exact ⟨⟨r0, r1, r2, r3, (congrArg (· + 1) r4)⟩, ⟨rfl, s.2⟩, t, dd, g, j_Hd hD rfl rfl hh⟩
