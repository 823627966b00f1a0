/-! A law, by both (wip/whole/tools/m166.py). -/
theorem J_UU {n sc : Int} {S : Int → Int} {m b : cw_M} (hs : sc < 33554432) (hI : J_I n sc S m) (hb : la_ok b) (hU : U_s m b) : J_I n sc S b := by
  obtain ⟨⟨h1, h2⟩, hA, hB, hC, hN⟩ := hI
  have hmm : (33554432 : Int) ≤ m_ := by decide
  exact J_up (by omega) hb (F_mU hU) (hU.1 _ (by decide) (by decide)) h2 (by rw [hU.1 _ (by decide) (by decide)]; exact hA) (J_BU hU hB) (J_CU hU hC) hN
/-- what was made before is as it was -/
def hp_F (m A : cw_M) : Prop := (∀ z, h_c z → z < m (-1) 0 * 1048576 → A z = m z) ∧ m (-1) 0 ≤ A (-1) 0
theorem hp_x {m A : cw_M} {c0 c1 x : Int} (hF : hp_F m A) (h : j_x (m (-1) 0) c0 c1 x) : A x = m x := hF.1 x h.1.1 h.1.2
theorem hp_t {m A : cw_M} {c0 c1 T : Int} {Ks : List p_K} (hF : hp_F m A) (h : j_t m c0 c1 T) (hT : T_l m T Ks) : T_l A T Ks := T_lf hT (hp_x hF h.1) (hp_x hF h.2.1) (hp_x hF h.2.2.1) (hp_x hF h.2.2.2.1) (hp_x hF h.2.2.2.2)
theorem hp_jx {N N' c0 c1 x : Int} (hN : N ≤ N') (h : j_x N c0 c1 x) : j_x N' c0 c1 x := ⟨⟨h.1.1, by have := h.1.2; omega⟩, h.2⟩
theorem hp_jt {m A : cw_M} {c0 c1 T : Int} (hF : hp_F m A) (h : j_t m c0 c1 T) : j_t A c0 c1 T := by
  unfold j_t
  rw [hp_x hF h.1]
  exact ⟨hp_jx hF.2 h.1, hp_jx hF.2 h.2.1, hp_jx hF.2 h.2.2.1, hp_jx hF.2 h.2.2.2.1, hp_jx hF.2 h.2.2.2.2⟩
theorem hp_o {m A : cw_M} {c0 c1 c' J has : Int} {K : Int → Int} (hF : hp_F m A) (h : j_i m c0 c1 c' J has K) : j_i A c0 c1 c' J has K := by
  rcases h with h | ⟨h1, h2, h3, h4, h5, h6, h7⟩
  · exact Or.inl h
  · have w := h3
    unfold j_w at w
    have rg : ∀ b n t, 0 ≤ b → b ≤ 8 → (0 ≤ n ∧ n < 16384) → (0 ≤ t ∧ t < 64) → A (j_cd (c' + b) n t) = m (j_cd (c' + b) n t) := fun b n t a1 a2 a3 a4 => by
      have r := cd_r (c := c' + b) a3 a4
      exact hF.1 _ (by unfold h_c; omega) (by omega)
    have eJ : A J = m J := by
      have z := rg 0 14 9 (by decide) (by decide) (by decide) (by decide)
      rw [Int.add_zero, ← w.1] at z
      exact z
    have e1 : A (m J 1) = m (m J 1) := by rw [w.2.1]; exact rg 1 7 40 (by decide) (by decide) (by decide) (by decide)
    have e2 : A (m J 2) = m (m J 2) := by rw [w.2.2.1]; exact rg 2 6 40 (by decide) (by decide) (by decide) (by decide)
    have e3 : A (m J 3) = m (m J 3) := by rw [w.2.2.2.1]; exact rg 3 6 40 (by decide) (by decide) (by decide) (by decide)
    have e5 : A (m J 5) = m (m J 5) := by rw [w.2.2.2.2.1]; exact rg 4 4 40 (by decide) (by decide) (by decide) (by decide)
    have e7 : A (m J 7) = m (m J 7) := by rw [w.2.2.2.2.2.1]; exact rg 5 5 40 (by decide) (by decide) (by decide) (by decide)
    have e9 : A (m J 9) = m (m J 9) := by rw [w.2.2.2.2.2.2.1]; exact rg 6 6 40 (by decide) (by decide) (by decide) (by decide)
    have e10 : A (m J 10) = m (m J 10) := by rw [w.2.2.2.2.2.2.2.1]; exact rg 7 6 40 (by decide) (by decide) (by decide) (by decide)
    have e12 : A (m J 12) = m (m J 12) := by rw [w.2.2.2.2.2.2.2.2]; exact rg 8 6 44 (by decide) (by decide) (by decide) (by decide)
    have hN := hF.2
    refine Or.inr ⟨⟨h1.1, by omega⟩, h2, by unfold j_w; rw [eJ]; exact h3, ?_, h5, fun i x y => ?_, by rw [eJ, e12]; exact h7⟩
    · unfold j_q at h4 ⊢
      rw [eJ, e1, e2, e3, e5, e7, e9, e10, e12]
      exact W_qt h4 (fun i a b h => hp_t hF (h6 i a b) h)
    · rw [eJ, e12]
      exact hp_jt hF (h6 i x y)
/-- the text that was made tells what was read -/
theorem T_ln {M A : cw_M} {N z : Int} {Ks : List p_K} (hN : 124 ≤ N) (hX : X_t false M Ks) (hz : z = M x_reader_text_ 1) (rT : ∀ i ∈ [(0 : Int), 1, 2, 3, 4, 5, 6, 7], A (j_cd N 8 8) i = ts_f N (Ks.length : Int) z i) (rr : ∀ k ∈ [(7 : Int), 6, 5, 4, 3, 2], ∀ i, 0 ≤ i → i < ts_n (Ks.length : Int) z k → A (ts_f N (Ks.length : Int) z k) i = M (ts_S k) i) : T_l A (j_cd N 8 8) Ks := by
  obtain ⟨h1, h2, h3, h4, h5⟩ := hX
  have r8 := cd_r (c := N) (n := 8) (t := 8) (by decide) (by decide)
  have tr := fun k (hk : 2 ≤ k ∧ k ≤ 7) => ts_r (c := N) (n := (Ks.length : Int)) (z := z) (k := k) (by omega) (by omega) hk
  have t0 : A (j_cd N 8 8) 0 = (Ks.length : Int) := rT 0 (by decide)
  have t1 : A (j_cd N 8 8) 1 = z := rT 1 (by decide)
  have hh : ∀ k, 2 ≤ k ∧ k ≤ 7 → h_a (ts_f N (Ks.length : Int) z k) (ts_n (Ks.length : Int) z k) := fun k hk => ⟨(tr k hk).2.2.1, by rw [(tr k hk).2.2.2.1]; exact Int.le_refl _, by unfold h_c; have := (tr k hk).1; omega⟩
  refine ⟨⟨r8.2.2.1, by unfold h_c; omega⟩, ⟨by rw [t1, hz]; exact h3, t0, h5⟩, ⟨by rw [rT 2 (by decide)]; exact hh 2 (by decide), by rw [rT 3 (by decide)]; exact hh 3 (by decide), by rw [rT 5 (by decide)]; exact hh 5 (by decide), by rw [rT 7 (by decide), t1]; exact hh 7 (by decide)⟩, ⟨A (ts_f N (Ks.length : Int) z 4), A (ts_f N (Ks.length : Int) z 6), ?_⟩, ?_⟩
  · rw [rT 7 (by decide), rT 2 (by decide), rT 3 (by decide), rT 5 (by decide), t1]
    rw [← hz] at h1
    exact e_clsp h1 (fun j a b => rr 7 (by decide) j a b) (fun j a b => ⟨rr 2 (by decide) j a b, rr 3 (by decide) j a b, rr 4 (by decide) j a b, rr 5 (by decide) j a b, rr 6 (by decide) j a b⟩)
  · rw [rT 7 (by decide), t1]
    intro j a b
    rw [rr 7 (by decide) j a b]
    exact h2 j a (by rw [← hz]; exact b)
theorem J_lawok {n sc : Int} {S : Int → Int} {m M X A : cw_M} {tk : Int} {cd vl : Int → Int} {Ks : List p_K} (hn : n < 600) (hs : 0 < sc ∧ sc < 33554432) (hI : J_I n sc S m) (h6 : m x_will_ 11 < 6) (hKn : K_n (m x_reader_bytes_) (m m_ 13) tk) (hcd : ∀ i, 0 ≤ i → i ≤ tk → cd i = k_C (m x_reader_bytes_) (m m_ 13) i ∧ vl i = k_V (m x_reader_bytes_) (m m_ 13) i) (hp : p_all (k_C (m x_reader_bytes_) (m m_ 13)) (k_V (m x_reader_bytes_) (m m_ 13)) false tk = .ok Ks) (hM : la_ok M) (hXp : X_p m M (-1)) (hXt : X_t false M Ks) (okX : la_ok X) (hN1 : X (-1) 0 = m (-1) 0 + 7) (hs1 : X (-1) 1 = m (-1) 1 + 8 + (5 * (Ks.length : Int) + M x_reader_text_ 1)) (fr : ∀ z, z ≠ -1 → z ≠ -2 → z < M (-1) 0 * 1048576 → X z = M z) (rT : ∀ i ∈ [(0 : Int), 1, 2, 3, 4, 5, 6, 7], X (j_cd (M (-1) 0) 8 8) i = ts_f (M (-1) 0) (Ks.length : Int) (M x_reader_text_ 1) i) (rr : ∀ k ∈ [(7 : Int), 6, 5, 4, 3, 2], ∀ i, 0 ≤ i → i < ts_n (Ks.length : Int) (M x_reader_text_ 1) k → X (ts_f (M (-1) 0) (Ks.length : Int) (M x_reader_text_ 1) k) i = M (ts_S k) i) (eA : A = (cw_put (cw_put (cw_put X x_will_lawAt_ (m x_will_ 11) (j_cd (M (-1) 0) 8 8)) x_will_ 11 (m x_will_ 11 + 1)) x_ 16 0)) : J_I (n + 1) sc S (gd_m (kr_m (rd_m A (-1)) (k_law (m m_kept_) tk cd vl))) := by
  obtain ⟨⟨h1, h2⟩, hA, hB, hC, hNn⟩ := hI
  have hK := hA.1
  have hW := hA.2.1
  have hZ := hA.2.2.1
  have hmm : (33554432 : Int) ≤ m_ := by decide
  have n1 := hNn.2.2.1
  have k9 := hK.2.2.2.2.2.2.2.2.2.2.2.1
  have k50 := hK.2.2.2.2.2.2.2.2.2.2.2.2.1
  have e11 : m x_will_ 11 = m m_kept_ 49 := hW.2.2.2.2.2.2.2.2.2.2.1
  have hT := hC.2.2.1
  have tl : 0 ≤ tk ∧ tk ≤ 400 := by have := hKn.1; have := hT.1; have := hT.2.1; omega
  have h400 : m m_ 13 ≤ 400 := by have := hT.1; have := hT.2.1; omega
  have eN : M (-1) = m (-1) := X_pn hXp (by decide)
  have eN0 : M (-1) 0 = m (-1) 0 := by rw [eN]
  have sm : 0 < x_ ∧ 0 < x_will_ ∧ 0 < x_will_lawAt_ ∧ x_ < 130023424 ∧ x_will_ < 130023424 ∧ x_will_lawAt_ < 130023424 := by decide
  have aX : ∀ z, z ∉ [x_, x_will_, x_will_lawAt_] → A z = X z := fun z q => by rw [eA, cw_put_ne (U_n q (by decide)), cw_put_ne (U_n q (by decide)), cw_put_ne (U_n q (by decide))]
  have aXh : ∀ z, 130023424 ≤ z → A z = X z := fun z q => by rw [eA, cw_put_ne (by omega), cw_put_ne (by omega), cw_put_ne (by omega)]
  have aM : ∀ z, (0 < z ∧ z < 130023424) → z ∉ [x_, x_will_, x_will_lawAt_] → z ∉ X_L → A z = m z := fun z a b c => by rw [aX z b, fr z (by omega) (by omega) (by omega), X_pn hXp c]
  have xl : ∀ y ∈ X_L, y < 130023424 := by decide
  have aN : A (-1) = X (-1) := by rw [eA, cw_put_ne (by decide), cw_put_ne (by decide), cw_put_ne (by decide)]
  have hF : hp_F m A := ⟨fun z a b => by
    unfold h_c at a
    rw [aXh z a, fr z (by omega) (by omega) (by omega), X_pn hXp (fun q => by have := xl z q; omega)], by rw [aN, hN1]; omega⟩
  have axj : ∀ j, j ≠ 16 → A x_ j = m x_ j := fun j q => by rw [eA, cw_put_off q, cw_put_ne (by decide), cw_put_ne (by decide), fr x_ (by omega) (by omega) (by omega), X_pn hXp (by decide)]
  have awj : ∀ j, j ≠ 11 → A x_will_ j = m x_will_ j := fun j q => by rw [eA, cw_put_ne (by decide), cw_put_off q, cw_put_ne (by decide), fr x_will_ (by omega) (by omega) (by omega), X_pn hXp (by decide)]
  have aw11 : A x_will_ 11 = m m_kept_ 49 + 1 := by rw [eA, ← e11]; rfl
  have al : A x_will_lawAt_ = cw_up (m x_will_lawAt_) (m m_kept_ 49) (j_cd (M (-1) 0) 8 8) := by rw [eA, cw_put_ne (by decide), cw_put_ne (by decide), cw_put_r, fr x_will_lawAt_ (by omega) (by omega) (by omega), X_pn hXp (by decide), e11]
  have okA : la_ok A := by rw [eA]; exact la_put (la_put (la_put okX (by decide) (Or.inr (by decide))) (by decide) (Or.inl rfl)) (by decide) (Or.inl rfl)
  have w := k_lw (K := m m_kept_) (cd := cd) (vl := vl) (tk := tk) ⟨k9.1, by omega⟩ tl
  have ln := k_lnew hK (by omega) h400 hKn hcd hp
  have lo := fun t ht => k_lks (K := m m_kept_) (cd := cd) (vl := vl) (tk := tk) (t := t) hK (by omega) tl ht
  have kp : K_p (m m_kept_) (k_law (m m_kept_) tk cd vl) := by
    refine ⟨fun i a b => w.1 i (by omega) (by omega), w.1 43 (by decide) (by decide), w.1 44 (by decide) (by decide), w.1 46 (by decide) (by decide), w.1 50 (by decide) (by decide), ?_, by rw [w.2.1]; omega⟩
    rw [w.1 50 (by decide) (by decide)]
    unfold l_fo
    by_cases q : m m_kept_ 50 = -1
    · rw [if_pos q, if_pos q]
    · rw [if_neg q, if_neg q]; exact (lo _ ⟨by omega, k50.2⟩).1
  have mk6 : ∀ i, 0 ≤ i → i < 19 → (k_law (m m_kept_) tk cd vl) i = m m_kept_ i := fun i a b => w.1 i (by omega) (by omega)
  obtain ⟨c0, c1, hd, i0, i1, ht, hv⟩ := hC.2.2.2.2.2
  have r8 := cd_r (c := M (-1) 0) (n := 8) (t := 8) (by decide) (by decide)
  have tN : T_l A (j_cd (M (-1) 0) 8 8) Ks := T_ln (by omega) hXt rfl (fun i hi => by rw [aXh _ (by omega)]; exact rT i hi) (fun k hk i a b => by
    have kr : 2 ≤ k ∧ k ≤ 7 := (show ∀ k ∈ [(7 : Int), 6, 5, 4, 3, 2], 2 ≤ k ∧ k ≤ 7 by decide) k hk
    have r := ts_r (c := M (-1) 0) (n := (Ks.length : Int)) (z := M x_reader_text_ 1) (k := k) (by have := hXt.2.2.2.2; omega) (by have := hXt.2.2.1; omega) kr
    rw [aXh _ (by omega)]
    exact rr k hk i a b)
  have o0 : c0 = -100 ∨ c0 + 8 < m (-1) 0 := i0.elim (fun z => Or.inl z.1) (fun z => Or.inr z.1.2)
  have o1 : c1 = -100 ∨ c1 + 8 < m (-1) 0 := i1.elim (fun z => Or.inl z.1) (fun z => Or.inr z.1.2)
  have jx : ∀ x, (m (-1) 0 ≤ cw_ce x ∧ cw_ce x < m (-1) 0 + 7) → j_x (A (-1) 0) c0 c1 x := fun x q => by
    rw [aN, hN1]
    unfold cw_ce at q
    refine ⟨⟨by unfold h_c; omega, by omega⟩, ?_, ?_⟩ <;> unfold cw_ce <;> omega
  have jT : j_t A c0 c1 (j_cd (M (-1) 0) 8 8) := by
    have ts := fun k (hk : 2 ≤ k ∧ k ≤ 7) => ts_r (c := M (-1) 0) (n := (Ks.length : Int)) (z := M x_reader_text_ 1) (k := k) (by have := hXt.2.2.2.2; omega) (by have := hXt.2.2.1; omega) hk
    have aT : ∀ i ∈ [(0 : Int), 1, 2, 3, 4, 5, 6, 7], A (j_cd (M (-1) 0) 8 8) i = ts_f (M (-1) 0) (Ks.length : Int) (M x_reader_text_ 1) i := fun i hi => by rw [aXh _ (by omega)]; exact rT i hi
    unfold j_t
    rw [aT 2 (by decide), aT 3 (by decide), aT 5 (by decide), aT 7 (by decide)]
    exact ⟨jx _ (by rw [r8.2.2.2.2]; omega), jx _ (by rw [(ts 2 (by decide)).2.2.2.2]; omega), jx _ (by rw [(ts 3 (by decide)).2.2.2.2]; omega), jx _ (by rw [(ts 5 (by decide)).2.2.2.2]; omega), jx _ (by rw [(ts 7 (by decide)).2.2.2.2]; omega)⟩
  have hFm : F_m A (gd_m (kr_m (rd_m A (-1)) (k_law (m m_kept_) tk cd vl))) := F_mt (F_mt (F_mp (by decide)) (F_mp (by decide))) (F_mt kr_F gd_F)
  have hkA : la_k A := ⟨fun c x y z => by rw [aM c (by omega) (fun q => by have := (show ∀ t ∈ [x_, x_will_, x_will_lawAt_], 33554432 ≤ t by decide) c q; omega) (fun q => by have := (show ∀ t ∈ X_L, 33554432 ≤ t by decide) c q; omega)]; exact h2.1 c x y z, fun j x y => by rw [aM m_catalan_ (by decide) (by decide) (by decide)]; exact h2.2 j x y⟩
  have ek : A m_kept_ = m m_kept_ := aM _ (by decide) (by decide) (by decide)
  have em : A m_ = m m_ := aM _ (by decide) (by decide) (by decide)
  refine J_up (by omega) (gd_ok (kr_ok (la_put (la_put okA (by decide) (Or.inl rfl)) (by decide) (Or.inl rfl)))) hFm rfl hkA ⟨K_rl hK (by omega) h400 hKn hcd hp, ?_, ?_, ?_⟩ ?_ ⟨?_, ⟨?_, ?_, ?_, ?_⟩, ⟨?_, ?_, fun i a b => ?_⟩, ?_, ?_, ?_⟩ ⟨?_, ?_, ?_, ?_⟩
  · refine W_mr (awj 0 (by decide)) (awj 4 (by decide)) (awj 6 (by decide)) (awj 8 (by decide)) aw11 (awj 13 (by decide)) (aM _ (by decide) (by decide) (by decide)) (aM _ (by decide) (by decide) (by decide)) (aM _ (by decide) (by decide) (by decide)) (aM _ (by decide) (by decide) (by decide)) (aM _ (by decide) (by decide) (by decide)) (aM _ (by decide) (by decide) (by decide)) (aM _ (by decide) (by decide) (by decide)) al ?_
    show W_q _ _ _ _ _ _ _ _ _ _ _ _ _ _ A (k_law (m m_kept_) tk cd vl)
    obtain ⟨q1, q2, q3, q4, q5, q6, q7, q8, q9, qa, qb, qc, qe⟩ := hW
    have e := w.1
    refine ⟨by rw [e 46 (by decide) (by decide)]; exact q1, fun i a b => by rw [e _ (by omega) (by omega)]; exact q2 i a b, fun i a b => by rw [e _ (by omega) (by omega)]; exact q3 i a b, fun i a b => by rw [e _ (by omega) (by omega)]; exact q4 i a b, ⟨q5.1, fun i a b => by rw [e _ (by omega) (by omega)]; exact q5.2 i a b⟩, ⟨by rw [e 18 (by decide) (by decide)]; exact q6.1, by rw [e 43 (by decide) (by decide)]; exact q6.2.1, by rw [e 44 (by decide) (by decide)]; exact q6.2.2.1, by rw [e 45 (by decide) (by decide)]; exact q6.2.2.2⟩, by rw [e 47 (by decide) (by decide)]; exact q7, fun i a b => by rw [e _ (by omega) (by omega)]; exact q8 i a b, by rw [e 48 (by decide) (by decide)]; exact q9, fun i a b => by rw [e _ (by omega) (by omega), e _ (by omega) (by omega)]; exact qa i a b, by rw [w.2.1], by rw [e 50 (by decide) (by decide)]; exact qc, fun i a b => ?_⟩
    rw [w.2.1] at b
    by_cases q : i = m m_kept_ 49
    · rw [q, cw_up_eq, ln.1]; exact tN
    · rw [cw_up_ne q, (lo i ⟨a, by omega⟩).1]
      exact hp_t hF (ht i a (by omega)) (qe i a (by omega))
  · show Z_c A (k_law (m m_kept_) tk cd vl)
    have c9 := fun z (a : 0 < z ∧ z < 130023424) (b : z ∉ [x_, x_will_, x_will_lawAt_]) (c : z ∉ X_L) => aM z a b c
    refine ⟨S_cK (S_ce hZ.1 (c9 _ (by decide) (by decide) (by decide)) (c9 _ (by decide) (by decide) (by decide)) (c9 _ (by decide) (by decide) (by decide)) (c9 _ (by decide) (by decide) (by decide)) (axj 18 (by decide))) kp.2.2.2.1 (fun i a b => mk6 i a (by omega)) hK.1, fun i q => ?_, ?_, fun q => ?_⟩
    · rw [c9 x_ledger_paper_sums_words_ (by decide) (by decide) (by decide), c9 x_paper_sums_words_ (by decide) (by decide) (by decide)]; exact hZ.2.1 i q
    · rw [axj 19 (by decide)]; exact hZ.2.2.1
    · rw [axj 19 (by decide)] at q
      have hL := hZ.2.2.2 q
      have hL2 := L_cK hL kp hK.1
      unfold L_c at hL2 ⊢
      rw [c9 x_ledger_paper_ (by decide) (by decide) (by decide), c9 x_ledger_paper_sums_words_ (by decide) (by decide) (by decide), c9 x_ledger_isKnown_ (by decide) (by decide) (by decide), c9 x_ledger_got_ (by decide) (by decide) (by decide)]
      refine ⟨⟨hL2.1.1, ?_⟩, ?_, hL2.2.2⟩
      · rcases hL.1.2 with y | ⟨i, hi, y⟩
        · exact Or.inl y
        · exact Or.inr ⟨i, ⟨hi.1, by rw [w.2.1]; omega⟩, by rw [al, cw_up_ne (by omega)]; exact y⟩
      · rcases hL2.2.1 with z | z
        · exact Or.inl z
        · refine Or.inr ?_
          rcases hL.1.2 with y | ⟨i, hi, y⟩
          · exfalso
            have := z.1.1
            rw [y] at this
            exact absurd this (by decide)
          · exact hp_t hF (by rw [y]; exact ht i hi.1 hi.2) z
  · exact E_s2 hA.2.2.2 (aM _ (by decide) (by decide) (by decide)) (aM _ (by decide) (by decide) (by decide)) kp (fun i a b => mk6 i a (by omega)) hK.1
  · show k_tab (A m_words_) 0 k_WL ∧ ∀ k, 0 ≤ k → k < 7 → 0 ≤ A m_refused_ k ∧ A m_refused_ k ≤ n + 1
    rw [aM m_words_ (by decide) (by decide) (by decide), aM m_refused_ (by decide) (by decide) (by decide)]
    exact J_Bm hB
  · show j_R (A x_refusals_) (A m_refused_); rw [aM x_refusals_ (by decide) (by decide) (by decide), aM m_refused_ (by decide) (by decide) (by decide)]; exact hC.1
  · rw [eA]; rfl
  · show A x_ 14 = A m_ 6; rw [axj 14 (by decide), em]; exact hC.2.1.2.1
  · show A x_ 15 = A m_ 45; rw [axj 15 (by decide), em]; exact hC.2.1.2.2.1
  · have xr : 0 < x_reader_ ∧ x_reader_ < 130023424 := by decide
    show A x_reader_ 2 = -1
    rw [aX x_reader_ (by decide), fr x_reader_ (by omega) (by omega) (by omega)]
    exact hXp.2.2
  · have xr : 0 < x_reader_ ∧ x_reader_ < 130023424 := by decide
    show A x_reader_ 1 = 0
    rw [aX x_reader_ (by decide), fr x_reader_ (by omega) (by omega) (by omega)]
    exact hXp.2.1
  · have xr : 0 < x_reader_ ∧ x_reader_ < 130023424 := by decide
    rw [aX x_reader_ (by decide), fr x_reader_ (by omega) (by omega) (by omega), hXp.2.1]; decide
  · have xr : 0 < x_reader_ ∧ x_reader_ < 130023424 := by decide
    rw [aX x_reader_ (by decide), fr x_reader_ (by omega) (by omega) (by omega), hXp.2.1] at b
    omega
  · show j_D (A x_ 17) (A m_ 53) (A m_drawnMoved_); rw [axj 17 (by decide), em, aM m_drawnMoved_ (by decide) (by decide) (by decide)]; exact hC.2.2.2.1
  · show j_G (A x_log_ 0) (A x_log_what_) (A x_log_where_) (A x_log_was_) (A m_ 44) (A m_left0_) (k_law (m m_kept_) tk cd vl)
    rw [aM x_log_ (by decide) (by decide) (by decide), aM x_log_what_ (by decide) (by decide) (by decide), aM x_log_where_ (by decide) (by decide) (by decide), aM x_log_was_ (by decide) (by decide) (by decide), em, aM m_left0_ (by decide) (by decide) (by decide)]
    exact j_GK hC.2.2.2.2.1 mk6
  · show j_H A (k_law (m m_kept_) tk cd vl) (A m_hasImage_) (A m_images_)
    rw [aM m_hasImage_ (by decide) (by decide) (by decide), aM m_images_ (by decide) (by decide) (by decide)]
    refine ⟨c0, c1, hd, by rw [aM x_images_ (by decide) (by decide) (by decide)]; exact hp_o hF i0, by rw [aM x_images_ (by decide) (by decide) (by decide)]; exact hp_o hF i1, fun i x y => ?_, fun i x y => ?_⟩
    · rw [w.2.1] at y
      rw [al]
      by_cases q : i = m m_kept_ 49
      · rw [q, cw_up_eq]; exact jT
      · rw [cw_up_ne q]; exact hp_jt hF (ht i x (by omega))
    · rw [al]
      by_cases q : i = m m_kept_ 49
      · rw [q, cw_up_eq]; exact Or.inr r8.2.2.1
      · rw [cw_up_ne q]; exact hv i x y
  · rw [aM sc (by omega) (fun q => by have := (show ∀ t ∈ [x_, x_will_, x_will_lawAt_], 33554432 ≤ t by decide) sc q; omega) (fun q => by have := (show ∀ t ∈ X_L, 33554432 ≤ t by decide) sc q; omega)]; exact hNn.1
  · have := hNn.2.1; omega
  · rw [aN, hN1]; omega
  · have := hNn.2.2.2
    have a := hXt.2.2.1
    have b := hXt.2.2.2.2
    rw [aN, hs1]; omega
theorem J_law {n sc : Int} {S : Int → Int} (hn : n < 600) (hs : sc < 33554432) (hs0 : 0 < sc) : J_P n sc S vi 200 k_C_law k_M_law [] := by
  intro m hI
  have hm := hI.1.1
  have hk := hI.1.2
  have hK := hI.2.1.1
  have hW := hI.2.1.2.1
  have hZ := hI.2.1.2.2.1
  have hE := hI.2.1.2.2.2
  have hB := hI.2.2.1
  have hC := hI.2.2.2.1
  have hr := J_rfb hn hB
  have hf := J_cfb hn hB hC
  have hT := hC.2.2.1
  have eT : m x_reader_ 1 = m m_ 13 := hT.1
  have e11 : m x_will_ 11 = m m_kept_ 49 := hW.2.2.2.2.2.2.2.2.2.2.1
  have k9 := hK.2.2.2.2.2.2.2.2.2.2.2.1
  have hNn := hI.2.2.2.2
  have n1 := hNn.2.2.1
  have n2 := hNn.2.2.2
  have n0 := hNn.2.1
  obtain ⟨tk, hKn⟩ := K_n0 (b := m x_reader_bytes_) (n := m x_reader_ 1) hT.2.1.1
  have hXh : X_h m tk := ⟨hk, hT.2.1, fun i a b => (hT.2.2 i a b).1, hKn⟩
  have ht13 : 0 ≤ m m_ 13 ∧ m m_ 13 ≤ 400 := by have := hT.2.1; omega
  have hpx : ∀ r, p_all (x_c m) (x_v m) false tk = r → p_all (k_C (m x_reader_bytes_) (m m_ 13)) (k_V (m x_reader_bytes_) (m m_ 13)) false tk = r := fun r q => by rw [← eT]; exact q
  rw [eT] at hKn
  have hb0 : ∀ i, 0 ≤ i → i < m m_ 13 → (0 ≤ m x_reader_bytes_ i ∧ m x_reader_bytes_ i ≤ 255) ∧ m m_tape_ i = cw_i2b (m x_reader_bytes_ i) := fun i a b => hT.2.2 i a (by omega)
  refine C_law hm hf hXh (by omega) (by omega) (fun q => ⟨cr_ok (la_put hm (by decide) (Or.inl rfl)), ?_, ⟨_, rfl⟩, ?_⟩) (fun er M q hM hXp hpa => ⟨cr_ok hM, ?_, ⟨_, rfl⟩, ?_⟩) (fun Ks M X q hM hXp hpa hXt okX hN1 hs1 fr rT rr => ?_)
  · exact J_sd hs hI (D_st (D_sp D_sr (by decide)) cr_D)
  · have hD : D_s m (cr_m (cw_put m x_reader_ 1 0) (-5) 3) := D_st (D_sp D_sr (by decide)) cr_D
    refine M_law (b := m x_reader_bytes_) (cr_ok (la_put hm (by decide) (Or.inl rfl))) (J_rfb hn (J_Bd hD hB)) hB.1 k9 ht13 hb0 (fun x => ⟨rfl, ?_⟩) (fun tk' e x => absurd (show m m_kept_ 49 < 6 from x) (by omega)) (fun tk' cd vl Ks x => absurd (show m m_kept_ 49 < 6 from x) (by omega))
    have z := J_r5 hn hs (J_t0 (l := 0) hs hI ⟨by decide, hT.2.1.1⟩)
    have e : cw_put (cr_m (cw_put m x_reader_ 1 0) (-5) 3) m_ 13 0 = cr_m (cw_put (cw_put m x_reader_ 1 0) m_ 13 0) (-5) 3 := by
      unfold cr_m
      rw [cw_pc (c := x_refusals_) (c' := m_) (by decide), cw_pc (c := x_) (c' := m_) (by decide)]
      rfl
    rw [e]
    exact z
  · exact J_sd hs hI (D_st (X_pD hXp) cr_D)
  · have hD : D_s m (cr_m M (-6) 4) := D_st (X_pD hXp) cr_D
    have xm := fun c (q : m_ ≤ c) => D_sm hD q
    have em := xm m_ (by decide)
    have ek := xm m_kept_ (by decide)
    refine M_law (b := m x_reader_bytes_) (cr_ok hM) (J_rfb hn (J_Bd hD hB)) (by rw [xm m_words_ (by decide)]; exact hB.1) (by rw [ek]; exact k9) (by rw [em]; exact ht13) (fun i a b => by rw [em] at b; rw [xm m_tape_ (by decide)]; exact hb0 i a b) (fun x => absurd (by rw [ek] at x; exact x) (by omega)) (fun tk' e x y z b hb hU => ⟨rfl, ?_⟩) (fun tk' cd vl Ks x y z w => ?_)
    · rw [em] at y z hU
      have et := K_n1 y hKn
      subst et
      have e1 := hpx _ hpa
      rw [z] at e1
      injection e1 with e2
      subst e2
      have w := J_r6 hn hs (J_rd hs hI hM hXp)
      rw [← cr_rd] at w
      refine J_UU hs w hb ?_
      have ef : k_P (m x_reader_bytes_) (m m_ 13) e = x_P m e := by rw [← eT]; try rfl
      rw [ef] at hU
      exact hU
    · exfalso
      rw [em] at y z w
      have et := K_n1 y hKn
      subst et
      have e1 := hpx _ hpa
      rw [w] at e1
      cases e1
  · have h6 : m x_will_ 11 < 6 := q
    have eA : (cw_put (cw_put (cw_put X x_will_lawAt_ (m x_will_ 11) (j_cd (M (-1) 0) 8 8)) x_will_ 11 (m x_will_ 11 + 1)) x_ 16 0) = (cw_put (cw_put (cw_put X x_will_lawAt_ (m x_will_ 11) (j_cd (M (-1) 0) 8 8)) x_will_ 11 (m x_will_ 11 + 1)) x_ 16 0) := rfl
    have okA : la_ok (cw_put (cw_put (cw_put X x_will_lawAt_ (m x_will_ 11) (j_cd (M (-1) 0) 8 8)) x_will_ 11 (m x_will_ 11 + 1)) x_ 16 0) := la_put (la_put (la_put okX (by decide) (Or.inr (by decide))) (by decide) (Or.inl rfl)) (by decide) (Or.inl rfl)
    have eN0 : M (-1) 0 = m (-1) 0 := by rw [X_pn hXp (by decide)]
    have aM : ∀ z, (0 < z ∧ z < 130023424) → z ∉ [x_, x_will_, x_will_lawAt_] → z ∉ X_L → (cw_put (cw_put (cw_put X x_will_lawAt_ (m x_will_ 11) (j_cd (M (-1) 0) 8 8)) x_will_ 11 (m x_will_ 11 + 1)) x_ 16 0) z = m z := fun z a b c => by rw [cw_put_ne (U_n b (by decide)), cw_put_ne (U_n b (by decide)), cw_put_ne (U_n b (by decide)), fr z (by omega) (by omega) (by omega), X_pn hXp c]
    have hBA : J_B n (cw_put (cw_put (cw_put X x_will_lawAt_ (m x_will_ 11) (j_cd (M (-1) 0) 8 8)) x_will_ 11 (m x_will_ 11 + 1)) x_ 16 0) := by
      unfold J_B at hB ⊢
      rw [aM m_words_ (by decide) (by decide) (by decide), aM m_refused_ (by decide) (by decide) (by decide)]
      exact hB
    have em := aM m_ (by decide) (by decide) (by decide)
    have ek := aM m_kept_ (by decide) (by decide) (by decide)
    refine ⟨okA, ?_, ⟨_, rfl⟩, ?_⟩
    · rw [aM sc (by omega) (fun q => by have := (show ∀ t ∈ [x_, x_will_, x_will_lawAt_], 33554432 ≤ t by decide) sc q; omega) (fun q => by have := (show ∀ t ∈ X_L, 33554432 ≤ t by decide) sc q; omega)]; exact J_s hI
    · refine M_law (b := m x_reader_bytes_) okA (J_rfb hn hBA) hBA.1 (by rw [ek]; exact k9) (by rw [em]; exact ht13) (fun i a b => by rw [em] at b; rw [aM m_tape_ (by decide) (by decide) (by decide)]; exact hb0 i a b) (fun x => absurd (by rw [ek] at x; exact x) (by omega)) (fun tk' e x y z => ?_) (fun tk' cd vl Ks' x y z w b hb hU => ?_)
      · exfalso
        rw [em] at y z
        have et := K_n1 y hKn
        subst et
        have e1 := hpx _ hpa
        rw [z] at e1
        cases e1
      · rw [em] at y z w
        rw [ek] at hU
        have et := K_n1 y hKn
        subst et
        have e1 := hpx _ hpa
        rw [w] at e1
        injection e1 with e2
        subst e2
        refine ⟨by rw [ek, e11], ?_⟩
        exact J_UU hs (J_lawok hn ⟨hs0, hs⟩ hI h6 y z w hM hXp hXt okX hN1 hs1 fr rT rr rfl) hb hU
