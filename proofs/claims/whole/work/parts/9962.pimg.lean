/-! An image is kept, by both: the pair (wip/whole/tools/m162.py). -/
theorem im_J {n sc : Int} {S : Int → Int} {m A : cw_M} {J c k c0 c1 : Int} (hn : n < 600) (hs : 0 < sc ∧ sc < 33554432) (hI : J_I n sc S m) (hk : 0 ≤ k ∧ k < 2) (hF : im_F m A c) (okA : la_ok A) (hN : m (-1) 0 ≤ A (-1) 0 ∧ A (-1) 0 ≤ m (-1) 0 + 9) (hS : 0 ≤ A (-1) 1 ∧ A (-1) 1 ≤ m (-1) 1 + 500) (hc8 : c + 8 < A (-1) 0) (hJ : A x_images_ k = J) (ho : ∀ j, j ≠ k → A x_images_ j = m x_images_ j) (hw : j_w A J c) (hq : j_q A J (m m_kept_)) (hlaw : ∀ i, 0 ≤ i → i < 6 → A (A J 12) i = m x_will_lawAt_ i) (i0 : j_i m c0 c1 c0 (m x_images_ 0) (m m_hasImage_ 0) (fun x => m m_images_ (5658 * 0 + x))) (i1 : j_i m c0 c1 c1 (m x_images_ 1) (m m_hasImage_ 1) (fun x => m m_images_ (5658 * 1 + x))) (ht : ∀ i, 0 ≤ i → i < m m_kept_ 49 → j_t m c0 c1 (m x_will_lawAt_ i)) (hv : j_v (m x_will_lawAt_)) (hc : ∀ x, j_x (m (-1) 0) c0 c1 x → x < c * 1048576 ∨ ((c + 9) * 1048576 ≤ x ∧ x < m (-1) 0 * 1048576)) (hcc0 : k = 0 → (c1 = -100 ∨ c1 + 8 < c ∨ c + 8 < c1)) (hcc1 : k = 1 → (c0 = -100 ∨ c0 + 8 < c ∨ c + 8 < c0)) : J_I (n + 1) sc S (gd_m (cw_put (im_m A (t_w (A m_images_) (5658 * k) 0 5658 (A m_kept_))) m_hasImage_ k 1)) := by
  obtain ⟨⟨h1, h2⟩, hA, hB, hC, hNn⟩ := hI
  have hK := hA.1
  have hmm : (33554432 : Int) ≤ m_ := by decide
  have l := fun z a b c => im_l (z := z) hF a b c
  obtain ⟨r, s, t, dd, g, -⟩ := hC
  have eK : A m_kept_ = m m_kept_ := l _ (by decide) (by decide) (by decide)
  have eI : A m_images_ = m m_images_ := l _ (by decide) (by decide) (by decide)
  have eH : A m_hasImage_ = m m_hasImage_ := l _ (by decide) (by decide) (by decide)
  have em : A m_ = m m_ := l _ (by decide) (by decide) (by decide)
  have okI : la_ok (im_m A (t_w (A m_images_) (5658 * k) 0 5658 (A m_kept_))) := im_ok okA
  have hFm : F_m A (gd_m (cw_put (im_m A (t_w (A m_images_) (5658 * k) 0 5658 (A m_kept_))) m_hasImage_ k 1)) := F_mt (F_mw (by decide)) (F_mt (F_mp (by decide)) gd_F)
  have hkA : la_k A := ⟨fun c x y z => by rw [l c (by omega) (fun e => by rw [e] at y; revert y; decide) (fun e => by rw [e] at y; revert y; decide)]; exact h2.1 c x y z, fun j x y => by rw [l m_catalan_ (by decide) (by decide) (by decide)]; exact h2.2 j x y⟩
  refine J_up (by omega) (gd_ok (la_put okI (by decide) (Or.inr (by decide)))) hFm rfl hkA ?_ ?_ ⟨?_, ⟨hF.2.1.1, ?_, ?_, ?_⟩, ?_, ?_, ?_, ?_⟩ ⟨?_, ?_, ?_, ?_⟩
  · show J_A A (A m_kept_)
    rw [eK]
    exact ⟨hK, im_W hF hc ht hA.2.1, im_Z hF hc ht hA.2.2.1, by
      have z := hA.2.2.2
      unfold E_s at z ⊢
      rw [l x_settler_ (by decide) (by decide) (by decide), l x_settler_trial_ (by decide) (by decide) (by decide)]
      exact z⟩
  · unfold J_B
    show k_tab (A m_words_) 0 k_WL ∧ ∀ k, 0 ≤ k → k < 7 → 0 ≤ A m_refused_ k ∧ A m_refused_ k ≤ n + 1
    rw [l m_words_ (by decide) (by decide) (by decide), l m_refused_ (by decide) (by decide) (by decide)]
    exact J_Bm hB
  · show j_R (A x_refusals_) (A m_refused_); rw [l x_refusals_ (by decide) (by decide) (by decide), l m_refused_ (by decide) (by decide) (by decide)]; exact r
  · show A x_ 14 = A m_ 6; rw [hF.2.1.2 14 (by decide), em]; exact s.2.1
  · show A x_ 15 = A m_ 45; rw [hF.2.1.2 15 (by decide), em]; exact s.2.2.1
  · show A x_reader_ 2 = A m_ 14; rw [l x_reader_ (by decide) (by decide) (by decide), em]; exact s.2.2.2
  · show j_T (A x_reader_ 1) (A x_reader_bytes_) (A m_ 13) (A m_tape_); rw [l x_reader_ (by decide) (by decide) (by decide), l x_reader_bytes_ (by decide) (by decide) (by decide), em, l m_tape_ (by decide) (by decide) (by decide)]; exact t
  · show j_D (A x_ 17) (A m_ 53) (A m_drawnMoved_); rw [hF.2.1.2 17 (by decide), em, l m_drawnMoved_ (by decide) (by decide) (by decide)]; exact dd
  · show j_G (A x_log_ 0) (A x_log_what_) (A x_log_where_) (A x_log_was_) (A m_ 44) (A m_left0_) (A m_kept_); rw [l x_log_ (by decide) (by decide) (by decide), l x_log_what_ (by decide) (by decide) (by decide), l x_log_where_ (by decide) (by decide) (by decide), l x_log_was_ (by decide) (by decide) (by decide), em, l m_left0_ (by decide) (by decide) (by decide), eK]; exact g
  · have bh : (gd_m (cw_put (im_m A (t_w (A m_images_) (5658 * k) 0 5658 (A m_kept_))) m_hasImage_ k 1)) m_hasImage_ = cw_up (m m_hasImage_) k 1 := by
      show cw_put (cw_put (im_m A (t_w (A m_images_) (5658 * k) 0 5658 (A m_kept_))) m_hasImage_ k 1) m_ 0 0 m_hasImage_ = _
      rw [cw_put_ne (by decide), cw_put_r]
      show cw_up (A m_hasImage_) k 1 = _
      rw [eH]
    have bi : (gd_m (cw_put (im_m A (t_w (A m_images_) (5658 * k) 0 5658 (A m_kept_))) m_hasImage_ k 1)) m_images_ = t_w (m m_images_) (5658 * k) 0 5658 (m m_kept_) := by
      show t_w (A m_images_) (5658 * k) 0 5658 (A m_kept_) = _
      rw [eI, eK]
    have bk : (gd_m (cw_put (im_m A (t_w (A m_images_) (5658 * k) 0 5658 (A m_kept_))) m_hasImage_ k 1)) m_kept_ = m m_kept_ := eK
    rw [bh, bi, bk]
    have kq0 : ∀ q, q = k → K_q (m m_kept_) (fun x => t_w (m m_images_) (5658 * k) 0 5658 (m m_kept_) (5658 * q + x)) := fun q e i a b _ => by
      rw [e]
      exact (t_wi (by omega)).symm
    have kq1 : ∀ q, (0 ≤ q ∧ q < 2) → q ≠ k → K_q (fun x => m m_images_ (5658 * q + x)) (fun x => t_w (m m_images_) (5658 * k) 0 5658 (m m_kept_) (5658 * q + x)) := fun q e f i a b _ => by
      show m m_images_ (5658 * q + i) = t_w (m m_images_) (5658 * k) 0 5658 (m m_kept_) (5658 * q + i)
      rw [t_wo (by omega)]
    rcases (by omega : k = 0 ∨ k = 1) with e | e <;> subst e
    · refine ⟨c, c1, ?_, ?_, ?_, fun i x y => ?_, ?_⟩
      · have z := hcc0 rfl; omega
      · rw [hJ]
        refine Or.inr ⟨⟨hF.2.2, hc8⟩, ?_, hw, ?_, K_rq hK (kq0 0 rfl), fun i x y => ?_, fun i x y => ?_⟩
        · rw [cw_up_eq]; decide
        · exact W_qq hq hK (kq0 0 rfl)
        · have y2 : i < m m_kept_ 49 := by have e := (kq0 0 rfl) 49 (by decide) (by decide) (by decide); omega
          rw [hlaw i x (by have := hK.2.2.2.2.2.2.2.2.2.2.2.1; omega)]
          exact im_jt hF hN.1 hc (Or.inl ⟨rfl, rfl⟩) (ht i x y2)
        · rw [hlaw i x y]; exact hv i x y
      · rw [ho 1 (by decide), cw_up_ne (by decide)]
        exact im_o hF hN.1 hc (Or.inl ⟨rfl, rfl⟩) (hcc0 rfl) (kq1 1 (by decide) (by decide)) i1
      · rw [l x_will_lawAt_ (by decide) (by decide) (by decide)]; exact im_jt hF hN.1 hc (Or.inl ⟨rfl, rfl⟩) (ht i x y)
      · rw [l x_will_lawAt_ (by decide) (by decide) (by decide)]; exact hv
    · refine ⟨c0, c, ?_, ?_, ?_, fun i x y => ?_, ?_⟩
      · have z := hcc1 rfl; omega
      · rw [ho 0 (by decide), cw_up_ne (by decide)]
        exact im_o hF hN.1 hc (Or.inr ⟨rfl, rfl⟩) (hcc1 rfl) (kq1 0 (by decide) (by decide)) i0
      · rw [hJ]
        refine Or.inr ⟨⟨hF.2.2, hc8⟩, ?_, hw, ?_, K_rq hK (kq0 1 rfl), fun i x y => ?_, fun i x y => ?_⟩
        · rw [cw_up_eq]; decide
        · exact W_qq hq hK (kq0 1 rfl)
        · have y2 : i < m m_kept_ 49 := by have e := (kq0 1 rfl) 49 (by decide) (by decide) (by decide); omega
          rw [hlaw i x (by have := hK.2.2.2.2.2.2.2.2.2.2.2.1; omega)]
          exact im_jt hF hN.1 hc (Or.inr ⟨rfl, rfl⟩) (ht i x y2)
        · rw [hlaw i x y]; exact hv i x y
      · rw [l x_will_lawAt_ (by decide) (by decide) (by decide)]; exact im_jt hF hN.1 hc (Or.inr ⟨rfl, rfl⟩) (ht i x y)
      · rw [l x_will_lawAt_ (by decide) (by decide) (by decide)]; exact hv
  · rw [l sc (by omega) (fun e => by rw [e] at hs; revert hs; decide) (fun e => by rw [e] at hs; revert hs; decide)]; exact hNn.1
  · have := hNn.2.1; omega
  · have := hNn.2.2.1; omega
  · have := hNn.2.2.2; omega
/-- what was copied into an image -/
theorem im_q {m Y X : cw_M} {J c : Int} {K : Int → Int} (hY : ∀ z, x_will_ ≤ z → z ≤ x_will_lawAt_ → Y z = m z) (hc : 124 ≤ c) (hw : j_w Y J c) (hZ : cf_Z Y J x_will_ (cf_J c) cf_W X) (h9 : K 49 ≤ 6) (hW : W_r m K) : j_w (cw_put X x_ 16 0) J c ∧ (∀ A : cw_M, A = cw_put X x_ 16 0 → (∀ i, 0 ≤ i → i < K 49 → T_l m (m x_will_lawAt_ i) (l_ks K i) → T_l A (m x_will_lawAt_ i) (l_ks K i)) → j_q A J K) ∧ ∀ i, 0 ≤ i → i < 6 → cw_put X x_ 16 0 (cw_put X x_ 16 0 J 12) i = m x_will_lawAt_ i := by
  have jr := j_Jr hw
  have xx : x_ < 130023424 := by decide
  have e : ∀ z, 130023424 ≤ z → cw_put X x_ 16 0 z = X z := fun z q => cw_put_ne (by omega)
  have eJ := e J (by omega)
  have fj : ∀ j, j ∉ [13, 11, 8, 6, 4, 0] → X J j = Y J j := fun j q => by rw [hZ.2.1 j, if_neg q]
  have fd : ∀ j, j ∈ [13, 11, 8, 6, 4, 0] → X J j = m x_will_ j := fun j q => by rw [hZ.2.1 j, if_pos q, hY x_will_ (by decide) (by decide)]
  have jk := cf_jk hw
  have kk : ∀ k ∈ cf_K, k ∉ [13, 11, 8, 6, 4, 0] := by decide
  have ek : ∀ k ∈ cf_K, cw_put X x_ 16 0 J k = cf_J c k := fun k hk => by rw [eJ, fj k (kk k hk), jk k hk]
  have rw_ : ∀ k ∈ cf_K, x_will_ ≤ cf_W k ∧ cf_W k ≤ x_will_lawAt_ := by decide
  have er : ∀ k ∈ cf_K, ∀ i, 0 ≤ i → i < cf_n k → cw_put X x_ 16 0 (cf_J c k) i = m (cf_W k) i := fun k hk i a b => by
    rw [e _ (cf_jr hc hk).1.1, hZ.2.2 k hk i, if_pos ⟨a, b⟩, hY _ (rw_ k hk).1 (rw_ k hk).2]
  refine ⟨?_, fun A eA hT => ?_, fun i a b => ?_⟩
  · obtain ⟨w0, w1, w2, w3, w5, w7, w9, w10, w12⟩ := hw
    exact ⟨w0, by rw [ek 1 (by decide)]; rfl, by rw [ek 2 (by decide)]; rfl, by rw [ek 3 (by decide)]; rfl, by rw [ek 5 (by decide)]; rfl, by rw [ek 7 (by decide)]; rfl, by rw [ek 9 (by decide)]; rfl, by rw [ek 10 (by decide)]; rfl, by rw [ek 12 (by decide)]; rfl⟩
  · unfold j_q
    rw [eA, ek 1 (by decide), ek 2 (by decide), ek 3 (by decide), ek 5 (by decide), ek 7 (by decide), ek 9 (by decide), ek 10 (by decide), ek 12 (by decide), eJ, fd 0 (by decide), fd 4 (by decide), fd 6 (by decide), fd 8 (by decide), fd 11 (by decide), fd 13 (by decide), ← eA]
    have er2 : ∀ k ∈ cf_K, ∀ i, 0 ≤ i → i < cf_n k → A (cf_J c k) i = m (cf_W k) i := by rw [eA]; exact er
    exact W_qc (W_qt hW hT) (er2 1 (by decide)) (er2 2 (by decide)) (er2 3 (by decide)) (er2 5 (by decide)) (er2 7 (by decide)) (er2 9 (by decide)) (er2 10 (by decide)) (er2 12 (by decide)) h9
  · rw [ek 12 (by decide)]
    exact er 12 (by decide) i a b
theorem J_image {n sc : Int} {S : Int → Int} (hn : n < 600) (hs : sc < 33554432) (hs0 : 0 < sc) {k : Int} : J_P n sc S vi 200 k_C_image k_M_image [vi k] := by
  intro m hI
  have hm := hI.1.1
  have hk := hI.1.2
  have hK := hI.2.1.1
  have hW := hI.2.1.2.1
  have hZ := hI.2.1.2.2.1
  have hE := hI.2.1.2.2.2
  have hB := hI.2.2.1
  have hC := hI.2.2.2.1
  have hr := J_rfb hn hB
  have hf := J_cfb hn hB hC
  have hH := hC.2.2.2.2.2
  obtain ⟨c0, c1, hd, i0, i1, ht, hv⟩ := hH
  have hNn := hI.2.2.2.2
  have n1 := hNn.2.2.1
  have n2 := hNn.2.2.2
  have n0 := hNn.2.1
  have k9 := hK.2.2.2.2.2.2.2.2.2.2.2.1
  have xx : x_ < 130023424 ∧ x_images_ < 130023424 := by decide
  have yy : x_ ≠ -1 ∧ x_images_ ≠ -1 := by decide
  have zz : (33554432 : Int) ≤ x_ ∧ (33554432 : Int) ≤ x_images_ := by decide
  have wl : x_will_lawAt_ < 130023424 ∧ 0 < x_will_ ∧ x_ < x_will_ ∧ x_will_lawAt_ < x_images_ := by decide
  by_cases hk2 : 0 ≤ k ∧ k < 2
  · have hik := j_pick hk2 i0 i1
    obtain ⟨c, ec⟩ : ∃ c, c = (if k = 0 then c0 else c1) := ⟨_, rfl⟩
    rw [← ec] at hik
    refine C_image (c := c) hm hf hv (by omega) (fun _ hJ => ?_) (fun q => absurd hk2 q) (fun _ hJ X hZ2 => ?_) (fun _ hJ Z X hw hN1 hs1 fr okZ hZ2 => ?_)
    · rcases hik with hik | ⟨g1, g2, g3, g4, g5, g6, g7⟩
      · exact absurd hik.2.1 hJ
      · exact ⟨g1.1, g3⟩
    · rcases hik with hik | ⟨g1, g2, g3, g4, g5, g6, g7⟩
      · exact absurd hik.2.1 hJ
      · have okX := cf_okJ hm g1.1 g3 hZ2
        have jr := j_Jr g3
        have hcr := fun kk (h : kk ∈ cf_K) => cf_jr g1.1 h
        have hF : im_F m (cw_put X x_ 16 0) c := by
          refine ⟨fun z a1 a2 a3 a4 a5 => ?_, ⟨rfl, fun j q => ?_⟩, g1.1⟩
          · rw [cw_put_ne a3]
            exact hZ2.1 z (by omega) (fun kk h => by have := (hcr kk h).1; omega)
          · rw [cw_put_off q, hZ2.1 x_ (by omega) (fun kk h => by have := (hcr kk h).1; omega)]
        have hc : ∀ x, j_x (m (-1) 0) c0 c1 x → x < c * 1048576 ∨ ((c + 9) * 1048576 ≤ x ∧ x < m (-1) 0 * 1048576) := fun x h => by
          have z : ¬ (c ≤ cw_ce x ∧ cw_ce x ≤ c + 8) := by
            rw [ec]
            split
            · exact h.2.1
            · exact h.2.2
          have := h.1.2
          unfold cw_ce at z
          omega
        have iq := im_q (m := m) (K := m m_kept_) (fun z _ _ => rfl) g1.1 g3 hZ2 k9.2 hW
        have okA : la_ok (cw_put X x_ 16 0) := la_put okX (by decide) (Or.inl rfl)
        have eN : (cw_put X x_ 16 0) (-1) = m (-1) := by rw [cw_put_ne (by decide)]; exact hZ2.1 (-1) (by omega) (fun kk h => by have := (hcr kk h).1; omega)
        have ex : (cw_put X x_ 16 0) x_images_ = m x_images_ := by rw [cw_put_ne (by decide)]; exact hZ2.1 _ (by omega) (fun kk h => by have := (hcr kk h).1; omega)
        refine ⟨okA, ?_, ⟨_, rfl⟩, ?_⟩
        · rw [im_l hF (by omega) (by omega) (by omega)]; exact J_s hI
        · have hBA : J_B n (cw_put X x_ 16 0) := by
            unfold J_B at hB ⊢
            rw [im_l (z := m_words_) hF (by decide) (by decide) (by decide), im_l (z := m_refused_) hF (by decide) (by decide) (by decide)]
            exact hB
          refine M_image okA (J_rfb hn hBA) (fun x => ⟨rfl, ?_⟩) (fun x => absurd (by omega) x)
          exact im_J hn ⟨hs0, hs⟩ hI hk2 hF okA (by rw [eN]; omega) (by rw [eN]; omega) (by rw [eN]; exact g1.2) (by rw [ex]) (fun j _ => by rw [ex]) iq.1 (iq.2.1 _ rfl (fun i a b h => im_t hF hc (ht i a b) h)) iq.2.2 i0 i1 ht hv hc (fun e => by rw [if_pos e] at ec; omega) (fun e => by rw [if_neg (by omega)] at ec; omega)
    · have hc124 : 124 ≤ m (-1) 0 := n1.1
      have hwY : j_w (cw_put Z x_images_ k (j_cd (m (-1) 0) 14 9)) (j_cd (m (-1) 0) 14 9) (m (-1) 0) := by
        have r9 := cd_r (c := m (-1) 0) (n := 14) (t := 9) (by decide) (by decide)
        unfold j_w at hw ⊢
        rw [cw_put_ne (by omega)]
        exact hw
      have okX := cf_okJ (la_put okZ (by decide) (Or.inr (by decide))) hc124 hwY hZ2
      have jr := j_Jr hwY
      have hcr := fun kk (h : kk ∈ cf_K) => cf_jr hc124 h
      have xY : ∀ z, z < m (-1) 0 * 1048576 → X z = cw_put Z x_images_ k (j_cd (m (-1) 0) 14 9) z := fun z q => hZ2.1 z (by omega) (fun kk h => by have := (hcr kk h).1; omega)
      have hF : im_F m (cw_put X x_ 16 0) (m (-1) 0) := by
        refine ⟨fun z a1 a2 a3 a4 a5 => ?_, ⟨rfl, fun j q => ?_⟩, hc124⟩
        · have zl : z < m (-1) 0 * 1048576 := by omega
          rw [cw_put_ne a3, xY z zl, cw_put_ne a4]
          exact fr z a1 a2 zl
        · rw [cw_put_off q, xY x_ (by omega), cw_put_ne (by decide), fr x_ (by decide) (by decide) (by omega)]
      have hc : ∀ x, j_x (m (-1) 0) c0 c1 x → x < m (-1) 0 * 1048576 ∨ ((m (-1) 0 + 9) * 1048576 ≤ x ∧ x < m (-1) 0 * 1048576) := fun x h => Or.inl h.1.2
      have iq := im_q (m := m) (K := m m_kept_) (fun z a b => by rw [cw_put_ne (by omega), fr z (by omega) (by omega) (by omega)]) hc124 hwY hZ2 k9.2 hW
      have okA : la_ok (cw_put X x_ 16 0) := la_put okX (by decide) (Or.inl rfl)
      have eN : (cw_put X x_ 16 0) (-1) = Z (-1) := by rw [cw_put_ne (by decide), xY (-1) (by omega), cw_put_ne (by decide)]
      have ex : (cw_put X x_ 16 0) x_images_ = cw_up (m x_images_) k (j_cd (m (-1) 0) 14 9) := by
        rw [cw_put_ne (by decide), xY x_images_ (by omega), cw_put_r, fr x_images_ (by decide) (by decide) (by omega)]
      refine ⟨okA, ?_, ⟨_, rfl⟩, ?_⟩
      · rw [im_l hF (by omega) (by omega) (by omega)]; exact J_s hI
      · have hBA : J_B n (cw_put X x_ 16 0) := by
          unfold J_B at hB ⊢
          rw [im_l (z := m_words_) hF (by decide) (by decide) (by decide), im_l (z := m_refused_) hF (by decide) (by decide) (by decide)]
          exact hB
        refine M_image okA (J_rfb hn hBA) (fun x => ⟨rfl, ?_⟩) (fun x => absurd (by omega) x)
        have o0 : c0 = -100 ∨ c0 + 8 < m (-1) 0 := i0.elim (fun z => Or.inl z.1) (fun z => Or.inr z.1.2)
        have o1 : c1 = -100 ∨ c1 + 8 < m (-1) 0 := i1.elim (fun z => Or.inl z.1) (fun z => Or.inr z.1.2)
        exact im_J hn ⟨hs0, hs⟩ hI hk2 hF okA (by rw [eN]; omega) (by rw [eN]; omega) (by rw [eN]; omega) (by rw [ex, cw_up_eq]) (fun j q => by rw [ex, cw_up_ne q]) iq.1 (iq.2.1 _ rfl (fun i a b h => im_t hF hc (ht i a b) h)) iq.2.2 i0 i1 ht hv hc (fun e => by omega) (fun e => by omega)
  · refine C_image (c := 124) hm hf hv (by omega) (fun q _ => absurd q hk2) (fun q => ⟨cr_ok hm, J_sd hs hI cr_D, ⟨_, rfl⟩, ?_⟩) (fun q _ => absurd q hk2) (fun q _ => absurd q hk2)
    exact M_image (cr_ok hm) (J_rfb hn (J_Bd cr_D hB)) (fun x => absurd (by omega) q) (fun _ => ⟨rfl, J_r1 hn hs hI⟩)
