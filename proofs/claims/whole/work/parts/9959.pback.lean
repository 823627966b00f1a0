/-! Gone back to an image, by both: the pair (wip/whole/tools/m159.py). -/
theorem cf_DW {m X : cw_M} {S : Int} {B : Int → Int} (hZ : cf_Z m x_will_ S cf_W B X) : D_s m X := fun c q => by
  have a : ∀ k ∈ cf_K, cf_W k ∉ D_X ∧ 33554432 ≤ cf_W k ∧ cf_W k < m_ := by decide
  have b : x_will_ ∉ D_X ∧ 33554432 ≤ x_will_ ∧ x_will_ < m_ := by decide
  refine hZ.1 c (fun e => ?_) (fun k hk e => ?_)
  · rw [e] at q
    rcases q with q | q | q
    · exact b.1 q
    · exact absurd q (by decide)
    · exact absurd q (by decide)
  · have z := a k hk
    rw [e] at q
    rcases q with q | q | q
    · exact z.1 q
    · omega
    · omega
/-- the will is what another one was -/
theorem cf_Wr2 {m X : cw_M} {S : Int} {B : Int → Int} {K : Int → Int} (hZ : cf_Z m x_will_ S cf_W B X) (h9 : K 49 ≤ 6) (hq : W_q (m S 0) (m S 4) (m S 6) (m S 8) (m S 11) (m S 13) (m (B 1)) (m (B 2)) (m (B 3)) (m (B 5)) (m (B 7)) (m (B 9)) (m (B 10)) (m (B 12)) m K) : W_r X K := by
  have f : ∀ j, j ∈ [13, 11, 8, 6, 4, 0] → X x_will_ j = m S j := fun j hj => by rw [hZ.2.1 j, if_pos hj]
  have r : ∀ k ∈ cf_K, ∀ i, 0 ≤ i → i < cf_n k → X (cf_W k) i = m (B k) i := fun k hk i a b => by rw [hZ.2.2 k hk i, if_pos ⟨a, b⟩]
  refine W_mr (f 0 (by decide)) (f 4 (by decide)) (f 6 (by decide)) (f 8 (by decide)) (f 11 (by decide)) (f 13 (by decide)) rfl rfl rfl rfl rfl rfl rfl rfl (W_qe (W_qc hq (r 1 (by decide)) (r 2 (by decide)) (r 3 (by decide)) (r 5 (by decide)) (r 7 (by decide)) (r 9 (by decide)) (r 10 (by decide)) (r 12 (by decide)) h9) (D_sh (cf_DW hZ)))
theorem j_pick {m : cw_M} {c0 c1 k : Int} {has im : Int → Int} (hk : 0 ≤ k ∧ k < 2) (i0 : j_i m c0 c1 c0 (m x_images_ 0) (has 0) (fun x => im (5658 * 0 + x))) (i1 : j_i m c0 c1 c1 (m x_images_ 1) (has 1) (fun x => im (5658 * 1 + x))) : j_i m c0 c1 (if k = 0 then c0 else c1) (m x_images_ k) (has k) (fun x => im (5658 * k + x)) := by
  rcases (by omega : k = 0 ∨ k = 1) with e | e <;> subst e
  · exact i0
  · exact i1
theorem J_back {n sc : Int} {S : Int → Int} (hn : n < 600) (hs : sc < 33554432) {k : Int} : J_P n sc S vi 200 k_C_back k_M_back [vi k] := by
  intro m hI
  have hm := hI.1.1
  have hk := hI.1.2
  have hK := hI.2.1.1
  have hW := hI.2.1.2.1
  have hZ := hI.2.1.2.2.1
  have hE := hI.2.1.2.2.2
  have hB := hI.2.2.1
  have hC := hI.2.2.2.1
  have hr := J_rfb hn hB
  have hf := J_cfb hn hB hC
  have hH := hC.2.2.2.2.2
  obtain ⟨c0, c1, hd, i0, i1, ht, hv⟩ := hH
  by_cases hk2 : 0 ≤ k ∧ k < 2
  · have hik := j_pick hk2 i0 i1
    generalize (if k = 0 then c0 else c1) = c at hik
    refine C_back (c := c) hm hf (fun _ hJ => ?_) (fun q => absurd hk2 q) (fun _ hJ => ⟨cr_ok hm, J_sd hs hI cr_D, ⟨_, rfl⟩, ?_⟩) (fun _ hJ X hZ2 => ?_)
    · rcases hik with hik | ⟨g1, g2, g3, g4, g5, g6, g7⟩
      · exact absurd hik.2.1 hJ
      · refine ⟨cf_hW hm g1.1 g3, ?_⟩
        have e := cf_jk g3 12 (by decide)
        rw [← e]
        exact g7
    · rcases hik with hik | ⟨g1, g2, g3, g4, g5, g6, g7⟩
      · exact M_back (cr_ok hm) (J_rfb hn (J_Bd cr_D hB)) (fun x y => absurd hik.2.2 y) (fun x y => ⟨rfl, J_r2 hn hs hI⟩) (fun x => absurd (by omega) x)
      · exfalso
        have e := g3.1
        rw [hJ] at e
        unfold j_cd at e
        omega
    · rcases hik with hik | ⟨g1, g2, g3, g4, g5, g6, g7⟩
      · exact absurd hik.2.1 hJ
      · have okX : la_ok X := cf_ok hm hZ2 (fun k hk => ⟨by have a := (cf_Wr k hk).2.1.2; split at a <;> omega, by have a := (cf_Wr k hk).1; omega⟩) (by decide) (by decide)
        have hD0 : D_s m X := cf_DW hZ2
        have hD1 : D_s X (cw_put (cw_put (cw_put (cw_put (cw_put X x_log_ 0 0) x_ 18 1) x_ 19 1) x_settler_ 0 (-1)) x_ 16 0) := (D_sp (D_sp (D_sp (D_sp (D_sp D_sr (by decide)) (by decide)) (by decide)) (by decide)) (by decide))
        have hD : D_s m (cw_put (cw_put (cw_put (cw_put (cw_put X x_log_ 0 0) x_ 18 1) x_ 19 1) x_settler_ 0 (-1)) x_ 16 0) := D_st hD0 hD1
        have jk := cf_jk g3
        have hq2 := g4
        unfold j_q at hq2
        rw [jk 1 (by decide), jk 2 (by decide), jk 3 (by decide), jk 5 (by decide), jk 7 (by decide), jk 9 (by decide), jk 10 (by decide), jk 12 (by decide)] at hq2
        have k9 : m m_images_ (5658 * k + 49) ≤ 6 := g5.2.2.2.2.2.2.2.2.2.2.2.1.2
        have hWX : W_r X (fun x => m m_images_ (5658 * k + x)) := cf_Wr2 (K := (fun x => m m_images_ (5658 * k + x))) hZ2 k9 hq2
        have kq : K_q (fun x => m m_images_ (5658 * k + x)) (t_w (m m_kept_) 0 0 5658 (fun x => m m_images_ (5658 * k + x))) := fun i a b _ => by
          unfold t_w
          rw [if_pos (by omega), Int.sub_zero]
        have e49 : (t_w (m m_kept_) 0 0 5658 (fun x => m m_images_ (5658 * k + x))) 49 = m m_images_ (5658 * k + 49) := (kq 49 (by decide) (by decide) (by decide)).symm
        refine ⟨(la_put (la_put (la_put (la_put (la_put okX (by decide) (Or.inl rfl)) (by decide) (Or.inl rfl)) (by decide) (Or.inl rfl)) (by decide) (Or.inl rfl)) (by decide) (Or.inl rfl)), J_sd hs hI hD, ⟨_, rfl⟩, ?_⟩
        have ek : (cw_put (cw_put (cw_put (cw_put (cw_put X x_log_ 0 0) x_ 18 1) x_ 19 1) x_settler_ 0 (-1)) x_ 16 0) m_kept_ = m m_kept_ := D_sm hD (by decide)
        have ei : (cw_put (cw_put (cw_put (cw_put (cw_put X x_log_ 0 0) x_ 18 1) x_ 19 1) x_settler_ 0 (-1)) x_ 16 0) m_images_ = m m_images_ := D_sm hD (by decide)
        have eh : (cw_put (cw_put (cw_put (cw_put (cw_put X x_log_ 0 0) x_ 18 1) x_ 19 1) x_settler_ 0 (-1)) x_ 16 0) m_hasImage_ = m m_hasImage_ := D_sm hD (by decide)
        refine M_back (la_put (la_put (la_put (la_put (la_put okX (by decide) (Or.inl rfl)) (by decide) (Or.inl rfl)) (by decide) (Or.inl rfl)) (by decide) (Or.inl rfl)) (by decide) (Or.inl rfl)) (J_rfb hn (J_Bd hD hB)) (fun x y => ⟨rfl, ?_⟩) (fun x y => absurd (by rw [eh] at y; exact y) g2) (fun x => absurd (by omega) x)
        rw [ek, ei]
        have xn : ∀ z, z ≠ x_will_ → (∀ k ∈ cf_K, z ≠ cf_W k) → X z = m z := hZ2.1
        refine J_k2 hn hs hI (la_put (la_put (la_put (la_put (la_put okX (by decide) (Or.inl rfl)) (by decide) (Or.inl rfl)) (by decide) (Or.inl rfl)) (by decide) (Or.inl rfl)) (by decide) (Or.inl rfl)) hD ⟨K_rq g5 kq, ?_, D_sS hD hZ rfl rfl, E_s1 rfl⟩ (show X x_refusals_ = m x_refusals_ from xn _ (by decide) (by decide)) rfl (show X x_ 14 = m x_ 14 by rw [xn x_ (by decide) (by decide)]) (show X x_ 15 = m x_ 15 by rw [xn x_ (by decide) (by decide)]) (show X x_ 17 = m x_ 17 by rw [xn x_ (by decide) (by decide)]) (show X x_reader_ = m x_reader_ from xn _ (by decide) (by decide)) (show X x_reader_bytes_ = m x_reader_bytes_ from xn _ (by decide) (by decide)) rfl ?_
        · exact W_mr rfl rfl rfl rfl rfl rfl rfl rfl rfl rfl rfl rfl rfl rfl (W_qe (W_qq hWX g5 kq) (D_sh hD1))
        · have hh := D_sh hD
          have hN1 := hD (-1) (Or.inr (Or.inl (by decide)))
          have hx1 : (cw_put (cw_put (cw_put (cw_put (cw_put X x_log_ 0 0) x_ 18 1) x_ 19 1) x_settler_ 0 (-1)) x_ 16 0) x_images_ = m x_images_ := hD _ (Or.inl (by decide))
          have e12 : ∀ i, 0 ≤ i → i < 6 → (cw_put (cw_put (cw_put (cw_put (cw_put X x_log_ 0 0) x_ 18 1) x_ 19 1) x_settler_ 0 (-1)) x_ 16 0) x_will_lawAt_ i = m (m (m x_images_ k) 12) i := fun i a b => by
            show X x_will_lawAt_ i = _
            rw [jk 12 (by decide)]
            have z := hZ2.2.2 12 (by decide) i
            rw [if_pos ⟨a, b⟩] at z
            exact z
          refine ⟨c0, c1, hd, by rw [hx1]; exact j_ie hh hN1 i0, by rw [hx1]; exact j_ie hh hN1 i1, fun i x y => ?_, fun i x y => ?_⟩
          · rw [e49] at y
            rw [e12 i x (by omega)]
            exact j_te hh hN1 (g6 i x y)
          · rw [e12 i x y]
            exact g7 i x y
  · refine C_back (c := 0) hm hf (fun q _ => absurd q hk2) (fun q => ⟨cr_ok hm, J_sd hs hI cr_D, ⟨_, rfl⟩, ?_⟩) (fun q _ => absurd q hk2) (fun q _ => absurd q hk2)
    exact M_back (cr_ok hm) (J_rfb hn (J_Bd cr_D hB)) (fun x y => absurd (by omega) q) (fun x y => absurd (by omega) q) (fun _ => ⟨rfl, J_r1 hn hs hI⟩)
