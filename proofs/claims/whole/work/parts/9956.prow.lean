/-! A row of the tape, by both (wip/whole/tools/m156.py). -/
def A_W : List Int := [x_will_, x_will_kinds_, x_will_marks_, x_will_owner_]
theorem ap_f {m : cw_M} {kd mk p i : Int} (h : i ≠ 0) : ap_m m kd mk p x_will_ i = m x_will_ i := by
  unfold ap_m
  split
  · rw [cw_put_off h, cw_put_ne (by decide), cw_put_ne (by decide), cw_put_ne (by decide)]
  · rw [cw_put_off h, cw_put_ne (by decide)]
theorem cw_put_id {m : cw_M} {c i v : Int} (h : m c i = v) : cw_put m c i v = m := by
  funext b j
  unfold cw_put
  split
  · rename_i q; rw [q.1, q.2, h]
  · rfl
theorem r_ws {b : Int → Int} {n : Int} {f : Nat} {at_ c l : Int} {K : Int → Int} (h : at_ + 3 ≤ n) : (K 46 < 7 ∧ c_be K (b at_) (b (at_ + 1)) (b (at_ + 2)) → r_w b n (f + 1) at_ K c l = r_w b n f (at_ + 3) (k_add K (b at_) (b (at_ + 1)) (b (at_ + 2))) (c + 1) l) ∧ (¬ (K 46 < 7 ∧ c_be K (b at_) (b (at_ + 1)) (b (at_ + 2))) → r_w b n (f + 1) at_ K c l = r_w b n f (at_ + 3) K c (l + 1)) := by
  constructor
  · intro q
    show (if at_ + 3 ≤ n then _ else _) = _
    rw [if_pos h, if_pos q]
  · intro q
    show (if at_ + 3 ≤ n then _ else _) = _
    rw [if_pos h, if_neg q]
theorem r_we {b : Int → Int} {n : Int} {f : Nat} {at_ c l : Int} {K : Int → Int} (h : ¬ at_ + 3 ≤ n) : r_w b n f at_ K c l = (K, c, l) := by
  cases f with
  | zero => rfl
  | succ f => show (if at_ + 3 ≤ n then _ else _) = _; rw [if_neg h]
theorem C_row26 {d : Nat} {m : cw_M} {Q : Option cw_V → cw_M → Prop} {K : Int → Int} {R : (Int → Int) × Int × Int} (hm : la_ok m) (hW0 : W_r m K) (hK0 : K_r K) (hl0 : 0 ≤ m x_reader_ 1 ∧ m x_reader_ 1 ≤ 400) (hR0 : r_w (m x_reader_bytes_) (m x_reader_ 1) 200 0 K 0 (if m x_reader_ 1 % 3 = 0 then 0 else 1) = R) (ex : ∀ (X : cw_M) (Kk : Int → Int) (c l k : Int), la_ok X → (∀ z, z ∉ A_W → X z = m z) → W_r X Kk → K_r Kk → Kk 49 = K 49 → m x_reader_ 1 ≤ 3 * k → (Kk, c, l) = R → cw_R (d + 3) k_C_row 56 [vr x_, vi (m x_reader_ 1), vi c, vi l, vi (3 * k)] [] X Q) : cw_R (d + 3) k_C_row 26 [vr x_, vi (m x_reader_ 1), vi 0, vi 0, vi 0] [] m Q := by
  have part : ∀ (X : cw_M) (Kk : Int → Int) (c l k : Int), la_ok X → (∀ z, z ∉ A_W → X z = m z) → W_r X Kk → K_r Kk → Kk 49 = K 49 → (0 ≤ k ∧ k ≤ 134) → m x_reader_ 1 ≤ 3 * k + 3 → (Kk, c, l) = R → cw_R (d + 3) k_C_row 26 [vr x_, vi (m x_reader_ 1), vi c, vi l, vi (3 * k + 3)] [] X Q := by
    intro X Kk c l k hX hA hW hK h9 hk hln hR
    have e3 : (3 * k + 3 : Int) = 3 * (k + 1) := by omega
    refine la_go_R hX 6 [56] ?_
    refine br_t (show m x_reader_ 1 ≤ 3 * k + 3 by omega) ?_
    show cw_R _ _ 56 [vr x_, vi (m x_reader_ 1), vi c, vi l, vi (3 * k + 3)] [] (X) _
    rw [e3]
    exact ex X Kk c l (k + 1) hX hA hW hK h9 (by omega) hR
  have lp : ∀ (r : Nat) (k c l : Int) (X : cw_M) (Kk : Int → Int), 135 < k + r → (0 ≤ k ∧ 3 * k ≤ m x_reader_ 1) → (0 ≤ c ∧ c ≤ k) → (0 ≤ l ∧ l ≤ k) → (la_ok X) → (∀ z, z ∉ A_W → X z = m z) → (W_r X Kk) → (K_r Kk) → (Kk 49 = K 49) → (r_w (m x_reader_bytes_) (m x_reader_ 1) (200 - k).toNat (3 * k) Kk c (l + (if m x_reader_ 1 % 3 = 0 then 0 else 1)) = R) → cw_R (d + 3) k_C_row 26 [vr x_, vi (m x_reader_ 1), vi c, vi l, vi (3 * k)] [] X Q := by
    intro r
    induction r with
    | zero =>
      intro k c l X Kk hr hk hc hl hX hA hW hK h9 hR
      omega
    | succ r ih =>
      intro k c l X Kk hr hk hc hl hX hA hW hK h9 hR
      have er : X x_reader_ 1 = m x_reader_ 1 := by rw [hA _ (by decide)]
      have eb : X x_reader_bytes_ = m x_reader_bytes_ := hA _ (by decide)
      have wn : X x_will_ 0 = Kk 46 := hW.1
      have k46 := hK.1
      refine la_go_R hX 14 [26, 56] ?_
      refine And.intro (fun (c21 : m x_reader_ 1 ≤ 3 * k) => ?_) (fun (c21 : ¬ (m x_reader_ 1 ≤ 3 * k)) => ?_)
      · show cw_R _ _ 56 [vr x_, vi (m x_reader_ 1), vi c, vi l, vi (3 * k)] [] (X) _
        refine ex X Kk c l k hX hA hW hK h9 (by omega) ?_
        rw [← hR, r_we (by omega)]
        refine congrArg (fun z => (Kk, c, z)) ?_
        rw [if_pos (by omega)]
        omega
      · show cw_C _ _ [vr x_, vi (3 * k)] (X) _
        refine C_takeFromTape hX (by omega) (by omega) (by omega) (fun (gd : (3 * k + 3 ≤ X x_reader_ 1 ∧ X x_will_ 0 < 7 ∧ c_cj (X x_will_ 0) (X x_reader_bytes_ (3 * k)) (X x_reader_bytes_ (3 * k + 1)) (X x_reader_bytes_ (3 * k + 2)))) => ⟨(ap_ok hX), ?_⟩) (fun (gd : ¬ (3 * k + 3 ≤ X x_reader_ 1 ∧ X x_will_ 0 < 7 ∧ c_cj (X x_will_ 0) (X x_reader_bytes_ (3 * k)) (X x_reader_bytes_ (3 * k + 1)) (X x_reader_bytes_ (3 * k + 2)))) => ⟨hX, ?_⟩)
        · refine br_f (show ¬ ((1 : Int) = 0) by decide) ?_
          refine And.intro (show -2147483648 ≤ c + 1 ∧ c + 1 < 2147483648 by omega) ?_
          refine And.intro (show -2147483648 ≤ (3 * k) + 3 ∧ (3 * k) + 3 < 2147483648 by omega) ?_
          show cw_R _ _ 26 [vr x_, vi (m x_reader_ 1), vi (c + 1), vi l, vi ((3 * k) + 3)] [] (ap_m X (X x_reader_bytes_ (3 * k)) (X x_reader_bytes_ (3 * k + 1)) (X x_reader_bytes_ (3 * k + 2))) _
          rw [show 3 * k + 3 = 3 * (k + 1) by omega]
          rw [er, eb] at gd
          have w := (r_ws (b := (m x_reader_bytes_)) (f := (199 - k).toNat) (c := c) (l := l + (if m x_reader_ 1 % 3 = 0 then 0 else 1)) (K := Kk) gd.1).1 ⟨by omega, (c_cb wn hK.1.1).mp gd.2.2⟩
          rw [show (200 - k).toNat = (199 - k).toNat + 1 by omega, w] at hR
          refine ih (k + 1) (c + 1) l _ _ (by omega) (by omega) (by omega) (by omega) (ap_ok hX) (fun z y => ?_) ?_ (K_ra hK ((c_cb wn hK.1.1).mp gd.2.2) (by omega)) (by rw [k_ad (by omega) (by decide)]; exact h9) ?_
          · rw [ap_ne y, hA z y]
          · rw [eb]; exact W_ap hW hK (by omega)
          · rw [show (200 - (k + 1)).toNat = (199 - k).toNat by omega, show 3 * (k + 1) = 3 * k + 3 by omega]; exact hR
        · refine br_t (show (0 : Int) = 0 by decide) ?_
          refine And.intro (show -2147483648 ≤ l + 1 ∧ l + 1 < 2147483648 by omega) ?_
          refine And.intro (show -2147483648 ≤ (3 * k) + 3 ∧ (3 * k) + 3 < 2147483648 by omega) ?_
          show cw_R _ _ 26 [vr x_, vi (m x_reader_ 1), vi c, vi (l + 1), vi ((3 * k) + 3)] [] (X) _
          rw [er, eb] at gd
          by_cases q : 3 * k + 3 ≤ m x_reader_ 1
          · rw [show 3 * k + 3 = 3 * (k + 1) by omega]
            have w := (r_ws (b := (m x_reader_bytes_)) (f := (199 - k).toNat) (c := c) (l := l + (if m x_reader_ 1 % 3 = 0 then 0 else 1)) (K := Kk) q).2 (fun z => gd ⟨q, by omega, (c_cb wn hK.1.1).mpr z.2⟩)
            rw [show (200 - k).toNat = (199 - k).toNat + 1 by omega, w] at hR
            refine ih (k + 1) c (l + 1) X Kk (by omega) (by omega) (by omega) (by omega) hX hA hW hK h9 ?_
            rw [show (200 - (k + 1)).toNat = (199 - k).toNat by omega, show 3 * (k + 1) = 3 * k + 3 by omega, ← hR]
            congr 1
            omega
          · refine part X Kk c (l + 1) k hX hA hW hK h9 (by omega) (by omega) ?_
            rw [← hR, r_we q, if_neg (by omega)]
  refine lp 136 0 0 0 m K (by omega) (by omega) (by omega) (by omega) hm (fun _ _ => rfl) hW0 hK0 rfl ?_
  rw [show (200 - 0 : Int).toNat = 200 by decide, Int.mul_zero, Int.zero_add]
  exact hR0
theorem C_row {d : Nat} {m : cw_M} {Q : Option cw_V → cw_M → Prop} {K : Int → Int} (hm : la_ok m) (hr : c_fb m) (hW : W_r m K) (hK : K_r K) (hl : 0 ≤ m x_reader_ 1 ∧ m x_reader_ 1 ≤ 400) (h0 : m x_reader_ 1 = 0 → Q (some (vi (-6))) (cr_m m (-6) 4)) (h1 : m x_reader_ 1 ≠ 0 → ∀ X Kk c l, la_ok X → (∀ z, z ∉ A_W → X z = m z) → W_r X Kk → K_r Kk → Kk 49 = K 49 → (Kk, c, l) = r_w (m x_reader_bytes_) (m x_reader_ 1) 200 0 K 0 (if m x_reader_ 1 % 3 = 0 then 0 else 1) → Q (some (vi c)) (cw_put (cw_put (cw_put (cw_put (cw_put (cw_put (cw_put X x_reader_ 1 0) x_ 14 l) x_log_ 0 0) x_ 18 1) x_ 19 1) x_settler_ 0 (-1)) x_ 16 0)) : cw_C (d + 3) k_C_row [vr x_] m Q := by
  refine la_go_C hm 15 [26] ?_
  refine And.intro (fun (c21 : m x_reader_ 1 ≠ 0) => ?_) (fun (c21 : ¬ (m x_reader_ 1 ≠ 0)) => ?_)
  · show cw_R _ _ 26 [vr x_, vi (m x_reader_ 1), vi 0, vi 0, vi 0] [] (m) _
    refine C_row26 (R := r_w (m x_reader_bytes_) (m x_reader_ 1) 200 0 K 0 (if m x_reader_ 1 % 3 = 0 then 0 else 1)) hm hW hK hl rfl (fun X Kk c l k hX hA hW2 hK2 h92 _ hR => ?_)
    refine la_go_R hX 20 [] ?_
    have hm21 : la_ok (cw_put X x_reader_ 1 0) := la_put hX (by decide) (Or.inl rfl)
    have hm22 : la_ok (cw_put (cw_put X x_reader_ 1 0) x_ 14 l) := la_put hm21 (by decide) (Or.inl rfl)
    have hm23 : la_ok (cw_put (cw_put (cw_put X x_reader_ 1 0) x_ 14 l) x_log_ 0 0) := la_put hm22 (by decide) (Or.inl rfl)
    show cw_C _ _ [vr x_] (cw_put (cw_put (cw_put X x_reader_ 1 0) x_ 14 l) x_log_ 0 0) _
    refine C_rewritten hm23 ⟨(la_put (la_put (la_put hm23 (by decide) (Or.inl rfl)) (by decide) (Or.inl rfl)) (by decide) (Or.inl rfl)), ?_⟩
    show cw_C _ _ [vr x_, vi c] (cw_put (cw_put (cw_put (cw_put (cw_put (cw_put X x_reader_ 1 0) x_ 14 l) x_log_ 0 0) x_ 18 1) x_ 19 1) x_settler_ 0 (-1)) _
    refine C_accept (la_put (la_put (la_put hm23 (by decide) (Or.inl rfl)) (by decide) (Or.inl rfl)) (by decide) (Or.inl rfl)) ⟨(la_put (la_put (la_put (la_put hm23 (by decide) (Or.inl rfl)) (by decide) (Or.inl rfl)) (by decide) (Or.inl rfl)) (by decide) (Or.inl rfl)), ?_⟩
    show Q (some (vi c)) (cw_put (cw_put (cw_put (cw_put (cw_put (cw_put (cw_put X x_reader_ 1 0) x_ 14 l) x_log_ 0 0) x_ 18 1) x_ 19 1) x_settler_ 0 (-1)) x_ 16 0)
    exact h1 (by omega) X Kk c l hX hA hW2 hK2 h92 hR
  · show cw_C _ _ [vr x_, vi (-6)] (m) _
    refine C_refuse6 hm (hr 4 (by decide) (by decide)) ⟨(cr_ok hm), ?_⟩
    show Q (some (vi (-6))) (cr_m m (-6) 4)
    exact h0 (by omega)
theorem J_row {n sc : Int} {S : Int → Int} (hn : n < 600) (hs : sc < 33554432) : J_P n sc S vi 200 k_C_row k_M_row [] := by
  intro m hI
  have hm := hI.1.1
  have hk := hI.1.2
  have hK := hI.2.1.1
  have hW := hI.2.1.2.1
  have hZ := hI.2.1.2.2.1
  have hE := hI.2.1.2.2.2
  have hB := hI.2.2.1
  have hC := hI.2.2.2.1
  have hr := J_rfb hn hB
  have hf := J_cfb hn hB hC
  have hmm : (33554432 : Int) ≤ m_ := by decide
  have hT := hC.2.2.1
  have eT : m x_reader_ 1 = m m_ 13 := hT.1
  have dx : ∀ X : cw_M, (∀ z, z ∉ A_W → X z = m z) → D_s m X := fun X hA c q => hA c (fun z => by
    have := (show ∀ y ∈ A_W, y ∉ D_X ∧ 33554432 ≤ y ∧ y < m_ by decide) c z
    rcases q with q | q | q
    · exact this.1 q
    · omega
    · omega)
  refine C_row hm hf hW hK hT.2.1 (fun q => ⟨cr_ok hm, J_sd hs hI cr_D, ⟨_, rfl⟩, ?_⟩) (fun q X Kk c l hX hA hW2 hK2 k9 hR => ⟨(la_put (la_put (la_put (la_put (la_put (la_put (la_put hX (by decide) (Or.inl rfl)) (by decide) (Or.inl rfl)) (by decide) (Or.inl rfl)) (by decide) (Or.inl rfl)) (by decide) (Or.inl rfl)) (by decide) (Or.inl rfl)) (by decide) (Or.inl rfl)), ?_, ⟨_, rfl⟩, ?_⟩)
  · refine M_row (b := m x_reader_bytes_) (cr_ok hm) (J_rfb hn (J_Bd cr_D hB)) (show 0 ≤ m m_ 13 ∧ m m_ 13 ≤ 400 by have := hT.2.1; omega) hK.1 (fun i a b => hT.2.2 i a (by have : i < m m_ 13 := b; omega)) (fun x => absurd (show 0 < m m_ 13 from x) (by omega)) (fun x => ⟨rfl, ?_⟩)
    rw [cw_put_id x]
    exact J_r6 hn hs hI
  · exact J_sd hs hI (D_st (dx X hA) (D_sp (D_sp (D_sp (D_sp (D_sp (D_sp (D_sp D_sr (by decide)) (by decide)) (by decide)) (by decide)) (by decide)) (by decide)) (by decide)))
  · have hD1 : D_s X (cw_put (cw_put (cw_put (cw_put (cw_put (cw_put (cw_put X x_reader_ 1 0) x_ 14 l) x_log_ 0 0) x_ 18 1) x_ 19 1) x_settler_ 0 (-1)) x_ 16 0) := (D_sp (D_sp (D_sp (D_sp (D_sp (D_sp (D_sp D_sr (by decide)) (by decide)) (by decide)) (by decide)) (by decide)) (by decide)) (by decide))
    have hD : D_s m (cw_put (cw_put (cw_put (cw_put (cw_put (cw_put (cw_put X x_reader_ 1 0) x_ 14 l) x_log_ 0 0) x_ 18 1) x_ 19 1) x_settler_ 0 (-1)) x_ 16 0) := D_st (dx X hA) hD1
    have xm := fun c (q : m_ ≤ c) => D_sm hD q
    have ek : (cw_put (cw_put (cw_put (cw_put (cw_put (cw_put (cw_put X x_reader_ 1 0) x_ 14 l) x_log_ 0 0) x_ 18 1) x_ 19 1) x_settler_ 0 (-1)) x_ 16 0) m_kept_ = m m_kept_ := xm _ (by decide)
    have em : (cw_put (cw_put (cw_put (cw_put (cw_put (cw_put (cw_put X x_reader_ 1 0) x_ 14 l) x_log_ 0 0) x_ 18 1) x_ 19 1) x_settler_ 0 (-1)) x_ 16 0) m_ = m m_ := xm _ (by decide)
    have et : (cw_put (cw_put (cw_put (cw_put (cw_put (cw_put (cw_put X x_reader_ 1 0) x_ 14 l) x_log_ 0 0) x_ 18 1) x_ 19 1) x_settler_ 0 (-1)) x_ 16 0) m_tape_ = m m_tape_ := xm _ (by decide)
    rw [eT] at hR
    refine M_row (b := m x_reader_bytes_) (la_put (la_put (la_put (la_put (la_put (la_put (la_put hX (by decide) (Or.inl rfl)) (by decide) (Or.inl rfl)) (by decide) (Or.inl rfl)) (by decide) (Or.inl rfl)) (by decide) (Or.inl rfl)) (by decide) (Or.inl rfl)) (by decide) (Or.inl rfl)) (J_rfb hn (J_Bd hD hB)) (by rw [em]; have := hT.2.1; omega) (by rw [ek]; exact hK.1) (fun i a b => by rw [et]; rw [em] at b; exact hT.2.2 i a (by omega)) (fun x => ?_) (fun x => absurd x (by rw [em]; omega))
    rw [em, ek, ← hR]
    refine ⟨rfl, ?_⟩
    show J_I (n + 1) sc S (sd_m (kr_m (rb_m (cw_put (cw_put (cw_put (cw_put (cw_put (cw_put (cw_put X x_reader_ 1 0) x_ 14 l) x_log_ 0 0) x_ 18 1) x_ 19 1) x_settler_ 0 (-1)) x_ 16 0) l) Kk))
    have hF : F_m (cw_put (cw_put (cw_put (cw_put (cw_put (cw_put (cw_put X x_reader_ 1 0) x_ 14 l) x_log_ 0 0) x_ 18 1) x_ 19 1) x_settler_ 0 (-1)) x_ 16 0) (sd_m (kr_m (rb_m (cw_put (cw_put (cw_put (cw_put (cw_put (cw_put (cw_put X x_reader_ 1 0) x_ 14 l) x_log_ 0 0) x_ 18 1) x_ 19 1) x_settler_ 0 (-1)) x_ 16 0) l) Kk)) := F_mt (F_mt (F_mp (by decide)) (F_mp (by decide))) (F_mt kr_F sd_F)
    refine J_up (by omega) (sd_ok (kr_ok (la_put (la_put (la_put (la_put (la_put (la_put (la_put (la_put (la_put hX (by decide) (Or.inl rfl)) (by decide) (Or.inl rfl)) (by decide) (Or.inl rfl)) (by decide) (Or.inl rfl)) (by decide) (Or.inl rfl)) (by decide) (Or.inl rfl)) (by decide) (Or.inl rfl)) (by decide) (Or.inl rfl)) (by decide) (Or.inl rfl)))) hF rfl (D_sk hD hk) ⟨hK2, ?_, D_sS hD hZ rfl rfl, E_s1 rfl⟩ (by have z := J_Bm (J_Bd hD hB); exact z) ⟨?_, ⟨rfl, rfl, ?_, ?_⟩, ⟨rfl, ?_, fun i a b => ?_⟩, ?_, j_G0 rfl rfl, ?_⟩ (J_Nm hn (D_sN hs hD hI.2.2.2.2))
    · exact W_mr rfl rfl rfl rfl rfl rfl rfl rfl rfl rfl rfl rfl rfl rfl (W_qe hW2 (D_sh hD1))
    · show j_R (X x_refusals_) ((cw_put (cw_put (cw_put (cw_put (cw_put (cw_put (cw_put X x_reader_ 1 0) x_ 14 l) x_log_ 0 0) x_ 18 1) x_ 19 1) x_settler_ 0 (-1)) x_ 16 0) m_refused_); rw [hA _ (by decide), xm _ (by decide)]; exact hC.1
    · show X x_ 15 = (cw_put (cw_put (cw_put (cw_put (cw_put (cw_put (cw_put X x_reader_ 1 0) x_ 14 l) x_log_ 0 0) x_ 18 1) x_ 19 1) x_settler_ 0 (-1)) x_ 16 0) m_ 45; rw [hA x_ (by decide), em]; exact hC.2.1.2.2.1
    · show X x_reader_ 2 = (cw_put (cw_put (cw_put (cw_put (cw_put (cw_put (cw_put X x_reader_ 1 0) x_ 14 l) x_log_ 0 0) x_ 18 1) x_ 19 1) x_settler_ 0 (-1)) x_ 16 0) m_ 14; rw [hA x_reader_ (by decide), em]; exact hC.2.1.2.2.2
    · show (0 : Int) ≤ 0 ∧ (0 : Int) ≤ 400; decide
    · exact absurd (show i < 0 from b) (by omega)
    · show j_D (X x_ 17) ((cw_put (cw_put (cw_put (cw_put (cw_put (cw_put (cw_put X x_reader_ 1 0) x_ 14 l) x_log_ 0 0) x_ 18 1) x_ 19 1) x_settler_ 0 (-1)) x_ 16 0) m_ 53) ((cw_put (cw_put (cw_put (cw_put (cw_put (cw_put (cw_put X x_reader_ 1 0) x_ 14 l) x_log_ 0 0) x_ 18 1) x_ 19 1) x_settler_ 0 (-1)) x_ 16 0) m_drawnMoved_); rw [hA x_ (by decide), em, xm m_drawnMoved_ (by decide)]; exact hC.2.2.2.1
    · show j_H (cw_put (cw_put (cw_put (cw_put (cw_put (cw_put (cw_put X x_reader_ 1 0) x_ 14 l) x_log_ 0 0) x_ 18 1) x_ 19 1) x_settler_ 0 (-1)) x_ 16 0) Kk ((cw_put (cw_put (cw_put (cw_put (cw_put (cw_put (cw_put X x_reader_ 1 0) x_ 14 l) x_log_ 0 0) x_ 18 1) x_ 19 1) x_settler_ 0 (-1)) x_ 16 0) m_hasImage_) ((cw_put (cw_put (cw_put (cw_put (cw_put (cw_put (cw_put X x_reader_ 1 0) x_ 14 l) x_log_ 0 0) x_ 18 1) x_ 19 1) x_settler_ 0 (-1)) x_ 16 0) m_images_); rw [xm m_hasImage_ (by decide), xm m_images_ (by decide)]
      exact j_Hd hD k9 (show X x_will_lawAt_ = m x_will_lawAt_ from hA _ (by decide)) hC.2.2.2.2.2
