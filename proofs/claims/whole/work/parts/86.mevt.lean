/-! The reference evaluates tests (wip/whole/tools/m86.py). -/
theorem M_evT {c v E : Int → Int} {o : Bool} {n B : Int} : ∀ (f : Nat), (∀ (d : Nat) (m : cw_M) (dp i0 l : Int) (acc : p_D) (ng : Bool) (i1 l1 : Int) (D : p_D) (g0 lv b0 : Int) (nI : Int) (Q : Option cw_V → cw_M → Prop), la_ok m → Z_h m c v o n B E → 0 ≤ i0 → i0 ≤ n → 0 ≤ l → l ≤ 50 → 0 ≤ dp → dp ≤ 8 → (lv = 0 ∨ lv = 1) → (b0 = 0 ∨ b0 = 1) → g0 = B + i0 → 73 - 4 * dp ≤ d → 4 + 5 * (n - i0) ≤ f → nI = (if ng = true then 1 else 0) → p_t c v o f 0 dp i0 l acc ng = .ok (i1, l1, D) → (∀ m2 g2 r b2, la_ok m2 → Z_r o m m2 → g2 = B + i1 → T_s lv b0 (D E) r b2 → Q (some (vi r)) (z_m m2 g2 b2)) → cw_R d k_M_plainOf 2 [vr m_, vi lv, vi nI] [] (z_m m g0 b0) Q) ∧ (∀ (d : Nat) (m : cw_M) (dp i0 l : Int) (acc : p_D) (ng : Bool) (i1 l1 : Int) (D : p_D) (g0 lv b0 : Int) (Q : Option cw_V → cw_M → Prop), la_ok m → Z_h m c v o n B E → 0 ≤ i0 → i0 ≤ n → 0 ≤ l → l ≤ 50 → 0 ≤ dp → dp ≤ 8 → (lv = 0 ∨ lv = 1) → (b0 = 0 ∨ b0 = 1) → g0 = B + i0 → 74 - 4 * dp ≤ d → 5 + 5 * (n - i0) ≤ f → p_t c v o f 1 dp i0 l acc ng = .ok (i1, l1, D) → (∀ m2 g2 r b2, la_ok m2 → Z_r o m m2 → g2 = B + i1 → T_s lv b0 (D E) r b2 → Q (some (vi r)) (z_m m2 g2 b2)) → cw_C d k_M_bothOf [vr m_, vi lv] (z_m m g0 b0) Q) ∧ (∀ (d : Nat) (m : cw_M) (dp i0 l : Int) (acc : p_D) (ng : Bool) (i1 l1 : Int) (D : p_D) (g0 lv b0 : Int) (r0 b1 : Int) (w3 : cw_V) (Q : Option cw_V → cw_M → Prop), la_ok m → Z_h m c v o n B E → 0 ≤ i0 → i0 ≤ n → 0 ≤ l → l ≤ 50 → 0 ≤ dp → dp ≤ 8 → (lv = 0 ∨ lv = 1) → (b0 = 0 ∨ b0 = 1) → g0 = B + i0 → 74 - 4 * dp ≤ d → 1 + 5 * (n - i0) ≤ f → T_s lv b0 (acc E) r0 b1 → p_t c v o f 2 dp i0 l acc ng = .ok (i1, l1, D) → (∀ m2 g2 r b2, la_ok m2 → Z_r o m m2 → g2 = B + i1 → T_s lv b0 (D E) r b2 → Q (some (vi r)) (z_m m2 g2 b2)) → cw_R d k_M_bothOf 6 [vr m_, vi lv, vi r0, w3] [] (z_m m g0 b1) Q) ∧ (∀ (d : Nat) (m : cw_M) (dp i0 l : Int) (acc : p_D) (ng : Bool) (i1 l1 : Int) (D : p_D) (g0 lv b0 : Int) (Q : Option cw_V → cw_M → Prop), la_ok m → Z_h m c v o n B E → 0 ≤ i0 → i0 ≤ n → 0 ≤ l → l ≤ 50 → 0 ≤ dp → dp ≤ 8 → (lv = 0 ∨ lv = 1) → (b0 = 0 ∨ b0 = 1) → g0 = B + i0 → 75 - 4 * dp ≤ d → 6 + 5 * (n - i0) ≤ f → p_t c v o f 3 dp i0 l acc ng = .ok (i1, l1, D) → (∀ m2 g2 r b2, la_ok m2 → Z_r o m m2 → g2 = B + i1 → T_s lv b0 (D E) r b2 → Q (some (vi r)) (z_m m2 g2 b2)) → cw_C d k_M_testOf [vr m_, vi lv] (z_m m g0 b0) Q) ∧ (∀ (d : Nat) (m : cw_M) (dp i0 l : Int) (acc : p_D) (ng : Bool) (i1 l1 : Int) (D : p_D) (g0 lv b0 : Int) (r0 b1 : Int) (w3 : cw_V) (Q : Option cw_V → cw_M → Prop), la_ok m → Z_h m c v o n B E → 0 ≤ i0 → i0 ≤ n → 0 ≤ l → l ≤ 50 → 0 ≤ dp → dp ≤ 8 → (lv = 0 ∨ lv = 1) → (b0 = 0 ∨ b0 = 1) → g0 = B + i0 → 75 - 4 * dp ≤ d → 1 + 5 * (n - i0) ≤ f → T_s lv b0 (acc E) r0 b1 → p_t c v o f 4 dp i0 l acc ng = .ok (i1, l1, D) → (∀ m2 g2 r b2, la_ok m2 → Z_r o m m2 → g2 = B + i1 → T_s lv b0 (D E) r b2 → Q (some (vi r)) (z_m m2 g2 b2)) → cw_R d k_M_testOf 6 [vr m_, vi lv, vi r0, w3] [] (z_m m g0 b1) Q)
  | 0 => ⟨fun d m dp i0 l acc ng i1 l1 D g0 lv b0 nI Q a1 a2 a3 a4 a5 a6 a7 a8 a9 aa ab ac ad => by omega, fun d m dp i0 l acc ng i1 l1 D g0 lv b0 Q a1 a2 a3 a4 a5 a6 a7 a8 a9 aa ab ac ad => by omega, fun d m dp i0 l acc ng i1 l1 D g0 lv b0 r0 b1 w3 Q a1 a2 a3 a4 a5 a6 a7 a8 a9 aa ab ac ad => by omega, fun d m dp i0 l acc ng i1 l1 D g0 lv b0 Q a1 a2 a3 a4 a5 a6 a7 a8 a9 aa ab ac ad => by omega, fun d m dp i0 l acc ng i1 l1 D g0 lv b0 r0 b1 w3 Q a1 a2 a3 a4 a5 a6 a7 a8 a9 aa ab ac ad => by omega⟩
  | f + 1 => by
    have ih := M_evT (c := c) (v := v) (E := E) (o := o) (n := n) (B := B) f
    have ihs := M_evS (c := c) (v := v) (E := E) (o := o) (n := n) (B := B) f
    have plain0 : ∀ (d : Nat) (m : cw_M) (dp i0 l : Int) (acc : p_D) (i1 l1 : Int) (D : p_D) (g0 lv b0 : Int) (Q : Option cw_V → cw_M → Prop), la_ok m → Z_h m c v o n B E → 0 ≤ i0 → i0 ≤ n → 0 ≤ l → l ≤ 50 → 0 ≤ dp → dp ≤ 8 → (lv = 0 ∨ lv = 1) → (b0 = 0 ∨ b0 = 1) → g0 = B + i0 → 73 - 4 * dp ≤ d → 4 + 5 * (n - i0) ≤ f → p_t c v o f 0 dp i0 l acc false = .ok (i1, l1, D) → (∀ m2 g2 r b2, la_ok m2 → Z_r o m m2 → g2 = B + i1 → T_s lv b0 (D E) r b2 → Q (some (vi r)) (z_m m2 g2 b2)) → cw_C d k_M_plainOf [vr m_, vi lv] (z_m m g0 b0) Q := by
      intro d m dp i0 l acc i1 l1 D g0 lv b0 Q hm0 hZ h0 h1 hl0 hl1 hd0 hd8 hlv hb hg hd hf hp hQ
      have hm : la_ok (z_m m g0 b0) := z_m_ok hm0
      refine la_go_C hm 5 [2] ?_
      show cw_R _ _ 2 [vr m_, vi lv, vi 0] [] (z_m m g0 b0) _
      exact ih.1 _ m dp i0 l acc false _ _ _ g0 lv b0 0 Q hm0 hZ (by omega) (by omega) (by omega) (by omega) (by omega) (by omega) (by omega) (by omega) (by omega) (by omega) (by omega) rfl hp hQ
    have plain : ∀ (d : Nat) (m : cw_M) (dp i0 l : Int) (acc : p_D) (ng : Bool) (i1 l1 : Int) (D : p_D) (g0 lv b0 : Int) (Q : Option cw_V → cw_M → Prop), la_ok m → Z_h m c v o n B E → 0 ≤ i0 → i0 ≤ n → 0 ≤ l → l ≤ 50 → 0 ≤ dp → dp ≤ 8 → (lv = 0 ∨ lv = 1) → (b0 = 0 ∨ b0 = 1) → g0 = B + i0 → 73 - 4 * dp ≤ d → 4 + 5 * (n - i0) ≤ f → p_t c v o f 0 dp i0 l acc false = .ok (i1, l1, D) → (∀ m2 g2 r b2, la_ok m2 → Z_r o m m2 → g2 = B + i1 → T_s lv b0 (D E) r b2 → Q (some (vi r)) (z_m m2 g2 b2)) → cw_C d k_M_plainOf [vr m_, vi lv] (z_m m g0 b0) Q := fun d m dp i0 l acc ng => plain0 d m dp i0 l acc
    refine ⟨?_, ?_, ?_, ?_, ?_⟩
    · intro d0 m dp i0 l acc ng i1 l1 D g0 lv b0 nI Q hm0 hZ h0 h1 hl0 hl1 hd0 hd8 hlv hb hg hd hf hn hp hQ
      obtain ⟨d, rfl⟩ : ∃ k, d0 = k + 40 := ⟨d0 - 40, by omega⟩
      have yn := hZ.1
      have hm : la_ok (z_m m g0 b0) := z_m_ok hm0
      have hlt : ∀ z, c z ≠ 0 → z ≤ n → z < n := fun z q z1 => by
        by_cases e : z = n
        · rw [e, hZ.2.1] at q; exact absurd rfl q
        · omega
      have hnI : nI = 0 ∨ nI = 1 := by rw [hn]; cases ng; exact Or.inl rfl; exact Or.inr rfl
      rcases p_t0i hp with ⟨q1, q2⟩ | ⟨q1, q2, i2, D2, q3, q4, q5, q6⟩ | ⟨q1, q2, i2, l2, A, C, q3, q4, q5, q6⟩
      · have hi0 := hlt i0 (by omega) h1
        refine la_go_R hm 13 [2] ?_
        show cw_C _ _ [vr m_, vi 7] (z_m m g0 b0) _
        refine M_passes0Z1 hm0 hZ (i0 := i0) (by omega) (by omega) (by omega) (by omega) ⟨(z_m_ok hm0), ?_⟩
        refine br_f (show ¬ ((1 : Int) = 0) by decide) ?_
        refine And.intro (fun (c21 : nI ≠ 0) => ?_) (fun (c21 : ¬ (nI ≠ 0)) => ?_)
        · have hn2 : (0 : Int) = if (!ng) = true then 1 else 0 := by
            cases ng with
            | true => have hn : nI = 1 := hn; first | rfl | (exfalso; omega)
            | false => have hn : nI = 0 := hn; first | rfl | (exfalso; omega)
          show cw_R _ _ 2 [vr m_, vi lv, vi 0] [] (z_m m (g0 + 1) b0) _
          exact ih.1 _ m dp (i0 + 1) l acc (!ng) _ _ _ (g0 + 1) lv b0 0 Q hm0 hZ (by omega) (by omega) (by omega) (by omega) (by omega) (by omega) (by omega) (by omega) (by omega) (by omega) (by omega) hn2 q2 hQ
        · have hn2 : (1 : Int) = if (!ng) = true then 1 else 0 := by
            cases ng with
            | true => have hn : nI = 1 := hn; first | rfl | (exfalso; omega)
            | false => have hn : nI = 0 := hn; first | rfl | (exfalso; omega)
          show cw_R _ _ 2 [vr m_, vi lv, vi 1] [] (z_m m (g0 + 1) b0) _
          exact ih.1 _ m dp (i0 + 1) l acc (!ng) _ _ _ (g0 + 1) lv b0 1 Q hm0 hZ (by omega) (by omega) (by omega) (by omega) (by omega) (by omega) (by omega) (by omega) (by omega) (by omega) (by omega) hn2 q2 hQ
      · have hi0 := hlt i0 (by omega) h1
        have N2 := p_Nok ((p_tN (c := c) (v := v) (o := o) hZ.2.1 f (dp := dp + 1) (i := i0 + 1) (l := l) (acc := acc) (ng := false) (by omega) (by omega) (by omega) (by omega)).2.2.2.1 (by omega)) q3
        have pos : ∀ (Q' : Option cw_V → cw_M → Prop), (∀ m2 g2 r b2, la_ok m2 → Z_r o m m2 → g2 = B + i1 → T_s lv b0 (D2 E) r b2 → Q' (some (vi r)) (z_m m2 g2 b2)) → cw_C (d + 39) k_M_positiveOf [vr m_, vi lv] (z_m m g0 b0) Q' := by
          intro Q' hQ'
          refine la_go_C hm 20 [] ?_
          show cw_C _ _ [vi 40] (z_m m g0 b0) _
          refine M_sign (by decide) rfl ⟨hm, ?_⟩
          show cw_C _ _ [vr m_, vi 140] (z_m m g0 b0) _
          refine M_passes0Z1 hm0 hZ (i0 := i0) (by omega) (by omega) (by omega) (by omega) ⟨(z_m_ok hm0), ?_⟩
          refine br_f (show ¬ ((1 : Int) = 0) by decide) ?_
          show cw_C _ _ [vr m_, vi lv] (z_m m (g0 + 1) b0) _
          refine ih.2.2.2.1 _ m (dp + 1) (i0 + 1) l acc false _ _ _ (g0 + 1) lv b0 _ hm0 hZ (by omega) (by omega) (by omega) (by omega) (by omega) (by omega) (by omega) (by omega) (by omega) (by omega) (by omega) q3 (fun (m21 : cw_M) (g21 v21 b21 : Int) (hm21 : la_ok m21) (hz21 : Z_r o m m21) (hg21 : g21 = B + i2) (hT21 : T_s lv b0 (D2 E) v21 b21) => ⟨(z_m_ok hm21), ?_⟩)
          have hr21 : Z_r o m m21 := Z_rt Z_rr hz21
          have hZ21 : Z_h m21 c v o n B E := Z_hr hZ hr21
          have wb21 := hT21.1
          have wr21 := hT21.2.1
          obtain ⟨i21, hi21⟩ : ∃ z, z = i2 := ⟨_, rfl⟩
          refine And.intro (show -2147483648 ≤ g21 + 1 ∧ g21 + 1 < 2147483648 by omega) ?_
          have hm22 : la_ok (cw_put (z_m m21 g21 b21) m_ 22 (g21 + 1)) := la_put (z_m_ok hm21) (by decide) (Or.inl rfl)
          refine And.intro (show v21 = 0 ∨ v21 = 1 by omega) ?_
          show Q' (some (vi v21)) (cw_put (z_m m21 g21 b21) m_ 22 (g21 + 1))
          rw [z_m_fgp]
          have hm23 : la_ok (z_m m21 (g21 + 1) b21) := z_m_ok hm21
          exact hQ' m21 _ _ _ hm21 hr21 (by omega) hT21
        refine la_go_R hm 15 [] ?_
        show cw_C _ _ [vr m_, vi 7] (z_m m g0 b0) _
        refine M_passes0Z0 hm0 hZ (i0 := i0) (by omega) (by omega) (by omega) (by omega) ⟨hm, ?_⟩
        refine br_t (show (0 : Int) = 0 by decide) ?_
        show cw_C _ _ [vr m_, vi lv] (z_m m g0 b0) _
        refine pos _ (fun (m21 : cw_M) (g21 v21 b21 : Int) (hm21 : la_ok m21) (hr21 : Z_r o m m21) (hg21 : g21 = B + i1) (hT21 : T_s lv b0 (D2 E) v21 b21) => ⟨(z_m_ok hm21), ?_⟩)
        have wr21 := hT21.2.1
        refine And.intro (fun (c22 : v21 = nI) => ?_) (fun (c22 : ¬ (v21 = nI)) => ?_)
        · refine And.intro (Or.inl rfl) ?_
          show Q (some (vi 0)) (z_m m21 g21 b21)
          refine hQ m21 _ _ _ hm21 hr21 hg21 ?_
          rw [q6]
          exact T_not hT21 hn (by omega)
        · refine And.intro (Or.inr rfl) ?_
          show Q (some (vi 1)) (z_m m21 g21 b21)
          refine hQ m21 _ _ _ hm21 hr21 hg21 ?_
          rw [q6]
          exact T_not hT21 hn (by omega)
      · have N2 := p_Nok ((p_sN (c := c) (v := v) (o := o) hZ.2.1 f (dp := dp) (i := i0) (l := l) (acc := acc) (by omega) (by omega) (by omega) (by omega)).2.2.2.1 (by omega)) q3
        have hi2 := hlt i2 (by omega) (by omega)
        have N3 := p_Nok ((p_sN (c := c) (v := v) (o := o) hZ.2.1 f (dp := dp) (i := i2 + 1) (l := l2) (acc := acc) (by omega) (by omega) (by omega) (by omega)).2.2.2.1 (by omega)) q5
        have pos : ∀ (Q' : Option cw_V → cw_M → Prop), (∀ m2 g2 r b2, la_ok m2 → Z_r o m m2 → g2 = B + i1 → T_s lv b0 ((p_cmp (c i2) A C) E) r b2 → Q' (some (vi r)) (z_m m2 g2 b2)) → cw_C (d + 39) k_M_positiveOf [vr m_, vi lv] (z_m m g0 b0) Q' := by
          intro Q' hQ'
          refine la_go_C hm 48 [] ?_
          show cw_C _ _ [vi 40] (z_m m g0 b0) _
          refine M_sign (by decide) rfl ⟨hm, ?_⟩
          show cw_C _ _ [vr m_, vi 140] (z_m m g0 b0) _
          refine M_passes0Z0 hm0 hZ (i0 := i0) (by omega) (by omega) (by omega) (by omega) ⟨hm, ?_⟩
          refine br_t (show (0 : Int) = 0 by decide) ?_
          show cw_C _ _ [vr m_, vi lv] (z_m m g0 b0) _
          refine ihs.2.2.2.1 _ m dp i0 l acc _ _ _ g0 lv b0 _ hm0 hZ (by omega) (by omega) (by omega) (by omega) (by omega) (by omega) (by omega) (by omega) (by omega) (by omega) (by omega) q3 (fun (m21 : cw_M) (g21 v21 b21 : Int) (hm21 : la_ok m21) (hz21 : Z_r o m m21) (hg21 : g21 = B + i2) (hW21 : W_s lv b0 (A E) v21 b21) => ⟨(z_m_ok hm21), ?_⟩)
          have hr21 : Z_r o m m21 := Z_rt Z_rr hz21
          have hZ21 : Z_h m21 c v o n B E := Z_hr hZ hr21
          have wb21 := hW21.1
          have wr21 := hW21.2.1
          obtain ⟨i21, hi21⟩ : ∃ z, z = i2 := ⟨_, rfl⟩
          show cw_C _ _ [vr m_, vi g21] (z_m m21 g21 b21) _
          refine M_codeAtZ hm21 hZ21 (i0 := i2) (by omega) (by omega) (by omega) ⟨(z_m_ok hm21), ?_⟩
          refine And.intro (show -2147483648 ≤ g21 + 1 ∧ g21 + 1 < 2147483648 by omega) ?_
          have hm22 : la_ok (cw_put (z_m m21 g21 b21) m_ 22 (g21 + 1)) := la_put (z_m_ok hm21) (by decide) (Or.inl rfl)
          show cw_C _ _ [vr m_, vi lv] (cw_put (z_m m21 g21 b21) m_ 22 (g21 + 1)) _
          rw [z_m_fgp]
          have hm23 : la_ok (z_m m21 (g21 + 1) b21) := z_m_ok hm21
          refine ihs.2.2.2.1 _ m21 dp (i2 + 1) l2 acc _ _ _ (g21 + 1) lv b21 _ hm21 hZ21 (by omega) (by omega) (by omega) (by omega) (by omega) (by omega) (by omega) (by omega) (by omega) (by omega) (by omega) q5 (fun (m24 : cw_M) (g24 v24 b24 : Int) (hm24 : la_ok m24) (hz24 : Z_r o m21 m24) (hg24 : g24 = B + i1) (hW24 : W_s lv b21 (C E) v24 b24) => ⟨(z_m_ok hm24), ?_⟩)
          have hr24 : Z_r o m m24 := Z_rt hr21 hz24
          have hZ24 : Z_h m24 c v o n B E := Z_hr hZ hr24
          have wb24 := hW24.1
          have wr24 := hW24.2.1
          obtain ⟨i24, hi24⟩ : ∃ z, z = i1 := ⟨_, rfl⟩
          refine And.intro (fun (c25 : lv = 0) => ?_) (fun (c25 : ¬ (lv = 0)) => ?_)
          · refine And.intro (Or.inl rfl) ?_
            show Q' (some (vi 0)) (z_m m24 g24 b24)
            refine hQ' m24 _ _ _ hm24 hr24 (by omega) (T_cmp hW21 hW24 (by omega) (fun z1 z2 => ?_))
            unfold p_rel
            have l1 := lc_lt (x := v21) (y := v24)
            have l2' := lc_le (x := v21) (y := v24)
            have l3 := lc_eq (x := v21) (y := v24)
            (repeat' split) <;> omega
          · refine And.intro (fun (c26 : b24 ≠ 0) => ?_) (fun (c26 : ¬ (b24 ≠ 0)) => ?_)
            · refine And.intro (Or.inl rfl) ?_
              show Q' (some (vi 0)) (z_m m24 g24 b24)
              refine hQ' m24 _ _ _ hm24 hr24 (by omega) (T_cmp hW21 hW24 (by omega) (fun z1 z2 => ?_))
              unfold p_rel
              have l1 := lc_lt (x := v21) (y := v24)
              have l2' := lc_le (x := v21) (y := v24)
              have l3 := lc_eq (x := v21) (y := v24)
              (repeat' split) <;> omega
            · show cw_C _ _ [vi 60] (z_m m24 g24 b24) _
              refine M_sign (by decide) rfl ⟨(z_m_ok hm24), ?_⟩
              refine And.intro (fun (c27 : c i2 ≠ 160) => ?_) (fun (c27 : ¬ (c i2 ≠ 160)) => ?_)
              · show cw_C _ _ [vi 62] (z_m m24 g24 b24) _
                refine M_sign (by decide) rfl ⟨(z_m_ok hm24), ?_⟩
                refine And.intro (fun (c28 : c i2 ≠ 162) => ?_) (fun (c28 : ¬ (c i2 ≠ 162)) => ?_)
                · refine And.intro (fun (c29 : cw_lc v21 v24 ≠ 0) => ?_) (fun (c29 : ¬ (cw_lc v21 v24 ≠ 0)) => ?_)
                  · refine And.intro (Or.inl rfl) ?_
                    show Q' (some (vi 0)) (z_m m24 g24 b24)
                    refine hQ' m24 _ _ _ hm24 hr24 (by omega) (T_cmp hW21 hW24 (by omega) (fun z1 z2 => ?_))
                    unfold p_rel
                    have l1 := lc_lt (x := v21) (y := v24)
                    have l2' := lc_le (x := v21) (y := v24)
                    have l3 := lc_eq (x := v21) (y := v24)
                    (repeat' split) <;> omega
                  · refine And.intro (Or.inr rfl) ?_
                    show Q' (some (vi 1)) (z_m m24 g24 b24)
                    refine hQ' m24 _ _ _ hm24 hr24 (by omega) (T_cmp hW21 hW24 (by omega) (fun z1 z2 => ?_))
                    unfold p_rel
                    have l1 := lc_lt (x := v21) (y := v24)
                    have l2' := lc_le (x := v21) (y := v24)
                    have l3 := lc_eq (x := v21) (y := v24)
                    (repeat' split) <;> omega
                · refine And.intro (fun (c30 : cw_lc v21 v24 ≤ 0) => ?_) (fun (c30 : ¬ (cw_lc v21 v24 ≤ 0)) => ?_)
                  · refine And.intro (Or.inl rfl) ?_
                    show Q' (some (vi 0)) (z_m m24 g24 b24)
                    refine hQ' m24 _ _ _ hm24 hr24 (by omega) (T_cmp hW21 hW24 (by omega) (fun z1 z2 => ?_))
                    unfold p_rel
                    have l1 := lc_lt (x := v21) (y := v24)
                    have l2' := lc_le (x := v21) (y := v24)
                    have l3 := lc_eq (x := v21) (y := v24)
                    (repeat' split) <;> omega
                  · refine And.intro (Or.inr rfl) ?_
                    show Q' (some (vi 1)) (z_m m24 g24 b24)
                    refine hQ' m24 _ _ _ hm24 hr24 (by omega) (T_cmp hW21 hW24 (by omega) (fun z1 z2 => ?_))
                    unfold p_rel
                    have l1 := lc_lt (x := v21) (y := v24)
                    have l2' := lc_le (x := v21) (y := v24)
                    have l3 := lc_eq (x := v21) (y := v24)
                    (repeat' split) <;> omega
              · refine And.intro (fun (c31 : 0 ≤ cw_lc v21 v24) => ?_) (fun (c31 : ¬ (0 ≤ cw_lc v21 v24)) => ?_)
                · refine And.intro (Or.inl rfl) ?_
                  show Q' (some (vi 0)) (z_m m24 g24 b24)
                  refine hQ' m24 _ _ _ hm24 hr24 (by omega) (T_cmp hW21 hW24 (by omega) (fun z1 z2 => ?_))
                  unfold p_rel
                  have l1 := lc_lt (x := v21) (y := v24)
                  have l2' := lc_le (x := v21) (y := v24)
                  have l3 := lc_eq (x := v21) (y := v24)
                  (repeat' split) <;> omega
                · refine And.intro (Or.inr rfl) ?_
                  show Q' (some (vi 1)) (z_m m24 g24 b24)
                  refine hQ' m24 _ _ _ hm24 hr24 (by omega) (T_cmp hW21 hW24 (by omega) (fun z1 z2 => ?_))
                  unfold p_rel
                  have l1 := lc_lt (x := v21) (y := v24)
                  have l2' := lc_le (x := v21) (y := v24)
                  have l3 := lc_eq (x := v21) (y := v24)
                  (repeat' split) <;> omega
        refine la_go_R hm 15 [] ?_
        show cw_C _ _ [vr m_, vi 7] (z_m m g0 b0) _
        refine M_passes0Z0 hm0 hZ (i0 := i0) (by omega) (by omega) (by omega) (by omega) ⟨hm, ?_⟩
        refine br_t (show (0 : Int) = 0 by decide) ?_
        show cw_C _ _ [vr m_, vi lv] (z_m m g0 b0) _
        refine pos _ (fun (m21 : cw_M) (g21 v21 b21 : Int) (hm21 : la_ok m21) (hr21 : Z_r o m m21) (hg21 : g21 = B + i1) (hT21 : T_s lv b0 ((p_cmp (c i2) A C) E) v21 b21) => ⟨(z_m_ok hm21), ?_⟩)
        have wr21 := hT21.2.1
        refine And.intro (fun (c22 : v21 = nI) => ?_) (fun (c22 : ¬ (v21 = nI)) => ?_)
        · refine And.intro (Or.inl rfl) ?_
          show Q (some (vi 0)) (z_m m21 g21 b21)
          refine hQ m21 _ _ _ hm21 hr21 hg21 ?_
          rw [q6]
          exact T_not hT21 hn (by omega)
        · refine And.intro (Or.inr rfl) ?_
          show Q (some (vi 1)) (z_m m21 g21 b21)
          refine hQ m21 _ _ _ hm21 hr21 hg21 ?_
          rw [q6]
          exact T_not hT21 hn (by omega)
    · intro d0 m dp i0 l acc ng i1 l1 D g0 lv b0 Q hm0 hZ h0 h1 hl0 hl1 hd0 hd8 hlv hb hg hd hf hp hQ
      obtain ⟨d, rfl⟩ : ∃ k, d0 = k + 41 := ⟨d0 - 41, by omega⟩
      have yn := hZ.1
      have hm : la_ok (z_m m g0 b0) := z_m_ok hm0
      have hlt : ∀ z, c z ≠ 0 → z ≤ n → z < n := fun z q z1 => by
        by_cases e : z = n
        · rw [e, hZ.2.1] at q; exact absurd rfl q
        · omega
      obtain ⟨i2, l2, D2, e2, e3⟩ := p_t1i hp
      have N2 := p_Nok ((p_tN (c := c) (v := v) (o := o) hZ.2.1 f (dp := dp) (i := i0) (l := l) (acc := acc) (ng := false) (by omega) (by omega) (by omega) (by omega)).1 (by omega)) e2
      refine la_go_C hm 7 [6] ?_
      show cw_C _ _ [vr m_, vi lv] (z_m m g0 b0) _
      refine plain _ m dp i0 l acc false _ _ _ g0 lv b0 _ hm0 hZ (by omega) (by omega) (by omega) (by omega) (by omega) (by omega) (by omega) (by omega) (by omega) (by omega) (by omega) e2 (fun (m21 : cw_M) (g21 v21 b21 : Int) (hm21 : la_ok m21) (hz21 : Z_r o m m21) (hg21 : g21 = B + i2) (hT21 : T_s lv b0 (D2 E) v21 b21) => ⟨(z_m_ok hm21), ?_⟩)
      have hr21 : Z_r o m m21 := Z_rt Z_rr hz21
      have hZ21 : Z_h m21 c v o n B E := Z_hr hZ hr21
      have wb21 := hT21.1
      have wr21 := hT21.2.1
      obtain ⟨i21, hi21⟩ : ∃ z, z = i2 := ⟨_, rfl⟩
      show cw_R _ _ 6 [vr m_, vi lv, vi v21, none] [] (z_m m21 g21 b21) _
      exact ih.2.2.1 _ m21 dp i2 l2 D2 false _ _ _ g21 lv b0 v21 b21 _ Q hm21 hZ21 (by omega) (by omega) (by omega) (by omega) (by omega) (by omega) (by omega) (by omega) (by omega) (by omega) (by omega) hT21 e3 (fun mz gz rz bz a1 a2 a3 a4 => hQ mz gz rz bz a1 (Z_rt hr21 a2) a3 a4)
    · intro d0 m dp i0 l acc ng i1 l1 D g0 lv b0 r0 b1 w3 Q hm0 hZ h0 h1 hl0 hl1 hd0 hd8 hlv hb hg hd hf hW hp hQ
      obtain ⟨d, rfl⟩ : ∃ k, d0 = k + 41 := ⟨d0 - 41, by omega⟩
      have yn := hZ.1
      have hm : la_ok (z_m m g0 b1) := z_m_ok hm0
      have hlt : ∀ z, c z ≠ 0 → z ≤ n → z < n := fun z q z1 => by
        by_cases e : z = n
        · rw [e, hZ.2.1] at q; exact absurd rfl q
        · omega
      have wb1 := hW.1
      have wr0 := hW.2.1
      rcases p_t2i hp with ⟨p1, i2, l2, D2, e2, e3⟩ | ⟨p1, p3⟩
      · have hi0 := hlt i0 (by omega) h1
        have N2 := p_Nok ((p_tN (c := c) (v := v) (o := o) hZ.2.1 f (dp := dp) (i := i0 + 1) (l := l) (acc := acc) (ng := false) (by omega) (by omega) (by omega) (by omega)).1 (by omega)) e2
        refine la_go_R hm 24 [6] ?_
        show cw_C _ _ [vr m_, vi 6] (z_m m g0 b1) _
        refine M_passes0Z1 hm0 hZ (i0 := i0) (by omega) (by omega) (by omega) (by omega) ⟨(z_m_ok hm0), ?_⟩
        refine br_f (show ¬ ((1 : Int) = 0) by decide) ?_
        refine And.intro (fun (c21 : lv = 0) => ?_) (fun (c21 : ¬ (lv = 0)) => ?_)
        · show cw_C _ _ [vr m_, vi 0] (z_m m (g0 + 1) b1) _
          refine plain _ m dp (i0 + 1) l acc false _ _ _ (g0 + 1) 0 b1 _ hm0 hZ (by omega) (by omega) (by omega) (by omega) (by omega) (by omega) (by omega) (by omega) (by omega) (by omega) (by omega) e2 (fun (m22 : cw_M) (g22 v22 b22 : Int) (hm22 : la_ok m22) (hz22 : Z_r o m m22) (hg22 : g22 = B + i2) (hT22 : T_s 0 b1 (D2 E) v22 b22) => ⟨(z_m_ok hm22), ?_⟩)
          have hr22 : Z_r o m m22 := Z_rt Z_rr hz22
          have hZ22 : Z_h m22 c v o n B E := Z_hr hZ hr22
          have wb22 := hT22.1
          have wr22 := hT22.2.1
          obtain ⟨i22, hi22⟩ : ∃ z, z = i2 := ⟨_, rfl⟩
          refine And.intro (fun (c23 : r0 = 0) => ?_) (fun (c23 : ¬ (r0 = 0)) => ?_)
          · show cw_R _ _ 6 [vr m_, vi lv, vi 0, vi v22] [] (z_m m22 g22 b22) _
            have hW2 : T_s lv b0 (p_and acc D2 E) 0 b22 := T_and hW hT22 (by omega) (by omega)
            exact ih.2.2.1 _ m22 dp i2 l2 _ false _ _ _ g22 lv b0 0 b22 _ Q hm22 hZ22 (by omega) (by omega) (by omega) (by omega) (by omega) (by omega) (by omega) (by omega) (by omega) (by omega) (by omega) hW2 e3 (fun mz gz rz bz a1 a2 a3 a4 => hQ mz gz rz bz a1 (Z_rt hr22 a2) a3 a4)
          · refine And.intro (fun (c24 : v22 = 0) => ?_) (fun (c24 : ¬ (v22 = 0)) => ?_)
            · show cw_R _ _ 6 [vr m_, vi lv, vi 0, vi v22] [] (z_m m22 g22 b22) _
              have hW2 : T_s lv b0 (p_and acc D2 E) 0 b22 := T_and hW hT22 (by omega) (by omega)
              exact ih.2.2.1 _ m22 dp i2 l2 _ false _ _ _ g22 lv b0 0 b22 _ Q hm22 hZ22 (by omega) (by omega) (by omega) (by omega) (by omega) (by omega) (by omega) (by omega) (by omega) (by omega) (by omega) hW2 e3 (fun mz gz rz bz a1 a2 a3 a4 => hQ mz gz rz bz a1 (Z_rt hr22 a2) a3 a4)
            · show cw_R _ _ 6 [vr m_, vi lv, vi 1, vi v22] [] (z_m m22 g22 b22) _
              have hW2 : T_s lv b0 (p_and acc D2 E) 1 b22 := T_and hW hT22 (by omega) (by omega)
              exact ih.2.2.1 _ m22 dp i2 l2 _ false _ _ _ g22 lv b0 1 b22 _ Q hm22 hZ22 (by omega) (by omega) (by omega) (by omega) (by omega) (by omega) (by omega) (by omega) (by omega) (by omega) (by omega) hW2 e3 (fun mz gz rz bz a1 a2 a3 a4 => hQ mz gz rz bz a1 (Z_rt hr22 a2) a3 a4)
        · refine And.intro (fun (c25 : r0 = 0) => ?_) (fun (c25 : ¬ (r0 = 0)) => ?_)
          · show cw_C _ _ [vr m_, vi 0] (z_m m (g0 + 1) b1) _
            refine plain _ m dp (i0 + 1) l acc false _ _ _ (g0 + 1) 0 b1 _ hm0 hZ (by omega) (by omega) (by omega) (by omega) (by omega) (by omega) (by omega) (by omega) (by omega) (by omega) (by omega) e2 (fun (m26 : cw_M) (g26 v26 b26 : Int) (hm26 : la_ok m26) (hz26 : Z_r o m m26) (hg26 : g26 = B + i2) (hT26 : T_s 0 b1 (D2 E) v26 b26) => ⟨(z_m_ok hm26), ?_⟩)
            have hr26 : Z_r o m m26 := Z_rt Z_rr hz26
            have hZ26 : Z_h m26 c v o n B E := Z_hr hZ hr26
            have wb26 := hT26.1
            have wr26 := hT26.2.1
            obtain ⟨i26, hi26⟩ : ∃ z, z = i2 := ⟨_, rfl⟩
            refine And.intro (fun (c27 : r0 = 0) => ?_) (fun (c27 : ¬ (r0 = 0)) => ?_)
            · show cw_R _ _ 6 [vr m_, vi lv, vi 0, vi v26] [] (z_m m26 g26 b26) _
              have hW2 : T_s lv b0 (p_and acc D2 E) 0 b26 := T_and hW hT26 (by omega) (by omega)
              exact ih.2.2.1 _ m26 dp i2 l2 _ false _ _ _ g26 lv b0 0 b26 _ Q hm26 hZ26 (by omega) (by omega) (by omega) (by omega) (by omega) (by omega) (by omega) (by omega) (by omega) (by omega) (by omega) hW2 e3 (fun mz gz rz bz a1 a2 a3 a4 => hQ mz gz rz bz a1 (Z_rt hr26 a2) a3 a4)
            · refine And.intro (fun (c28 : v26 = 0) => ?_) (fun (c28 : ¬ (v26 = 0)) => ?_)
              · show cw_R _ _ 6 [vr m_, vi lv, vi 0, vi v26] [] (z_m m26 g26 b26) _
                have hW2 : T_s lv b0 (p_and acc D2 E) 0 b26 := T_and hW hT26 (by omega) (by omega)
                exact ih.2.2.1 _ m26 dp i2 l2 _ false _ _ _ g26 lv b0 0 b26 _ Q hm26 hZ26 (by omega) (by omega) (by omega) (by omega) (by omega) (by omega) (by omega) (by omega) (by omega) (by omega) (by omega) hW2 e3 (fun mz gz rz bz a1 a2 a3 a4 => hQ mz gz rz bz a1 (Z_rt hr26 a2) a3 a4)
              · show cw_R _ _ 6 [vr m_, vi lv, vi 1, vi v26] [] (z_m m26 g26 b26) _
                have hW2 : T_s lv b0 (p_and acc D2 E) 1 b26 := T_and hW hT26 (by omega) (by omega)
                exact ih.2.2.1 _ m26 dp i2 l2 _ false _ _ _ g26 lv b0 1 b26 _ Q hm26 hZ26 (by omega) (by omega) (by omega) (by omega) (by omega) (by omega) (by omega) (by omega) (by omega) (by omega) (by omega) hW2 e3 (fun mz gz rz bz a1 a2 a3 a4 => hQ mz gz rz bz a1 (Z_rt hr26 a2) a3 a4)
          · show cw_C _ _ [vr m_, vi 1] (z_m m (g0 + 1) b1) _
            refine plain _ m dp (i0 + 1) l acc false _ _ _ (g0 + 1) 1 b1 _ hm0 hZ (by omega) (by omega) (by omega) (by omega) (by omega) (by omega) (by omega) (by omega) (by omega) (by omega) (by omega) e2 (fun (m29 : cw_M) (g29 v29 b29 : Int) (hm29 : la_ok m29) (hz29 : Z_r o m m29) (hg29 : g29 = B + i2) (hT29 : T_s 1 b1 (D2 E) v29 b29) => ⟨(z_m_ok hm29), ?_⟩)
            have hr29 : Z_r o m m29 := Z_rt Z_rr hz29
            have hZ29 : Z_h m29 c v o n B E := Z_hr hZ hr29
            have wb29 := hT29.1
            have wr29 := hT29.2.1
            obtain ⟨i29, hi29⟩ : ∃ z, z = i2 := ⟨_, rfl⟩
            refine And.intro (fun (c30 : r0 = 0) => ?_) (fun (c30 : ¬ (r0 = 0)) => ?_)
            · show cw_R _ _ 6 [vr m_, vi lv, vi 0, vi v29] [] (z_m m29 g29 b29) _
              have hW2 : T_s lv b0 (p_and acc D2 E) 0 b29 := T_and hW hT29 (by omega) (by omega)
              exact ih.2.2.1 _ m29 dp i2 l2 _ false _ _ _ g29 lv b0 0 b29 _ Q hm29 hZ29 (by omega) (by omega) (by omega) (by omega) (by omega) (by omega) (by omega) (by omega) (by omega) (by omega) (by omega) hW2 e3 (fun mz gz rz bz a1 a2 a3 a4 => hQ mz gz rz bz a1 (Z_rt hr29 a2) a3 a4)
            · refine And.intro (fun (c31 : v29 = 0) => ?_) (fun (c31 : ¬ (v29 = 0)) => ?_)
              · show cw_R _ _ 6 [vr m_, vi lv, vi 0, vi v29] [] (z_m m29 g29 b29) _
                have hW2 : T_s lv b0 (p_and acc D2 E) 0 b29 := T_and hW hT29 (by omega) (by omega)
                exact ih.2.2.1 _ m29 dp i2 l2 _ false _ _ _ g29 lv b0 0 b29 _ Q hm29 hZ29 (by omega) (by omega) (by omega) (by omega) (by omega) (by omega) (by omega) (by omega) (by omega) (by omega) (by omega) hW2 e3 (fun mz gz rz bz a1 a2 a3 a4 => hQ mz gz rz bz a1 (Z_rt hr29 a2) a3 a4)
              · show cw_R _ _ 6 [vr m_, vi lv, vi 1, vi v29] [] (z_m m29 g29 b29) _
                have hW2 : T_s lv b0 (p_and acc D2 E) 1 b29 := T_and hW hT29 (by omega) (by omega)
                exact ih.2.2.1 _ m29 dp i2 l2 _ false _ _ _ g29 lv b0 1 b29 _ Q hm29 hZ29 (by omega) (by omega) (by omega) (by omega) (by omega) (by omega) (by omega) (by omega) (by omega) (by omega) (by omega) hW2 e3 (fun mz gz rz bz a1 a2 a3 a4 => hQ mz gz rz bz a1 (Z_rt hr29 a2) a3 a4)
      · refine la_go_R hm 9 [6] ?_
        show cw_C _ _ [vr m_, vi 6] (z_m m g0 b1) _
        refine M_passes0Z0 hm0 hZ (i0 := i0) (by omega) (by omega) (by omega) (by omega) ⟨hm, ?_⟩
        refine br_t (show (0 : Int) = 0 by decide) ?_
        refine And.intro (show r0 = 0 ∨ r0 = 1 by omega) ?_
        show Q (some (vi r0)) (z_m m g0 b1)
        obtain ⟨a1, a2, a3⟩ := p3
        exact hQ m _ _ _ hm0 Z_rr (by omega) (by rw [a3]; exact hW)
    · intro d0 m dp i0 l acc ng i1 l1 D g0 lv b0 Q hm0 hZ h0 h1 hl0 hl1 hd0 hd8 hlv hb hg hd hf hp hQ
      obtain ⟨d, rfl⟩ : ∃ k, d0 = k + 42 := ⟨d0 - 42, by omega⟩
      have yn := hZ.1
      have hm : la_ok (z_m m g0 b0) := z_m_ok hm0
      have hlt : ∀ z, c z ≠ 0 → z ≤ n → z < n := fun z q z1 => by
        by_cases e : z = n
        · rw [e, hZ.2.1] at q; exact absurd rfl q
        · omega
      obtain ⟨i2, l2, D2, e2, e3⟩ := p_t3i hp
      have N2 := p_Nok ((p_tN (c := c) (v := v) (o := o) hZ.2.1 f (dp := dp) (i := i0) (l := l) (acc := acc) (ng := false) (by omega) (by omega) (by omega) (by omega)).2.1 (by omega)) e2
      refine la_go_C hm 7 [6] ?_
      show cw_C _ _ [vr m_, vi lv] (z_m m g0 b0) _
      refine ih.2.1 _ m dp i0 l acc false _ _ _ g0 lv b0 _ hm0 hZ (by omega) (by omega) (by omega) (by omega) (by omega) (by omega) (by omega) (by omega) (by omega) (by omega) (by omega) e2 (fun (m21 : cw_M) (g21 v21 b21 : Int) (hm21 : la_ok m21) (hz21 : Z_r o m m21) (hg21 : g21 = B + i2) (hT21 : T_s lv b0 (D2 E) v21 b21) => ⟨(z_m_ok hm21), ?_⟩)
      have hr21 : Z_r o m m21 := Z_rt Z_rr hz21
      have hZ21 : Z_h m21 c v o n B E := Z_hr hZ hr21
      have wb21 := hT21.1
      have wr21 := hT21.2.1
      obtain ⟨i21, hi21⟩ : ∃ z, z = i2 := ⟨_, rfl⟩
      show cw_R _ _ 6 [vr m_, vi lv, vi v21, none] [] (z_m m21 g21 b21) _
      exact ih.2.2.2.2 _ m21 dp i2 l2 D2 false _ _ _ g21 lv b0 v21 b21 _ Q hm21 hZ21 (by omega) (by omega) (by omega) (by omega) (by omega) (by omega) (by omega) (by omega) (by omega) (by omega) (by omega) hT21 e3 (fun mz gz rz bz a1 a2 a3 a4 => hQ mz gz rz bz a1 (Z_rt hr21 a2) a3 a4)
    · intro d0 m dp i0 l acc ng i1 l1 D g0 lv b0 r0 b1 w3 Q hm0 hZ h0 h1 hl0 hl1 hd0 hd8 hlv hb hg hd hf hW hp hQ
      obtain ⟨d, rfl⟩ : ∃ k, d0 = k + 42 := ⟨d0 - 42, by omega⟩
      have yn := hZ.1
      have hm : la_ok (z_m m g0 b1) := z_m_ok hm0
      have hlt : ∀ z, c z ≠ 0 → z ≤ n → z < n := fun z q z1 => by
        by_cases e : z = n
        · rw [e, hZ.2.1] at q; exact absurd rfl q
        · omega
      have wb1 := hW.1
      have wr0 := hW.2.1
      rcases p_t4i hp with ⟨p1, i2, l2, D2, e2, e3⟩ | ⟨p1, p3⟩
      · have hi0 := hlt i0 (by omega) h1
        have N2 := p_Nok ((p_tN (c := c) (v := v) (o := o) hZ.2.1 f (dp := dp) (i := i0 + 1) (l := l) (acc := acc) (ng := false) (by omega) (by omega) (by omega) (by omega)).2.1 (by omega)) e2
        refine la_go_R hm 24 [6] ?_
        show cw_C _ _ [vr m_, vi 5] (z_m m g0 b1) _
        refine M_passes0Z1 hm0 hZ (i0 := i0) (by omega) (by omega) (by omega) (by omega) ⟨(z_m_ok hm0), ?_⟩
        refine br_f (show ¬ ((1 : Int) = 0) by decide) ?_
        refine And.intro (fun (c21 : lv = 0) => ?_) (fun (c21 : ¬ (lv = 0)) => ?_)
        · show cw_C _ _ [vr m_, vi 0] (z_m m (g0 + 1) b1) _
          refine ih.2.1 _ m dp (i0 + 1) l acc false _ _ _ (g0 + 1) 0 b1 _ hm0 hZ (by omega) (by omega) (by omega) (by omega) (by omega) (by omega) (by omega) (by omega) (by omega) (by omega) (by omega) e2 (fun (m22 : cw_M) (g22 v22 b22 : Int) (hm22 : la_ok m22) (hz22 : Z_r o m m22) (hg22 : g22 = B + i2) (hT22 : T_s 0 b1 (D2 E) v22 b22) => ⟨(z_m_ok hm22), ?_⟩)
          have hr22 : Z_r o m m22 := Z_rt Z_rr hz22
          have hZ22 : Z_h m22 c v o n B E := Z_hr hZ hr22
          have wb22 := hT22.1
          have wr22 := hT22.2.1
          obtain ⟨i22, hi22⟩ : ∃ z, z = i2 := ⟨_, rfl⟩
          refine And.intro (fun (c23 : r0 ≠ 0) => ?_) (fun (c23 : ¬ (r0 ≠ 0)) => ?_)
          · show cw_R _ _ 6 [vr m_, vi lv, vi 1, vi v22] [] (z_m m22 g22 b22) _
            have hW2 : T_s lv b0 (p_or acc D2 E) 1 b22 := T_or hW hT22 (by omega) (by omega)
            exact ih.2.2.2.2 _ m22 dp i2 l2 _ false _ _ _ g22 lv b0 1 b22 _ Q hm22 hZ22 (by omega) (by omega) (by omega) (by omega) (by omega) (by omega) (by omega) (by omega) (by omega) (by omega) (by omega) hW2 e3 (fun mz gz rz bz a1 a2 a3 a4 => hQ mz gz rz bz a1 (Z_rt hr22 a2) a3 a4)
          · refine And.intro (fun (c24 : v22 = 0) => ?_) (fun (c24 : ¬ (v22 = 0)) => ?_)
            · show cw_R _ _ 6 [vr m_, vi lv, vi 0, vi v22] [] (z_m m22 g22 b22) _
              have hW2 : T_s lv b0 (p_or acc D2 E) 0 b22 := T_or hW hT22 (by omega) (by omega)
              exact ih.2.2.2.2 _ m22 dp i2 l2 _ false _ _ _ g22 lv b0 0 b22 _ Q hm22 hZ22 (by omega) (by omega) (by omega) (by omega) (by omega) (by omega) (by omega) (by omega) (by omega) (by omega) (by omega) hW2 e3 (fun mz gz rz bz a1 a2 a3 a4 => hQ mz gz rz bz a1 (Z_rt hr22 a2) a3 a4)
            · show cw_R _ _ 6 [vr m_, vi lv, vi 1, vi v22] [] (z_m m22 g22 b22) _
              have hW2 : T_s lv b0 (p_or acc D2 E) 1 b22 := T_or hW hT22 (by omega) (by omega)
              exact ih.2.2.2.2 _ m22 dp i2 l2 _ false _ _ _ g22 lv b0 1 b22 _ Q hm22 hZ22 (by omega) (by omega) (by omega) (by omega) (by omega) (by omega) (by omega) (by omega) (by omega) (by omega) (by omega) hW2 e3 (fun mz gz rz bz a1 a2 a3 a4 => hQ mz gz rz bz a1 (Z_rt hr22 a2) a3 a4)
        · refine And.intro (fun (c25 : r0 ≠ 0) => ?_) (fun (c25 : ¬ (r0 ≠ 0)) => ?_)
          · show cw_C _ _ [vr m_, vi 0] (z_m m (g0 + 1) b1) _
            refine ih.2.1 _ m dp (i0 + 1) l acc false _ _ _ (g0 + 1) 0 b1 _ hm0 hZ (by omega) (by omega) (by omega) (by omega) (by omega) (by omega) (by omega) (by omega) (by omega) (by omega) (by omega) e2 (fun (m26 : cw_M) (g26 v26 b26 : Int) (hm26 : la_ok m26) (hz26 : Z_r o m m26) (hg26 : g26 = B + i2) (hT26 : T_s 0 b1 (D2 E) v26 b26) => ⟨(z_m_ok hm26), ?_⟩)
            have hr26 : Z_r o m m26 := Z_rt Z_rr hz26
            have hZ26 : Z_h m26 c v o n B E := Z_hr hZ hr26
            have wb26 := hT26.1
            have wr26 := hT26.2.1
            obtain ⟨i26, hi26⟩ : ∃ z, z = i2 := ⟨_, rfl⟩
            refine And.intro (fun (c27 : r0 ≠ 0) => ?_) (fun (c27 : ¬ (r0 ≠ 0)) => ?_)
            · show cw_R _ _ 6 [vr m_, vi lv, vi 1, vi v26] [] (z_m m26 g26 b26) _
              have hW2 : T_s lv b0 (p_or acc D2 E) 1 b26 := T_or hW hT26 (by omega) (by omega)
              exact ih.2.2.2.2 _ m26 dp i2 l2 _ false _ _ _ g26 lv b0 1 b26 _ Q hm26 hZ26 (by omega) (by omega) (by omega) (by omega) (by omega) (by omega) (by omega) (by omega) (by omega) (by omega) (by omega) hW2 e3 (fun mz gz rz bz a1 a2 a3 a4 => hQ mz gz rz bz a1 (Z_rt hr26 a2) a3 a4)
            · refine And.intro (fun (c28 : v26 = 0) => ?_) (fun (c28 : ¬ (v26 = 0)) => ?_)
              · show cw_R _ _ 6 [vr m_, vi lv, vi 0, vi v26] [] (z_m m26 g26 b26) _
                have hW2 : T_s lv b0 (p_or acc D2 E) 0 b26 := T_or hW hT26 (by omega) (by omega)
                exact ih.2.2.2.2 _ m26 dp i2 l2 _ false _ _ _ g26 lv b0 0 b26 _ Q hm26 hZ26 (by omega) (by omega) (by omega) (by omega) (by omega) (by omega) (by omega) (by omega) (by omega) (by omega) (by omega) hW2 e3 (fun mz gz rz bz a1 a2 a3 a4 => hQ mz gz rz bz a1 (Z_rt hr26 a2) a3 a4)
              · show cw_R _ _ 6 [vr m_, vi lv, vi 1, vi v26] [] (z_m m26 g26 b26) _
                have hW2 : T_s lv b0 (p_or acc D2 E) 1 b26 := T_or hW hT26 (by omega) (by omega)
                exact ih.2.2.2.2 _ m26 dp i2 l2 _ false _ _ _ g26 lv b0 1 b26 _ Q hm26 hZ26 (by omega) (by omega) (by omega) (by omega) (by omega) (by omega) (by omega) (by omega) (by omega) (by omega) (by omega) hW2 e3 (fun mz gz rz bz a1 a2 a3 a4 => hQ mz gz rz bz a1 (Z_rt hr26 a2) a3 a4)
          · show cw_C _ _ [vr m_, vi 1] (z_m m (g0 + 1) b1) _
            refine ih.2.1 _ m dp (i0 + 1) l acc false _ _ _ (g0 + 1) 1 b1 _ hm0 hZ (by omega) (by omega) (by omega) (by omega) (by omega) (by omega) (by omega) (by omega) (by omega) (by omega) (by omega) e2 (fun (m29 : cw_M) (g29 v29 b29 : Int) (hm29 : la_ok m29) (hz29 : Z_r o m m29) (hg29 : g29 = B + i2) (hT29 : T_s 1 b1 (D2 E) v29 b29) => ⟨(z_m_ok hm29), ?_⟩)
            have hr29 : Z_r o m m29 := Z_rt Z_rr hz29
            have hZ29 : Z_h m29 c v o n B E := Z_hr hZ hr29
            have wb29 := hT29.1
            have wr29 := hT29.2.1
            obtain ⟨i29, hi29⟩ : ∃ z, z = i2 := ⟨_, rfl⟩
            refine And.intro (fun (c30 : r0 ≠ 0) => ?_) (fun (c30 : ¬ (r0 ≠ 0)) => ?_)
            · show cw_R _ _ 6 [vr m_, vi lv, vi 1, vi v29] [] (z_m m29 g29 b29) _
              have hW2 : T_s lv b0 (p_or acc D2 E) 1 b29 := T_or hW hT29 (by omega) (by omega)
              exact ih.2.2.2.2 _ m29 dp i2 l2 _ false _ _ _ g29 lv b0 1 b29 _ Q hm29 hZ29 (by omega) (by omega) (by omega) (by omega) (by omega) (by omega) (by omega) (by omega) (by omega) (by omega) (by omega) hW2 e3 (fun mz gz rz bz a1 a2 a3 a4 => hQ mz gz rz bz a1 (Z_rt hr29 a2) a3 a4)
            · refine And.intro (fun (c31 : v29 = 0) => ?_) (fun (c31 : ¬ (v29 = 0)) => ?_)
              · show cw_R _ _ 6 [vr m_, vi lv, vi 0, vi v29] [] (z_m m29 g29 b29) _
                have hW2 : T_s lv b0 (p_or acc D2 E) 0 b29 := T_or hW hT29 (by omega) (by omega)
                exact ih.2.2.2.2 _ m29 dp i2 l2 _ false _ _ _ g29 lv b0 0 b29 _ Q hm29 hZ29 (by omega) (by omega) (by omega) (by omega) (by omega) (by omega) (by omega) (by omega) (by omega) (by omega) (by omega) hW2 e3 (fun mz gz rz bz a1 a2 a3 a4 => hQ mz gz rz bz a1 (Z_rt hr29 a2) a3 a4)
              · show cw_R _ _ 6 [vr m_, vi lv, vi 1, vi v29] [] (z_m m29 g29 b29) _
                have hW2 : T_s lv b0 (p_or acc D2 E) 1 b29 := T_or hW hT29 (by omega) (by omega)
                exact ih.2.2.2.2 _ m29 dp i2 l2 _ false _ _ _ g29 lv b0 1 b29 _ Q hm29 hZ29 (by omega) (by omega) (by omega) (by omega) (by omega) (by omega) (by omega) (by omega) (by omega) (by omega) (by omega) hW2 e3 (fun mz gz rz bz a1 a2 a3 a4 => hQ mz gz rz bz a1 (Z_rt hr29 a2) a3 a4)
      · refine la_go_R hm 9 [6] ?_
        show cw_C _ _ [vr m_, vi 5] (z_m m g0 b1) _
        refine M_passes0Z0 hm0 hZ (i0 := i0) (by omega) (by omega) (by omega) (by omega) ⟨hm, ?_⟩
        refine br_t (show (0 : Int) = 0 by decide) ?_
        refine And.intro (show r0 = 0 ∨ r0 = 1 by omega) ?_
        show Q (some (vi r0)) (z_m m g0 b1)
        obtain ⟨a1, a2, a3⟩ := p3
        exact hQ m _ _ _ hm0 Z_rr (by omega) (by rw [a3]; exact hW)
