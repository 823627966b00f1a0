/-! What a law tells, by the reference (wip/whole/tools/m88.py). -/
theorem M_sumL {d : Nat} {m : cw_M} {Q : Option cw_V → cw_M → Prop} {c v E : Int → Int} {n B : Int} (hm0 : la_ok m) (hZ : Z_h m c v false n B E) {i0 l i1 l1 g0 lv b0 : Int} {D : p_D} (h0 : 0 ≤ i0) (h1 : i0 ≤ n) (hl0 : 0 ≤ l) (hl1 : l ≤ 50) (hlv : lv = 0 ∨ lv = 1) (hb : b0 = 0 ∨ b0 = 1) (hg : g0 = B + i0) (hp : p_s c v false 2100 3 0 i0 l p_z = .ok (i1, l1, D)) (hQ : ∀ g r b2, g = B + i1 → W_s lv b0 (D E) r b2 → Q (some (vl r)) (z_m m g b2)) : cw_C (d + 37) k_M_sumOf [vr m_, vi lv] (z_m m g0 b0) Q :=
  (M_evS (c := c) (v := v) (E := E) (o := false) (n := n) (B := B) 2100).2.2.2.1 (d + 37) m 0 i0 l p_z i1 l1 D g0 lv b0 Q hm0 hZ h0 h1 hl0 hl1 (by decide) (by decide) hlv hb hg (by omega) (by have := hZ.1; omega) hp (fun m2 g2 r b2 _ a2 a3 a4 => by rw [a2.1 rfl]; exact hQ g2 r b2 a3 a4)
theorem M_testL {d : Nat} {m : cw_M} {Q : Option cw_V → cw_M → Prop} {c v E : Int → Int} {n B : Int} (hm0 : la_ok m) (hZ : Z_h m c v false n B E) {i0 l i1 l1 g0 lv b0 : Int} {D : p_D} (h0 : 0 ≤ i0) (h1 : i0 ≤ n) (hl0 : 0 ≤ l) (hl1 : l ≤ 50) (hlv : lv = 0 ∨ lv = 1) (hb : b0 = 0 ∨ b0 = 1) (hg : g0 = B + i0) (hp : p_t c v false 2100 3 0 i0 l p_z false = .ok (i1, l1, D)) (hQ : ∀ g r b2, g = B + i1 → T_s lv b0 (D E) r b2 → Q (some (vi r)) (z_m m g b2)) : cw_C (d + 75) k_M_testOf [vr m_, vi lv] (z_m m g0 b0) Q :=
  (M_evT (c := c) (v := v) (E := E) (o := false) (n := n) (B := B) 2100).2.2.2.1 (d + 75) m 0 i0 l p_z false i1 l1 D g0 lv b0 Q hm0 hZ h0 h1 hl0 hl1 (by decide) (by decide) hlv hb hg (by omega) (by have := hZ.1; omega) hp (fun m2 g2 r b2 _ a2 a3 a4 => by rw [a2.1 rfl]; exact hQ g2 r b2 a3 a4)
theorem M_sumO {d : Nat} {m : cw_M} {Q : Option cw_V → cw_M → Prop} {c v E : Int → Int} {n B : Int} (hm0 : la_ok m) (hZ : Z_h m c v true n B E) {i0 l i1 l1 g0 lv b0 : Int} {D : p_D} (h0 : 0 ≤ i0) (h1 : i0 ≤ n) (hl0 : 0 ≤ l) (hl1 : l ≤ 50) (hlv : lv = 0 ∨ lv = 1) (hb : b0 = 0 ∨ b0 = 1) (hg : g0 = B + i0) (hp : p_s c v true 2100 3 0 i0 l p_z = .ok (i1, l1, D)) (hQ : ∀ m2 g r b2, la_ok m2 → Z_r true m m2 → g = B + i1 → W_s lv b0 (D E) r b2 → Q (some (vl r)) (z_m m2 g b2)) : cw_C (d + 37) k_M_sumOf [vr m_, vi lv] (z_m m g0 b0) Q :=
  (M_evS (c := c) (v := v) (E := E) (o := true) (n := n) (B := B) 2100).2.2.2.1 (d + 37) m 0 i0 l p_z i1 l1 D g0 lv b0 Q hm0 hZ h0 h1 hl0 hl1 (by decide) (by decide) hlv hb hg (by omega) (by have := hZ.1; omega) hp hQ
theorem M_testO {d : Nat} {m : cw_M} {Q : Option cw_V → cw_M → Prop} {c v E : Int → Int} {n B : Int} (hm0 : la_ok m) (hZ : Z_h m c v true n B E) {i0 l i1 l1 g0 lv b0 : Int} {D : p_D} (h0 : 0 ≤ i0) (h1 : i0 ≤ n) (hl0 : 0 ≤ l) (hl1 : l ≤ 50) (hlv : lv = 0 ∨ lv = 1) (hb : b0 = 0 ∨ b0 = 1) (hg : g0 = B + i0) (hp : p_t c v true 2100 3 0 i0 l p_z false = .ok (i1, l1, D)) (hQ : ∀ m2 g r b2, la_ok m2 → Z_r true m m2 → g = B + i1 → T_s lv b0 (D E) r b2 → Q (some (vi r)) (z_m m2 g b2)) : cw_C (d + 75) k_M_testOf [vr m_, vi lv] (z_m m g0 b0) Q :=
  (M_evT (c := c) (v := v) (E := E) (o := true) (n := n) (B := B) 2100).2.2.2.1 (d + 75) m 0 i0 l p_z false i1 l1 D g0 lv b0 Q hm0 hZ h0 h1 hl0 hl1 (by decide) (by decide) hlv hb hg (by omega) (by have := hZ.1; omega) hp hQ
theorem M_tells60e {d : Nat} {m : cw_M} {Q : Option cw_V → cw_M → Prop} {c v E : Int → Int} {n B : Int} (hm0 : la_ok m) (hZ : Z_h m c v false n B E) {g0 b0 h1 wo td : Int} {w5 w6 w7 w8 w9 : cw_V} (htd : 0 ≤ td ∧ td ≤ 100) (hg : B + n ≤ g0) (hQ : Q (some (vi td)) (z_m m g0 b0)) : cw_R d k_M_tells 60 [vr m_, vi h1, vi wo, vl td, none, w5, w6, w7, w8, w9] [] (z_m m g0 b0) Q := by
  have hm : la_ok (z_m m g0 b0) := z_m_ok hm0
  have y3 := hZ.2.2.1
  refine la_go_R hm 11 [] ?_
  refine br_t (show m m_ 23 ≤ g0 by omega) ?_
  refine And.intro (show -2147483648 ≤ td ∧ td < 2147483648 by omega) ?_
  show Q (some (vi td)) (z_m m g0 b0)
  exact hQ
theorem M_tells60 {d : Nat} {m : cw_M} {Q : Option cw_V → cw_M → Prop} {c v E : Int → Int} {n B : Int} (hm0 : la_ok m) (hZ : Z_h m c v false n B E) {h h1 wo : Int} {Ks : List p_K} (hh : h1 = h + 1) (hQ : ∀ g b, Q (some (vi (l_tl Ks h wo E))) (z_m m g b)) : ∀ (f : Nat) (k i0 l : Int) (acc : List p_K) (td g0 b0 : Int) (w5 w6 w7 w8 w9 : cw_V), 0 ≤ i0 → i0 ≤ n → 0 ≤ l → l ≤ 50 → (0 ≤ td ∧ td ≤ 100) → td = l_tl acc h wo E → g0 = B + i0 → p_nx c v false n f k i0 l acc = .ok Ks → cw_R (d + 76) k_M_tells 60 [vr m_, vi h1, vi wo, vl td, none, w5, w6, w7, w8, w9] [] (z_m m g0 b0) Q
  | 0, k, i0, l, acc, td, g0, b0, w5, w6, w7, w8, w9, h0, hn0, hl0, hl1, htr, htd, hg, hp => by
    obtain ⟨i1, l1, K, e1, e2⟩ := p_nxI hp
    cases e2
  | f + 1, k, i0, l, acc, td, g0, b0, w5, w6, w7, w8, w9, h0, hn0, hl0, hl1, htr, htd, hg, hp => by
    have yn := hZ.1
    have y3 := hZ.2.2.1
    have hm : la_ok (z_m m g0 b0) := z_m_ok hm0
    have hlt : ∀ z, c z ≠ 0 → z ≤ n → z < n := fun z q z1 => by
      by_cases e : z = n
      · rw [e, hZ.2.1] at q; exact absurd rfl q
      · omega
    obtain ⟨i1, l1, K, e1, er⟩ := p_nxI hp
    have N1 := p_NKok (p_oneN (c := c) (v := v) (o := false) hZ.2.1 yn.1.2 h0 hn0 hl0 hl1) e1
    have fin : ∀ (td2 : Int) (g2 b2 : Int) (w5 w6 w7 w8 w9 : cw_V), (0 ≤ td2 ∧ td2 ≤ 100) → td2 = l_tl (acc ++ [K]) h wo E → g2 = B + (i1 + 1) → cw_R (d + 76) k_M_tells 60 [vr m_, vi h1, vi wo, vl td2, none, w5, w6, w7, w8, w9] [] (z_m m g2 b2) Q := by
      intro td2 g2 b2 w5 w6 w7 w8 w9 t1 t2 t3
      rcases p_restI er with ⟨r1, r2, i3, l3, K3, r3, r4⟩ | ⟨r1, r2, r3⟩
      · have := hlt i1 (by omega) (by omega)
        exact M_tells60 hm0 hZ hh hQ f (k + 1) (i1 + 1) l1 (acc ++ [K]) td2 g2 b2 w5 w6 w7 w8 w9 (by omega) (by omega) (by omega) (by omega) t1 t2 t3 (by unfold p_nx; rw [r3]; exact r4)
      · refine M_tells60e hm0 hZ t1 (by omega) ?_
        rw [t2, ← r3]; exact hQ g2 b2
    rcases p_oneLi e1 with ⟨q1, i2, l2, A, e2, e4⟩ | ⟨q1, e4⟩
    · have hi0 := hlt i0 (by omega) hn0
      have N2 := p_Nok ((p_sN (c := c) (v := v) (o := false) hZ.2.1 2100 (dp := 0) (i := i0 + 1) (l := l) (acc := p_z) (by omega) (by omega) (by omega) (by omega)).2.2.2.1 (by omega)) e2
      rcases p_iftI e4 with ⟨q2, T, e3, hK⟩ | ⟨q2, q3, q4, hK⟩
      · have hi2 := hlt i2 (by omega) (by omega)
        have N3 := p_Nok ((p_tN (c := c) (v := v) (o := false) hZ.2.1 2100 (dp := 0) (i := i2 + 1) (l := l2) (acc := p_z) (ng := false) (by omega) (by omega) (by omega) (by omega)).2.2.2.1 (by omega)) e3
        refine la_go_R hm 74 [60] ?_
        refine br_f (show ¬ (m m_ 23 ≤ g0) by omega) ?_
        show cw_C _ _ [vr m_, vi g0] (z_m m g0 b0) _
        refine M_codeAtZ hm0 hZ (i0 := i0) (by omega) (by omega) (by omega) ⟨hm, ?_⟩
        refine And.intro (Or.inl rfl) ?_
        have hm21 : la_ok (cw_put (z_m m g0 b0) m_ 24 0) := la_put hm (by decide) (Or.inl rfl)
        refine And.intro (show -2147483648 ≤ g0 + 1 ∧ g0 + 1 < 2147483648 by omega) ?_
        have hm22 : la_ok (cw_put (cw_put (z_m m g0 b0) m_ 24 0) m_ 22 (g0 + 1)) := la_put hm21 (by decide) (Or.inl rfl)
        refine br_t (show c i0 ≠ 3 by omega) ?_
        show cw_C _ _ [vr m_, vi 1] (cw_put (cw_put (z_m m g0 b0) m_ 24 0) m_ 22 (g0 + 1)) _
        rw [z_m_fbk, z_m_fgp]
        have hm23 : la_ok (z_m m (g0 + 1) 0) := z_m_ok hm0
        refine M_sumL hm0 hZ (i0 := i0 + 1) (l := l) (by omega) (by omega) (by omega) (by omega) (by omega) (by omega) (by omega) e2 (fun (g24 v24 b24 : Int) (hg24 : g24 = B + i2) (hW24 : W_s 1 0 (A E) v24 b24) => ⟨(z_m_ok hm0), ?_⟩)
        have wb24 := hW24.1
        have wr24 := hW24.2.1
        obtain ⟨i24, hi24⟩ : ∃ z, z = i2 := ⟨_, rfl⟩
        refine And.intro (Or.inl rfl) ?_
        have hm25 : la_ok (cw_put (z_m m g24 b24) m_ 24 0) := la_put (z_m_ok hm0) (by decide) (Or.inl rfl)
        show cw_C _ _ [vr m_, vi 4] (cw_put (z_m m g24 b24) m_ 24 0) _
        rw [z_m_fbk]
        have hm26 : la_ok (z_m m g24 0) := z_m_ok hm0
        refine M_passes0Z1 hm0 hZ (i0 := i2) (by omega) (by omega) (by omega) (by omega) ⟨(z_m_ok hm0), ?_⟩
        refine br_f (show ¬ ((1 : Int) = 0) by decide) ?_
        show cw_C _ _ [vr m_, vi 1] (z_m m (g24 + 1) 0) _
        refine M_testL hm0 hZ (i0 := i2 + 1) (l := l2) (by omega) (by omega) (by omega) (by omega) (by omega) (by omega) (by omega) e3 (fun (g27 v27 b27 : Int) (hg27 : g27 = B + i1) (hT27 : T_s 1 0 (T E) v27 b27) => ⟨(z_m_ok hm0), ?_⟩)
        have wb27 := hT27.1
        have wr27 := hT27.2.1
        obtain ⟨i27, hi27⟩ : ∃ z, z = i1 := ⟨_, rfl⟩
        refine And.intro (fun (c28 : v27 = 0) => ?_) (fun (c28 : ¬ (v27 = 0)) => ?_)
        · refine And.intro (fun (c29 : c i0 ≠ h1) => ?_) (fun (c29 : ¬ (c i0 ≠ h1)) => ?_)
          · refine And.intro (show -2147483648 ≤ g27 + 1 ∧ g27 + 1 < 2147483648 by omega) ?_
            have hm30 : la_ok (cw_put (z_m m g27 b27) m_ 22 (g27 + 1)) := la_put (z_m_ok hm0) (by decide) (Or.inl rfl)
            show cw_R _ _ 60 [vr m_, vi h1, vi wo, vl td, none, vi (c i0), vl v24, none, vi b24, vi 0] [] (cw_put (z_m m g27 b27) m_ 22 (g27 + 1)) _
            rw [z_m_fgp]
            have hm31 : la_ok (z_m m (g27 + 1) b27) := z_m_ok hm0
            have l1 := lc_lt (x := v24) (y := 0)
            have l2' := lc_le (x := v24) (y := 100)
            have hs2 : l_st h E td (c i0 - 1, A, p_z, 1, some T) = td := l_stR (v := v24) (b := b24) (ho := v27) (bt := b27) (Or.inr ⟨by omega, hW24⟩) (Or.inr ⟨T, rfl, hT27⟩) (by unfold l_cl; omega)
            have hn : g27 + 1 = B + (i1 + 1) := by omega
            exact fin td (g27 + 1) b27 _ _ _ _ _ (by have z := l_str (h := h) (E := E) (K := (c i0 - 1, A, p_z, 1, some T)) htr; rw [hs2] at z; exact z) (by rw [l_tla, ← htd, hK]; exact hs2.symm) hn
          · refine br_t (show (0 : Int) = 0 by decide) ?_
            refine And.intro (show -2147483648 ≤ g27 + 1 ∧ g27 + 1 < 2147483648 by omega) ?_
            have hm32 : la_ok (cw_put (z_m m g27 b27) m_ 22 (g27 + 1)) := la_put (z_m_ok hm0) (by decide) (Or.inl rfl)
            show cw_R _ _ 60 [vr m_, vi h1, vi wo, vl td, none, vi (c i0), vl v24, none, vi b24, vi 0] [] (cw_put (z_m m g27 b27) m_ 22 (g27 + 1)) _
            rw [z_m_fgp]
            have hm33 : la_ok (z_m m (g27 + 1) b27) := z_m_ok hm0
            have l1 := lc_lt (x := v24) (y := 0)
            have l2' := lc_le (x := v24) (y := 100)
            have hs2 : l_st h E td (c i0 - 1, A, p_z, 1, some T) = td := l_stR (v := v24) (b := b24) (ho := v27) (bt := b27) (Or.inr ⟨by omega, hW24⟩) (Or.inr ⟨T, rfl, hT27⟩) (by unfold l_cl; omega)
            have hn : g27 + 1 = B + (i1 + 1) := by omega
            exact fin td (g27 + 1) b27 _ _ _ _ _ (by have z := l_str (h := h) (E := E) (K := (c i0 - 1, A, p_z, 1, some T)) htr; rw [hs2] at z; exact z) (by rw [l_tla, ← htd, hK]; exact hs2.symm) hn
        · refine And.intro (fun (c34 : c i0 ≠ h1) => ?_) (fun (c34 : ¬ (c i0 ≠ h1)) => ?_)
          · refine And.intro (show -2147483648 ≤ g27 + 1 ∧ g27 + 1 < 2147483648 by omega) ?_
            have hm35 : la_ok (cw_put (z_m m g27 b27) m_ 22 (g27 + 1)) := la_put (z_m_ok hm0) (by decide) (Or.inl rfl)
            show cw_R _ _ 60 [vr m_, vi h1, vi wo, vl td, none, vi (c i0), vl v24, none, vi b24, vi 1] [] (cw_put (z_m m g27 b27) m_ 22 (g27 + 1)) _
            rw [z_m_fgp]
            have hm36 : la_ok (z_m m (g27 + 1) b27) := z_m_ok hm0
            have l1 := lc_lt (x := v24) (y := 0)
            have l2' := lc_le (x := v24) (y := 100)
            have hs2 : l_st h E td (c i0 - 1, A, p_z, 1, some T) = td := l_stR (v := v24) (b := b24) (ho := v27) (bt := b27) (Or.inr ⟨by omega, hW24⟩) (Or.inr ⟨T, rfl, hT27⟩) (by unfold l_cl; omega)
            have hn : g27 + 1 = B + (i1 + 1) := by omega
            exact fin td (g27 + 1) b27 _ _ _ _ _ (by have z := l_str (h := h) (E := E) (K := (c i0 - 1, A, p_z, 1, some T)) htr; rw [hs2] at z; exact z) (by rw [l_tla, ← htd, hK]; exact hs2.symm) hn
          · refine br_f (show ¬ ((1 : Int) = 0) by decide) ?_
            refine And.intro (fun (c37 : b27 ≠ 0) => ?_) (fun (c37 : ¬ (b27 ≠ 0)) => ?_)
            · refine And.intro (show -2147483648 ≤ g27 + 1 ∧ g27 + 1 < 2147483648 by omega) ?_
              have hm38 : la_ok (cw_put (z_m m g27 b27) m_ 22 (g27 + 1)) := la_put (z_m_ok hm0) (by decide) (Or.inl rfl)
              show cw_R _ _ 60 [vr m_, vi h1, vi wo, vl td, none, vi (c i0), vl v24, none, vi b24, vi 1] [] (cw_put (z_m m g27 b27) m_ 22 (g27 + 1)) _
              rw [z_m_fgp]
              have hm39 : la_ok (z_m m (g27 + 1) b27) := z_m_ok hm0
              have l1 := lc_lt (x := v24) (y := 0)
              have l2' := lc_le (x := v24) (y := 100)
              have hs2 : l_st h E td (c i0 - 1, A, p_z, 1, some T) = td := l_stR (v := v24) (b := b24) (ho := v27) (bt := b27) (Or.inr ⟨by omega, hW24⟩) (Or.inr ⟨T, rfl, hT27⟩) (by unfold l_cl; omega)
              have hn : g27 + 1 = B + (i1 + 1) := by omega
              exact fin td (g27 + 1) b27 _ _ _ _ _ (by have z := l_str (h := h) (E := E) (K := (c i0 - 1, A, p_z, 1, some T)) htr; rw [hs2] at z; exact z) (by rw [l_tla, ← htd, hK]; exact hs2.symm) hn
            · refine And.intro (fun (c40 : b24 ≠ 0) => ?_) (fun (c40 : ¬ (b24 ≠ 0)) => ?_)
              · refine And.intro (show -2147483648 ≤ g27 + 1 ∧ g27 + 1 < 2147483648 by omega) ?_
                have hm41 : la_ok (cw_put (z_m m g27 b27) m_ 22 (g27 + 1)) := la_put (z_m_ok hm0) (by decide) (Or.inl rfl)
                show cw_R _ _ 60 [vr m_, vi h1, vi wo, vl td, none, vi (c i0), vl v24, none, vi b24, vi 1] [] (cw_put (z_m m g27 b27) m_ 22 (g27 + 1)) _
                rw [z_m_fgp]
                have hm42 : la_ok (z_m m (g27 + 1) b27) := z_m_ok hm0
                have l1 := lc_lt (x := v24) (y := 0)
                have l2' := lc_le (x := v24) (y := 100)
                have hs2 : l_st h E td (c i0 - 1, A, p_z, 1, some T) = td := l_stR (v := v24) (b := b24) (ho := v27) (bt := b27) (Or.inr ⟨by omega, hW24⟩) (Or.inr ⟨T, rfl, hT27⟩) (by unfold l_cl; omega)
                have hn : g27 + 1 = B + (i1 + 1) := by omega
                exact fin td (g27 + 1) b27 _ _ _ _ _ (by have z := l_str (h := h) (E := E) (K := (c i0 - 1, A, p_z, 1, some T)) htr; rw [hs2] at z; exact z) (by rw [l_tla, ← htd, hK]; exact hs2.symm) hn
              · refine And.intro (fun (c43 : 0 ≤ cw_lc v24 0) => ?_) (fun (c43 : ¬ (0 ≤ cw_lc v24 0)) => ?_)
                · refine And.intro (fun (c44 : cw_lc v24 100 ≤ 0) => ?_) (fun (c44 : ¬ (cw_lc v24 100 ≤ 0)) => ?_)
                  · refine And.intro (show -2147483648 ≤ g27 + 1 ∧ g27 + 1 < 2147483648 by omega) ?_
                    have hm45 : la_ok (cw_put (z_m m g27 b27) m_ 22 (g27 + 1)) := la_put (z_m_ok hm0) (by decide) (Or.inl rfl)
                    show cw_R _ _ 60 [vr m_, vi h1, vi wo, vl v24, none, vi (c i0), vl v24, none, vi b24, vi 1] [] (cw_put (z_m m g27 b27) m_ 22 (g27 + 1)) _
                    rw [z_m_fgp]
                    have hm46 : la_ok (z_m m (g27 + 1) b27) := z_m_ok hm0
                    have l1 := lc_lt (x := v24) (y := 0)
                    have l2' := lc_le (x := v24) (y := 100)
                    have hs2 : l_st h E td (c i0 - 1, A, p_z, 1, some T) = v24 := l_stR (v := v24) (b := b24) (ho := v27) (bt := b27) (Or.inr ⟨by omega, hW24⟩) (Or.inr ⟨T, rfl, hT27⟩) (by unfold l_cl; omega)
                    have hn : g27 + 1 = B + (i1 + 1) := by omega
                    exact fin v24 (g27 + 1) b27 _ _ _ _ _ (by have z := l_str (h := h) (E := E) (K := (c i0 - 1, A, p_z, 1, some T)) htr; rw [hs2] at z; exact z) (by rw [l_tla, ← htd, hK]; exact hs2.symm) hn
                  · refine And.intro (show -2147483648 ≤ g27 + 1 ∧ g27 + 1 < 2147483648 by omega) ?_
                    have hm47 : la_ok (cw_put (z_m m g27 b27) m_ 22 (g27 + 1)) := la_put (z_m_ok hm0) (by decide) (Or.inl rfl)
                    show cw_R _ _ 60 [vr m_, vi h1, vi wo, vl 100, none, vi (c i0), vl v24, none, vi b24, vi 1] [] (cw_put (z_m m g27 b27) m_ 22 (g27 + 1)) _
                    rw [z_m_fgp]
                    have hm48 : la_ok (z_m m (g27 + 1) b27) := z_m_ok hm0
                    have l1 := lc_lt (x := v24) (y := 0)
                    have l2' := lc_le (x := v24) (y := 100)
                    have hs2 : l_st h E td (c i0 - 1, A, p_z, 1, some T) = 100 := l_stR (v := v24) (b := b24) (ho := v27) (bt := b27) (Or.inr ⟨by omega, hW24⟩) (Or.inr ⟨T, rfl, hT27⟩) (by unfold l_cl; omega)
                    have hn : g27 + 1 = B + (i1 + 1) := by omega
                    exact fin 100 (g27 + 1) b27 _ _ _ _ _ (by have z := l_str (h := h) (E := E) (K := (c i0 - 1, A, p_z, 1, some T)) htr; rw [hs2] at z; exact z) (by rw [l_tla, ← htd, hK]; exact hs2.symm) hn
                · refine And.intro (show -2147483648 ≤ g27 + 1 ∧ g27 + 1 < 2147483648 by omega) ?_
                  have hm49 : la_ok (cw_put (z_m m g27 b27) m_ 22 (g27 + 1)) := la_put (z_m_ok hm0) (by decide) (Or.inl rfl)
                  show cw_R _ _ 60 [vr m_, vi h1, vi wo, vl 0, none, vi (c i0), vl v24, none, vi b24, vi 1] [] (cw_put (z_m m g27 b27) m_ 22 (g27 + 1)) _
                  rw [z_m_fgp]
                  have hm50 : la_ok (z_m m (g27 + 1) b27) := z_m_ok hm0
                  have l1 := lc_lt (x := v24) (y := 0)
                  have l2' := lc_le (x := v24) (y := 100)
                  have hs2 : l_st h E td (c i0 - 1, A, p_z, 1, some T) = 0 := l_stR (v := v24) (b := b24) (ho := v27) (bt := b27) (Or.inr ⟨by omega, hW24⟩) (Or.inr ⟨T, rfl, hT27⟩) (by unfold l_cl; omega)
                  have hn : g27 + 1 = B + (i1 + 1) := by omega
                  exact fin 0 (g27 + 1) b27 _ _ _ _ _ (by have z := l_str (h := h) (E := E) (K := (c i0 - 1, A, p_z, 1, some T)) htr; rw [hs2] at z; exact z) (by rw [l_tla, ← htd, hK]; exact hs2.symm) hn
      · have q2 := q2
        refine la_go_R hm 70 [60] ?_
        refine br_f (show ¬ (m m_ 23 ≤ g0) by omega) ?_
        show cw_C _ _ [vr m_, vi g0] (z_m m g0 b0) _
        refine M_codeAtZ hm0 hZ (i0 := i0) (by omega) (by omega) (by omega) ⟨hm, ?_⟩
        refine And.intro (Or.inl rfl) ?_
        have hm21 : la_ok (cw_put (z_m m g0 b0) m_ 24 0) := la_put hm (by decide) (Or.inl rfl)
        refine And.intro (show -2147483648 ≤ g0 + 1 ∧ g0 + 1 < 2147483648 by omega) ?_
        have hm22 : la_ok (cw_put (cw_put (z_m m g0 b0) m_ 24 0) m_ 22 (g0 + 1)) := la_put hm21 (by decide) (Or.inl rfl)
        refine br_t (show c i0 ≠ 3 by omega) ?_
        show cw_C _ _ [vr m_, vi 1] (cw_put (cw_put (z_m m g0 b0) m_ 24 0) m_ 22 (g0 + 1)) _
        rw [z_m_fbk, z_m_fgp]
        have hm23 : la_ok (z_m m (g0 + 1) 0) := z_m_ok hm0
        refine M_sumL hm0 hZ (i0 := i0 + 1) (l := l) (by omega) (by omega) (by omega) (by omega) (by omega) (by omega) (by omega) e2 (fun (g24 v24 b24 : Int) (hg24 : g24 = B + i2) (hW24 : W_s 1 0 (A E) v24 b24) => ⟨(z_m_ok hm0), ?_⟩)
        have wb24 := hW24.1
        have wr24 := hW24.2.1
        obtain ⟨i24, hi24⟩ : ∃ z, z = i2 := ⟨_, rfl⟩
        refine And.intro (Or.inl rfl) ?_
        have hm25 : la_ok (cw_put (z_m m g24 b24) m_ 24 0) := la_put (z_m_ok hm0) (by decide) (Or.inl rfl)
        show cw_C _ _ [vr m_, vi 4] (cw_put (z_m m g24 b24) m_ 24 0) _
        rw [z_m_fbk]
        have hm26 : la_ok (z_m m g24 0) := z_m_ok hm0
        refine M_passes0Z0 hm0 hZ (i0 := i2) (by omega) (by omega) (by omega) (by omega) ⟨hm26, ?_⟩
        refine br_t (show (0 : Int) = 0 by decide) ?_
        refine And.intro (fun (c27 : c i0 ≠ h1) => ?_) (fun (c27 : ¬ (c i0 ≠ h1)) => ?_)
        · refine And.intro (show -2147483648 ≤ g24 + 1 ∧ g24 + 1 < 2147483648 by omega) ?_
          have hm28 : la_ok (cw_put (z_m m g24 0) m_ 22 (g24 + 1)) := la_put hm26 (by decide) (Or.inl rfl)
          show cw_R _ _ 60 [vr m_, vi h1, vi wo, vl td, none, vi (c i0), vl v24, none, vi b24, vi 1] [] (cw_put (z_m m g24 0) m_ 22 (g24 + 1)) _
          rw [z_m_fgp]
          have hm29 : la_ok (z_m m (g24 + 1) 0) := z_m_ok hm0
          have l1 := lc_lt (x := v24) (y := 0)
          have l2' := lc_le (x := v24) (y := 100)
          have hs2 : l_st h E td (c i0 - 1, A, p_z, 1, none) = td := l_stR (v := v24) (b := b24) (ho := 1) (bt := 0) (Or.inr ⟨by omega, hW24⟩) (Or.inl ⟨rfl, rfl, rfl⟩) (by unfold l_cl; omega)
          have hn : g24 + 1 = B + (i1 + 1) := by omega
          exact fin td (g24 + 1) 0 _ _ _ _ _ (by have z := l_str (h := h) (E := E) (K := (c i0 - 1, A, p_z, 1, none)) htr; rw [hs2] at z; exact z) (by rw [l_tla, ← htd, hK]; exact hs2.symm) hn
        · refine br_f (show ¬ ((1 : Int) = 0) by decide) ?_
          refine br_f (show ¬ ((0 : Int) ≠ 0) by decide) ?_
          refine And.intro (fun (c30 : b24 ≠ 0) => ?_) (fun (c30 : ¬ (b24 ≠ 0)) => ?_)
          · refine And.intro (show -2147483648 ≤ g24 + 1 ∧ g24 + 1 < 2147483648 by omega) ?_
            have hm31 : la_ok (cw_put (z_m m g24 0) m_ 22 (g24 + 1)) := la_put hm26 (by decide) (Or.inl rfl)
            show cw_R _ _ 60 [vr m_, vi h1, vi wo, vl td, none, vi (c i0), vl v24, none, vi b24, vi 1] [] (cw_put (z_m m g24 0) m_ 22 (g24 + 1)) _
            rw [z_m_fgp]
            have hm32 : la_ok (z_m m (g24 + 1) 0) := z_m_ok hm0
            have l1 := lc_lt (x := v24) (y := 0)
            have l2' := lc_le (x := v24) (y := 100)
            have hs2 : l_st h E td (c i0 - 1, A, p_z, 1, none) = td := l_stR (v := v24) (b := b24) (ho := 1) (bt := 0) (Or.inr ⟨by omega, hW24⟩) (Or.inl ⟨rfl, rfl, rfl⟩) (by unfold l_cl; omega)
            have hn : g24 + 1 = B + (i1 + 1) := by omega
            exact fin td (g24 + 1) 0 _ _ _ _ _ (by have z := l_str (h := h) (E := E) (K := (c i0 - 1, A, p_z, 1, none)) htr; rw [hs2] at z; exact z) (by rw [l_tla, ← htd, hK]; exact hs2.symm) hn
          · refine And.intro (fun (c33 : 0 ≤ cw_lc v24 0) => ?_) (fun (c33 : ¬ (0 ≤ cw_lc v24 0)) => ?_)
            · refine And.intro (fun (c34 : cw_lc v24 100 ≤ 0) => ?_) (fun (c34 : ¬ (cw_lc v24 100 ≤ 0)) => ?_)
              · refine And.intro (show -2147483648 ≤ g24 + 1 ∧ g24 + 1 < 2147483648 by omega) ?_
                have hm35 : la_ok (cw_put (z_m m g24 0) m_ 22 (g24 + 1)) := la_put hm26 (by decide) (Or.inl rfl)
                show cw_R _ _ 60 [vr m_, vi h1, vi wo, vl v24, none, vi (c i0), vl v24, none, vi b24, vi 1] [] (cw_put (z_m m g24 0) m_ 22 (g24 + 1)) _
                rw [z_m_fgp]
                have hm36 : la_ok (z_m m (g24 + 1) 0) := z_m_ok hm0
                have l1 := lc_lt (x := v24) (y := 0)
                have l2' := lc_le (x := v24) (y := 100)
                have hs2 : l_st h E td (c i0 - 1, A, p_z, 1, none) = v24 := l_stR (v := v24) (b := b24) (ho := 1) (bt := 0) (Or.inr ⟨by omega, hW24⟩) (Or.inl ⟨rfl, rfl, rfl⟩) (by unfold l_cl; omega)
                have hn : g24 + 1 = B + (i1 + 1) := by omega
                exact fin v24 (g24 + 1) 0 _ _ _ _ _ (by have z := l_str (h := h) (E := E) (K := (c i0 - 1, A, p_z, 1, none)) htr; rw [hs2] at z; exact z) (by rw [l_tla, ← htd, hK]; exact hs2.symm) hn
              · refine And.intro (show -2147483648 ≤ g24 + 1 ∧ g24 + 1 < 2147483648 by omega) ?_
                have hm37 : la_ok (cw_put (z_m m g24 0) m_ 22 (g24 + 1)) := la_put hm26 (by decide) (Or.inl rfl)
                show cw_R _ _ 60 [vr m_, vi h1, vi wo, vl 100, none, vi (c i0), vl v24, none, vi b24, vi 1] [] (cw_put (z_m m g24 0) m_ 22 (g24 + 1)) _
                rw [z_m_fgp]
                have hm38 : la_ok (z_m m (g24 + 1) 0) := z_m_ok hm0
                have l1 := lc_lt (x := v24) (y := 0)
                have l2' := lc_le (x := v24) (y := 100)
                have hs2 : l_st h E td (c i0 - 1, A, p_z, 1, none) = 100 := l_stR (v := v24) (b := b24) (ho := 1) (bt := 0) (Or.inr ⟨by omega, hW24⟩) (Or.inl ⟨rfl, rfl, rfl⟩) (by unfold l_cl; omega)
                have hn : g24 + 1 = B + (i1 + 1) := by omega
                exact fin 100 (g24 + 1) 0 _ _ _ _ _ (by have z := l_str (h := h) (E := E) (K := (c i0 - 1, A, p_z, 1, none)) htr; rw [hs2] at z; exact z) (by rw [l_tla, ← htd, hK]; exact hs2.symm) hn
            · refine And.intro (show -2147483648 ≤ g24 + 1 ∧ g24 + 1 < 2147483648 by omega) ?_
              have hm39 : la_ok (cw_put (z_m m g24 0) m_ 22 (g24 + 1)) := la_put hm26 (by decide) (Or.inl rfl)
              show cw_R _ _ 60 [vr m_, vi h1, vi wo, vl 0, none, vi (c i0), vl v24, none, vi b24, vi 1] [] (cw_put (z_m m g24 0) m_ 22 (g24 + 1)) _
              rw [z_m_fgp]
              have hm40 : la_ok (z_m m (g24 + 1) 0) := z_m_ok hm0
              have l1 := lc_lt (x := v24) (y := 0)
              have l2' := lc_le (x := v24) (y := 100)
              have hs2 : l_st h E td (c i0 - 1, A, p_z, 1, none) = 0 := l_stR (v := v24) (b := b24) (ho := 1) (bt := 0) (Or.inr ⟨by omega, hW24⟩) (Or.inl ⟨rfl, rfl, rfl⟩) (by unfold l_cl; omega)
              have hn : g24 + 1 = B + (i1 + 1) := by omega
              exact fin 0 (g24 + 1) 0 _ _ _ _ _ (by have z := l_str (h := h) (E := E) (K := (c i0 - 1, A, p_z, 1, none)) htr; rw [hs2] at z; exact z) (by rw [l_tla, ← htd, hK]; exact hs2.symm) hn
    · have hi0 := hlt i0 (by omega) hn0
      obtain ⟨i2, hi2⟩ : ∃ z, z = i0 + 1 := ⟨_, rfl⟩
      obtain ⟨l2, hl2⟩ : ∃ z, z = l := ⟨_, rfl⟩
      rw [← hi2, ← hl2] at e4
      have N2 : i2 ≤ n := by omega
      rcases p_iftI e4 with ⟨q2, T, e3, hK⟩ | ⟨q2, q3, q4, hK⟩
      · rw [show (2 : Int) = c i0 - 1 by omega] at hK
        have hi2 := hlt i2 (by omega) (by omega)
        have N3 := p_Nok ((p_tN (c := c) (v := v) (o := false) hZ.2.1 2100 (dp := 0) (i := i2 + 1) (l := l2) (acc := p_z) (ng := false) (by omega) (by omega) (by omega) (by omega)).2.2.2.1 (by omega)) e3
        refine la_go_R hm 73 [60] ?_
        refine br_f (show ¬ (m m_ 23 ≤ g0) by omega) ?_
        show cw_C _ _ [vr m_, vi g0] (z_m m g0 b0) _
        refine M_codeAtZ hm0 hZ (i0 := i0) (by omega) (by omega) (by omega) ⟨hm, ?_⟩
        refine And.intro (Or.inl rfl) ?_
        have hm21 : la_ok (cw_put (z_m m g0 b0) m_ 24 0) := la_put hm (by decide) (Or.inl rfl)
        refine And.intro (show -2147483648 ≤ g0 + 1 ∧ g0 + 1 < 2147483648 by omega) ?_
        have hm22 : la_ok (cw_put (cw_put (z_m m g0 b0) m_ 24 0) m_ 22 (g0 + 1)) := la_put hm21 (by decide) (Or.inl rfl)
        refine br_f (show ¬ (c i0 ≠ 3) by omega) ?_
        refine And.intro (Or.inl rfl) ?_
        have hm23 : la_ok (cw_put (cw_put (cw_put (z_m m g0 b0) m_ 24 0) m_ 22 (g0 + 1)) m_ 24 0) := la_put hm22 (by decide) (Or.inl rfl)
        show cw_C _ _ [vr m_, vi 4] (cw_put (cw_put (cw_put (z_m m g0 b0) m_ 24 0) m_ 22 (g0 + 1)) m_ 24 0) _
        rw [z_m_fbk, z_m_fgp, z_m_fbk]
        have hm24 : la_ok (z_m m (g0 + 1) 0) := z_m_ok hm0
        refine M_passes0Z1 hm0 hZ (i0 := i2) (by omega) (by omega) (by omega) (by omega) ⟨(z_m_ok hm0), ?_⟩
        refine br_f (show ¬ ((1 : Int) = 0) by decide) ?_
        show cw_C _ _ [vr m_, vi 1] (z_m m ((g0 + 1) + 1) 0) _
        refine M_testL hm0 hZ (i0 := i2 + 1) (l := l2) (by omega) (by omega) (by omega) (by omega) (by omega) (by omega) (by omega) e3 (fun (g25 v25 b25 : Int) (hg25 : g25 = B + i1) (hT25 : T_s 1 0 (T E) v25 b25) => ⟨(z_m_ok hm0), ?_⟩)
        have wb25 := hT25.1
        have wr25 := hT25.2.1
        obtain ⟨i25, hi25⟩ : ∃ z, z = i1 := ⟨_, rfl⟩
        refine And.intro (fun (c26 : v25 = 0) => ?_) (fun (c26 : ¬ (v25 = 0)) => ?_)
        · refine And.intro (fun (c27 : c i0 ≠ h1) => ?_) (fun (c27 : ¬ (c i0 ≠ h1)) => ?_)
          · refine And.intro (show -2147483648 ≤ g25 + 1 ∧ g25 + 1 < 2147483648 by omega) ?_
            have hm28 : la_ok (cw_put (z_m m g25 b25) m_ 22 (g25 + 1)) := la_put (z_m_ok hm0) (by decide) (Or.inl rfl)
            show cw_R _ _ 60 [vr m_, vi h1, vi wo, vl td, none, vi (c i0), vl 1, none, vi 0, vi 0] [] (cw_put (z_m m g25 b25) m_ 22 (g25 + 1)) _
            rw [z_m_fgp]
            have hm29 : la_ok (z_m m (g25 + 1) b25) := z_m_ok hm0
            have l1 := lc_lt (x := 1) (y := 0)
            have l2' := lc_le (x := 1) (y := 100)
            have hs2 : l_st h E td (c i0 - 1, p_z, p_z, 1, some T) = td := l_stR (v := 1) (b := 0) (ho := v25) (bt := b25) (Or.inl ⟨by omega, rfl, rfl⟩) (Or.inr ⟨T, rfl, hT25⟩) (by unfold l_cl; omega)
            have hn : g25 + 1 = B + (i1 + 1) := by omega
            exact fin td (g25 + 1) b25 _ _ _ _ _ (by have z := l_str (h := h) (E := E) (K := (c i0 - 1, p_z, p_z, 1, some T)) htr; rw [hs2] at z; exact z) (by rw [l_tla, ← htd, hK]; exact hs2.symm) hn
          · refine br_t (show (0 : Int) = 0 by decide) ?_
            refine And.intro (show -2147483648 ≤ g25 + 1 ∧ g25 + 1 < 2147483648 by omega) ?_
            have hm30 : la_ok (cw_put (z_m m g25 b25) m_ 22 (g25 + 1)) := la_put (z_m_ok hm0) (by decide) (Or.inl rfl)
            show cw_R _ _ 60 [vr m_, vi h1, vi wo, vl td, none, vi (c i0), vl 1, none, vi 0, vi 0] [] (cw_put (z_m m g25 b25) m_ 22 (g25 + 1)) _
            rw [z_m_fgp]
            have hm31 : la_ok (z_m m (g25 + 1) b25) := z_m_ok hm0
            have l1 := lc_lt (x := 1) (y := 0)
            have l2' := lc_le (x := 1) (y := 100)
            have hs2 : l_st h E td (c i0 - 1, p_z, p_z, 1, some T) = td := l_stR (v := 1) (b := 0) (ho := v25) (bt := b25) (Or.inl ⟨by omega, rfl, rfl⟩) (Or.inr ⟨T, rfl, hT25⟩) (by unfold l_cl; omega)
            have hn : g25 + 1 = B + (i1 + 1) := by omega
            exact fin td (g25 + 1) b25 _ _ _ _ _ (by have z := l_str (h := h) (E := E) (K := (c i0 - 1, p_z, p_z, 1, some T)) htr; rw [hs2] at z; exact z) (by rw [l_tla, ← htd, hK]; exact hs2.symm) hn
        · refine And.intro (fun (c32 : c i0 ≠ h1) => ?_) (fun (c32 : ¬ (c i0 ≠ h1)) => ?_)
          · refine And.intro (show -2147483648 ≤ g25 + 1 ∧ g25 + 1 < 2147483648 by omega) ?_
            have hm33 : la_ok (cw_put (z_m m g25 b25) m_ 22 (g25 + 1)) := la_put (z_m_ok hm0) (by decide) (Or.inl rfl)
            show cw_R _ _ 60 [vr m_, vi h1, vi wo, vl td, none, vi (c i0), vl 1, none, vi 0, vi 1] [] (cw_put (z_m m g25 b25) m_ 22 (g25 + 1)) _
            rw [z_m_fgp]
            have hm34 : la_ok (z_m m (g25 + 1) b25) := z_m_ok hm0
            have l1 := lc_lt (x := 1) (y := 0)
            have l2' := lc_le (x := 1) (y := 100)
            have hs2 : l_st h E td (c i0 - 1, p_z, p_z, 1, some T) = td := l_stR (v := 1) (b := 0) (ho := v25) (bt := b25) (Or.inl ⟨by omega, rfl, rfl⟩) (Or.inr ⟨T, rfl, hT25⟩) (by unfold l_cl; omega)
            have hn : g25 + 1 = B + (i1 + 1) := by omega
            exact fin td (g25 + 1) b25 _ _ _ _ _ (by have z := l_str (h := h) (E := E) (K := (c i0 - 1, p_z, p_z, 1, some T)) htr; rw [hs2] at z; exact z) (by rw [l_tla, ← htd, hK]; exact hs2.symm) hn
          · refine br_f (show ¬ ((1 : Int) = 0) by decide) ?_
            refine And.intro (fun (c35 : b25 ≠ 0) => ?_) (fun (c35 : ¬ (b25 ≠ 0)) => ?_)
            · refine And.intro (show -2147483648 ≤ g25 + 1 ∧ g25 + 1 < 2147483648 by omega) ?_
              have hm36 : la_ok (cw_put (z_m m g25 b25) m_ 22 (g25 + 1)) := la_put (z_m_ok hm0) (by decide) (Or.inl rfl)
              show cw_R _ _ 60 [vr m_, vi h1, vi wo, vl td, none, vi (c i0), vl 1, none, vi 0, vi 1] [] (cw_put (z_m m g25 b25) m_ 22 (g25 + 1)) _
              rw [z_m_fgp]
              have hm37 : la_ok (z_m m (g25 + 1) b25) := z_m_ok hm0
              have l1 := lc_lt (x := 1) (y := 0)
              have l2' := lc_le (x := 1) (y := 100)
              have hs2 : l_st h E td (c i0 - 1, p_z, p_z, 1, some T) = td := l_stR (v := 1) (b := 0) (ho := v25) (bt := b25) (Or.inl ⟨by omega, rfl, rfl⟩) (Or.inr ⟨T, rfl, hT25⟩) (by unfold l_cl; omega)
              have hn : g25 + 1 = B + (i1 + 1) := by omega
              exact fin td (g25 + 1) b25 _ _ _ _ _ (by have z := l_str (h := h) (E := E) (K := (c i0 - 1, p_z, p_z, 1, some T)) htr; rw [hs2] at z; exact z) (by rw [l_tla, ← htd, hK]; exact hs2.symm) hn
            · refine br_f (show ¬ ((0 : Int) ≠ 0) by decide) ?_
              refine And.intro (fun (c38 : 0 ≤ cw_lc 1 0) => ?_) (fun (c38 : ¬ (0 ≤ cw_lc 1 0)) => ?_)
              · refine And.intro (fun (c39 : cw_lc 1 100 ≤ 0) => ?_) (fun (c39 : ¬ (cw_lc 1 100 ≤ 0)) => ?_)
                · refine And.intro (show -2147483648 ≤ g25 + 1 ∧ g25 + 1 < 2147483648 by omega) ?_
                  have hm40 : la_ok (cw_put (z_m m g25 b25) m_ 22 (g25 + 1)) := la_put (z_m_ok hm0) (by decide) (Or.inl rfl)
                  show cw_R _ _ 60 [vr m_, vi h1, vi wo, vl 1, none, vi (c i0), vl 1, none, vi 0, vi 1] [] (cw_put (z_m m g25 b25) m_ 22 (g25 + 1)) _
                  rw [z_m_fgp]
                  have hm41 : la_ok (z_m m (g25 + 1) b25) := z_m_ok hm0
                  have l1 := lc_lt (x := 1) (y := 0)
                  have l2' := lc_le (x := 1) (y := 100)
                  have hs2 : l_st h E td (c i0 - 1, p_z, p_z, 1, some T) = 1 := l_stR (v := 1) (b := 0) (ho := v25) (bt := b25) (Or.inl ⟨by omega, rfl, rfl⟩) (Or.inr ⟨T, rfl, hT25⟩) (by unfold l_cl; omega)
                  have hn : g25 + 1 = B + (i1 + 1) := by omega
                  exact fin 1 (g25 + 1) b25 _ _ _ _ _ (by have z := l_str (h := h) (E := E) (K := (c i0 - 1, p_z, p_z, 1, some T)) htr; rw [hs2] at z; exact z) (by rw [l_tla, ← htd, hK]; exact hs2.symm) hn
                · refine And.intro (show -2147483648 ≤ g25 + 1 ∧ g25 + 1 < 2147483648 by omega) ?_
                  have hm42 : la_ok (cw_put (z_m m g25 b25) m_ 22 (g25 + 1)) := la_put (z_m_ok hm0) (by decide) (Or.inl rfl)
                  show cw_R _ _ 60 [vr m_, vi h1, vi wo, vl 100, none, vi (c i0), vl 1, none, vi 0, vi 1] [] (cw_put (z_m m g25 b25) m_ 22 (g25 + 1)) _
                  rw [z_m_fgp]
                  have hm43 : la_ok (z_m m (g25 + 1) b25) := z_m_ok hm0
                  have l1 := lc_lt (x := 1) (y := 0)
                  have l2' := lc_le (x := 1) (y := 100)
                  have hs2 : l_st h E td (c i0 - 1, p_z, p_z, 1, some T) = 100 := l_stR (v := 1) (b := 0) (ho := v25) (bt := b25) (Or.inl ⟨by omega, rfl, rfl⟩) (Or.inr ⟨T, rfl, hT25⟩) (by unfold l_cl; omega)
                  have hn : g25 + 1 = B + (i1 + 1) := by omega
                  exact fin 100 (g25 + 1) b25 _ _ _ _ _ (by have z := l_str (h := h) (E := E) (K := (c i0 - 1, p_z, p_z, 1, some T)) htr; rw [hs2] at z; exact z) (by rw [l_tla, ← htd, hK]; exact hs2.symm) hn
              · refine And.intro (show -2147483648 ≤ g25 + 1 ∧ g25 + 1 < 2147483648 by omega) ?_
                have hm44 : la_ok (cw_put (z_m m g25 b25) m_ 22 (g25 + 1)) := la_put (z_m_ok hm0) (by decide) (Or.inl rfl)
                show cw_R _ _ 60 [vr m_, vi h1, vi wo, vl 0, none, vi (c i0), vl 1, none, vi 0, vi 1] [] (cw_put (z_m m g25 b25) m_ 22 (g25 + 1)) _
                rw [z_m_fgp]
                have hm45 : la_ok (z_m m (g25 + 1) b25) := z_m_ok hm0
                have l1 := lc_lt (x := 1) (y := 0)
                have l2' := lc_le (x := 1) (y := 100)
                have hs2 : l_st h E td (c i0 - 1, p_z, p_z, 1, some T) = 0 := l_stR (v := 1) (b := 0) (ho := v25) (bt := b25) (Or.inl ⟨by omega, rfl, rfl⟩) (Or.inr ⟨T, rfl, hT25⟩) (by unfold l_cl; omega)
                have hn : g25 + 1 = B + (i1 + 1) := by omega
                exact fin 0 (g25 + 1) b25 _ _ _ _ _ (by have z := l_str (h := h) (E := E) (K := (c i0 - 1, p_z, p_z, 1, some T)) htr; rw [hs2] at z; exact z) (by rw [l_tla, ← htd, hK]; exact hs2.symm) hn
      · rw [show (2 : Int) = c i0 - 1 by omega] at hK
        have q2 := q2
        refine la_go_R hm 69 [60] ?_
        refine br_f (show ¬ (m m_ 23 ≤ g0) by omega) ?_
        show cw_C _ _ [vr m_, vi g0] (z_m m g0 b0) _
        refine M_codeAtZ hm0 hZ (i0 := i0) (by omega) (by omega) (by omega) ⟨hm, ?_⟩
        refine And.intro (Or.inl rfl) ?_
        have hm21 : la_ok (cw_put (z_m m g0 b0) m_ 24 0) := la_put hm (by decide) (Or.inl rfl)
        refine And.intro (show -2147483648 ≤ g0 + 1 ∧ g0 + 1 < 2147483648 by omega) ?_
        have hm22 : la_ok (cw_put (cw_put (z_m m g0 b0) m_ 24 0) m_ 22 (g0 + 1)) := la_put hm21 (by decide) (Or.inl rfl)
        refine br_f (show ¬ (c i0 ≠ 3) by omega) ?_
        refine And.intro (Or.inl rfl) ?_
        have hm23 : la_ok (cw_put (cw_put (cw_put (z_m m g0 b0) m_ 24 0) m_ 22 (g0 + 1)) m_ 24 0) := la_put hm22 (by decide) (Or.inl rfl)
        show cw_C _ _ [vr m_, vi 4] (cw_put (cw_put (cw_put (z_m m g0 b0) m_ 24 0) m_ 22 (g0 + 1)) m_ 24 0) _
        rw [z_m_fbk, z_m_fgp, z_m_fbk]
        have hm24 : la_ok (z_m m (g0 + 1) 0) := z_m_ok hm0
        refine M_passes0Z0 hm0 hZ (i0 := i2) (by omega) (by omega) (by omega) (by omega) ⟨hm24, ?_⟩
        refine br_t (show (0 : Int) = 0 by decide) ?_
        refine And.intro (fun (c25 : c i0 ≠ h1) => ?_) (fun (c25 : ¬ (c i0 ≠ h1)) => ?_)
        · refine And.intro (show -2147483648 ≤ (g0 + 1) + 1 ∧ (g0 + 1) + 1 < 2147483648 by omega) ?_
          have hm26 : la_ok (cw_put (z_m m (g0 + 1) 0) m_ 22 ((g0 + 1) + 1)) := la_put hm24 (by decide) (Or.inl rfl)
          show cw_R _ _ 60 [vr m_, vi h1, vi wo, vl td, none, vi (c i0), vl 1, none, vi 0, vi 1] [] (cw_put (z_m m (g0 + 1) 0) m_ 22 ((g0 + 1) + 1)) _
          rw [z_m_fgp]
          have hm27 : la_ok (z_m m ((g0 + 1) + 1) 0) := z_m_ok hm0
          have l1 := lc_lt (x := 1) (y := 0)
          have l2' := lc_le (x := 1) (y := 100)
          have hs2 : l_st h E td (c i0 - 1, p_z, p_z, 1, none) = td := l_stR (v := 1) (b := 0) (ho := 1) (bt := 0) (Or.inl ⟨by omega, rfl, rfl⟩) (Or.inl ⟨rfl, rfl, rfl⟩) (by unfold l_cl; omega)
          have hn : (g0 + 1) + 1 = B + (i1 + 1) := by omega
          exact fin td ((g0 + 1) + 1) 0 _ _ _ _ _ (by have z := l_str (h := h) (E := E) (K := (c i0 - 1, p_z, p_z, 1, none)) htr; rw [hs2] at z; exact z) (by rw [l_tla, ← htd, hK]; exact hs2.symm) hn
        · refine br_f (show ¬ ((1 : Int) = 0) by decide) ?_
          refine br_f (show ¬ ((0 : Int) ≠ 0) by decide) ?_
          refine br_f (show ¬ ((0 : Int) ≠ 0) by decide) ?_
          refine And.intro (fun (c28 : 0 ≤ cw_lc 1 0) => ?_) (fun (c28 : ¬ (0 ≤ cw_lc 1 0)) => ?_)
          · refine And.intro (fun (c29 : cw_lc 1 100 ≤ 0) => ?_) (fun (c29 : ¬ (cw_lc 1 100 ≤ 0)) => ?_)
            · refine And.intro (show -2147483648 ≤ (g0 + 1) + 1 ∧ (g0 + 1) + 1 < 2147483648 by omega) ?_
              have hm30 : la_ok (cw_put (z_m m (g0 + 1) 0) m_ 22 ((g0 + 1) + 1)) := la_put hm24 (by decide) (Or.inl rfl)
              show cw_R _ _ 60 [vr m_, vi h1, vi wo, vl 1, none, vi (c i0), vl 1, none, vi 0, vi 1] [] (cw_put (z_m m (g0 + 1) 0) m_ 22 ((g0 + 1) + 1)) _
              rw [z_m_fgp]
              have hm31 : la_ok (z_m m ((g0 + 1) + 1) 0) := z_m_ok hm0
              have l1 := lc_lt (x := 1) (y := 0)
              have l2' := lc_le (x := 1) (y := 100)
              have hs2 : l_st h E td (c i0 - 1, p_z, p_z, 1, none) = 1 := l_stR (v := 1) (b := 0) (ho := 1) (bt := 0) (Or.inl ⟨by omega, rfl, rfl⟩) (Or.inl ⟨rfl, rfl, rfl⟩) (by unfold l_cl; omega)
              have hn : (g0 + 1) + 1 = B + (i1 + 1) := by omega
              exact fin 1 ((g0 + 1) + 1) 0 _ _ _ _ _ (by have z := l_str (h := h) (E := E) (K := (c i0 - 1, p_z, p_z, 1, none)) htr; rw [hs2] at z; exact z) (by rw [l_tla, ← htd, hK]; exact hs2.symm) hn
            · refine And.intro (show -2147483648 ≤ (g0 + 1) + 1 ∧ (g0 + 1) + 1 < 2147483648 by omega) ?_
              have hm32 : la_ok (cw_put (z_m m (g0 + 1) 0) m_ 22 ((g0 + 1) + 1)) := la_put hm24 (by decide) (Or.inl rfl)
              show cw_R _ _ 60 [vr m_, vi h1, vi wo, vl 100, none, vi (c i0), vl 1, none, vi 0, vi 1] [] (cw_put (z_m m (g0 + 1) 0) m_ 22 ((g0 + 1) + 1)) _
              rw [z_m_fgp]
              have hm33 : la_ok (z_m m ((g0 + 1) + 1) 0) := z_m_ok hm0
              have l1 := lc_lt (x := 1) (y := 0)
              have l2' := lc_le (x := 1) (y := 100)
              have hs2 : l_st h E td (c i0 - 1, p_z, p_z, 1, none) = 100 := l_stR (v := 1) (b := 0) (ho := 1) (bt := 0) (Or.inl ⟨by omega, rfl, rfl⟩) (Or.inl ⟨rfl, rfl, rfl⟩) (by unfold l_cl; omega)
              have hn : (g0 + 1) + 1 = B + (i1 + 1) := by omega
              exact fin 100 ((g0 + 1) + 1) 0 _ _ _ _ _ (by have z := l_str (h := h) (E := E) (K := (c i0 - 1, p_z, p_z, 1, none)) htr; rw [hs2] at z; exact z) (by rw [l_tla, ← htd, hK]; exact hs2.symm) hn
          · refine And.intro (show -2147483648 ≤ (g0 + 1) + 1 ∧ (g0 + 1) + 1 < 2147483648 by omega) ?_
            have hm34 : la_ok (cw_put (z_m m (g0 + 1) 0) m_ 22 ((g0 + 1) + 1)) := la_put hm24 (by decide) (Or.inl rfl)
            show cw_R _ _ 60 [vr m_, vi h1, vi wo, vl 0, none, vi (c i0), vl 1, none, vi 0, vi 1] [] (cw_put (z_m m (g0 + 1) 0) m_ 22 ((g0 + 1) + 1)) _
            rw [z_m_fgp]
            have hm35 : la_ok (z_m m ((g0 + 1) + 1) 0) := z_m_ok hm0
            have l1 := lc_lt (x := 1) (y := 0)
            have l2' := lc_le (x := 1) (y := 100)
            have hs2 : l_st h E td (c i0 - 1, p_z, p_z, 1, none) = 0 := l_stR (v := 1) (b := 0) (ho := 1) (bt := 0) (Or.inl ⟨by omega, rfl, rfl⟩) (Or.inl ⟨rfl, rfl, rfl⟩) (by unfold l_cl; omega)
            have hn : (g0 + 1) + 1 = B + (i1 + 1) := by omega
            exact fin 0 ((g0 + 1) + 1) 0 _ _ _ _ _ (by have z := l_str (h := h) (E := E) (K := (c i0 - 1, p_z, p_z, 1, none)) htr; rw [hs2] at z; exact z) (by rw [l_tla, ← htd, hK]; exact hs2.symm) hn
def g_m (m : cw_M) (as wd gt : Int → Int) (ga gb gc gd : Int) : cw_M := fun c => if c = m_asked_ then as else if c = m_would_ then wd else if c = m_got_ then gt else if c = m_ then (fun j => if j = 22 then ga else if j = 23 then gb else if j = 24 then gc else if j = 25 then gd else m m_ j) else m c
theorem g_m_ne {m : cw_M} {as wd gt : Int → Int} {ga gb gc gd : Int} {c : Int} (h0 : c ≠ m_asked_) (h1 : c ≠ m_would_) (h2 : c ≠ m_got_) (h3 : c ≠ m_) : g_m m as wd gt ga gb gc gd c = m c := by
  unfold g_m; rw [if_neg h0, if_neg h1, if_neg h2, if_neg h3]
theorem g_m_as {m : cw_M} {as wd gt : Int → Int} {ga gb gc gd : Int} : g_m m as wd gt ga gb gc gd m_asked_ = as := rfl
theorem g_m_wd {m : cw_M} {as wd gt : Int → Int} {ga gb gc gd : Int} : g_m m as wd gt ga gb gc gd m_would_ = wd := rfl
theorem g_m_gt {m : cw_M} {as wd gt : Int → Int} {ga gb gc gd : Int} : g_m m as wd gt ga gb gc gd m_got_ = gt := rfl
theorem g_m_om_ {m : cw_M} {as wd gt : Int → Int} {ga gb gc gd : Int} {j : Int} (h0 : j ≠ 22) (h1 : j ≠ 23) (h2 : j ≠ 24) (h3 : j ≠ 25) : g_m m as wd gt ga gb gc gd m_ j = m m_ j := by
  show (if j = 22 then ga else if j = 23 then gb else if j = 24 then gc else if j = 25 then gd else m m_ j) = _
  rw [if_neg h0, if_neg h1, if_neg h2, if_neg h3]
theorem g_m_ok {m : cw_M} {as wd gt : Int → Int} {ga gb gc gd : Int} (hm : la_ok m) : la_ok (g_m m as wd gt ga gb gc gd) := by
  refine ⟨by rw [g_m_ne (by decide) (by decide) (by decide) (by decide)]; exact hm.1, fun e he => ?_⟩
  obtain ⟨z1, h2, -, z4⟩ := la_lok e he
  have n0 : e.1 ≠ m_asked_ := fun q => by rw [q] at h2; revert h2; decide
  have n1 : e.1 ≠ m_would_ := fun q => by rw [q] at h2; revert h2; decide
  have n2 : e.1 ≠ m_got_ := fun q => by rw [q] at h2; revert h2; decide
  by_cases q0 : e.1 = m_
  · rw [q0, g_m_om_ (fun q => by rw [q0, q] at z4; cases z4) (fun q => by rw [q0, q] at z4; cases z4) (fun q => by rw [q0, q] at z4; cases z4) (fun q => by rw [q0, q] at z4; cases z4), ← q0]; exact hm.2 e he
  rw [g_m_ne n0 n1 n2 q0]; exact hm.2 e he
theorem g_m_x {m M : cw_M} {as wd gt : Int → Int} {ga gb gc gd : Int} (r0 : M m_asked_ = as) (r1 : M m_would_ = wd) (r2 : M m_got_ = gt) (f0 : M m_ 22 = ga) (f1 : M m_ 23 = gb) (f2 : M m_ 24 = gc) (f3 : M m_ 25 = gd) (o0 : ∀ j, j ≠ 22 → j ≠ 23 → j ≠ 24 → j ≠ 25 → M m_ j = m m_ j) (h : ∀ c, c ≠ m_asked_ → c ≠ m_would_ → c ≠ m_got_ → c ≠ m_ → M c = m c) : M = g_m m as wd gt ga gb gc gd := by
  funext c
  by_cases h0 : c = m_asked_
  · rw [h0, r0]; rfl
  by_cases h1 : c = m_would_
  · rw [h1, r1]; rfl
  by_cases h2 : c = m_got_
  · rw [h2, r2]; rfl
  by_cases h3 : c = m_
  · funext j
    rw [h3]
    by_cases z0 : j = 22
    · rw [z0, f0]; rfl
    by_cases z1 : j = 23
    · rw [z1, f1]; rfl
    by_cases z2 : j = 24
    · rw [z2, f2]; rfl
    by_cases z3 : j = 25
    · rw [z3, f3]; rfl
    rw [o0 j z0 z1 z2 z3, g_m_om_ z0 z1 z2 z3]
  rw [h c h0 h1 h2 h3, g_m_ne h0 h1 h2 h3]
theorem g_m_ras {m : cw_M} {as wd gt : Int → Int} {ga gb gc gd : Int} {f : Int → Int} : cw_row (g_m m as wd gt ga gb gc gd) m_asked_ f = g_m m f wd gt ga gb gc gd := by
  refine g_m_x rfl rfl rfl rfl rfl rfl rfl (fun j z0 z1 z2 z3 => by rw [cw_row_ne (by decide), g_m_om_ z0 z1 z2 z3]) (fun c h0 h1 h2 h3 => by rw [cw_row_ne h0, g_m_ne h0 h1 h2 h3])
theorem g_m_pas {m : cw_M} {as wd gt : Int → Int} {ga gb gc gd : Int} {i v : Int} : cw_put (g_m m as wd gt ga gb gc gd) m_asked_ i v = g_m m (cw_up as i v) wd gt ga gb gc gd := by
  rw [cw_put_row, g_m_ras, g_m_as]
theorem g_m_rwd {m : cw_M} {as wd gt : Int → Int} {ga gb gc gd : Int} {f : Int → Int} : cw_row (g_m m as wd gt ga gb gc gd) m_would_ f = g_m m as f gt ga gb gc gd := by
  refine g_m_x rfl rfl rfl rfl rfl rfl rfl (fun j z0 z1 z2 z3 => by rw [cw_row_ne (by decide), g_m_om_ z0 z1 z2 z3]) (fun c h0 h1 h2 h3 => by rw [cw_row_ne h1, g_m_ne h0 h1 h2 h3])
theorem g_m_pwd {m : cw_M} {as wd gt : Int → Int} {ga gb gc gd : Int} {i v : Int} : cw_put (g_m m as wd gt ga gb gc gd) m_would_ i v = g_m m as (cw_up wd i v) gt ga gb gc gd := by
  rw [cw_put_row, g_m_rwd, g_m_wd]
theorem g_m_rgt {m : cw_M} {as wd gt : Int → Int} {ga gb gc gd : Int} {f : Int → Int} : cw_row (g_m m as wd gt ga gb gc gd) m_got_ f = g_m m as wd f ga gb gc gd := by
  refine g_m_x rfl rfl rfl rfl rfl rfl rfl (fun j z0 z1 z2 z3 => by rw [cw_row_ne (by decide), g_m_om_ z0 z1 z2 z3]) (fun c h0 h1 h2 h3 => by rw [cw_row_ne h2, g_m_ne h0 h1 h2 h3])
theorem g_m_pgt {m : cw_M} {as wd gt : Int → Int} {ga gb gc gd : Int} {i v : Int} : cw_put (g_m m as wd gt ga gb gc gd) m_got_ i v = g_m m as wd (cw_up gt i v) ga gb gc gd := by
  rw [cw_put_row, g_m_rgt, g_m_gt]
theorem g_m_fga {m : cw_M} {as wd gt : Int → Int} {ga gb gc gd : Int} {v : Int} : cw_put (g_m m as wd gt ga gb gc gd) m_ 22 v = g_m m as wd gt v gb gc gd := by
  refine g_m_x rfl rfl rfl rfl rfl rfl rfl (fun j z0 z1 z2 z3 => by rw [cw_put_off z0, g_m_om_ z0 z1 z2 z3]) (fun c h0 h1 h2 h3 => by rw [cw_put_ne h3, g_m_ne h0 h1 h2 h3])
theorem g_m_fgb {m : cw_M} {as wd gt : Int → Int} {ga gb gc gd : Int} {v : Int} : cw_put (g_m m as wd gt ga gb gc gd) m_ 23 v = g_m m as wd gt ga v gc gd := by
  refine g_m_x rfl rfl rfl rfl rfl rfl rfl (fun j z0 z1 z2 z3 => by rw [cw_put_off z1, g_m_om_ z0 z1 z2 z3]) (fun c h0 h1 h2 h3 => by rw [cw_put_ne h3, g_m_ne h0 h1 h2 h3])
theorem g_m_fgc {m : cw_M} {as wd gt : Int → Int} {ga gb gc gd : Int} {v : Int} : cw_put (g_m m as wd gt ga gb gc gd) m_ 24 v = g_m m as wd gt ga gb v gd := by
  refine g_m_x rfl rfl rfl rfl rfl rfl rfl (fun j z0 z1 z2 z3 => by rw [cw_put_off z2, g_m_om_ z0 z1 z2 z3]) (fun c h0 h1 h2 h3 => by rw [cw_put_ne h3, g_m_ne h0 h1 h2 h3])
theorem g_m_fgd {m : cw_M} {as wd gt : Int → Int} {ga gb gc gd : Int} {v : Int} : cw_put (g_m m as wd gt ga gb gc gd) m_ 25 v = g_m m as wd gt ga gb gc v := by
  refine g_m_x rfl rfl rfl rfl rfl rfl rfl (fun j z0 z1 z2 z3 => by rw [cw_put_off z3, g_m_om_ z0 z1 z2 z3]) (fun c h0 h1 h2 h3 => by rw [cw_put_ne h3, g_m_ne h0 h1 h2 h3])
theorem g_m_2 {m : cw_M} {as wd gt : Int → Int} {ga gb gc gd : Int} {as' wd' gt' : Int → Int} {ga' gb' gc' gd' : Int} : g_m (g_m m as wd gt ga gb gc gd) as' wd' gt' ga' gb' gc' gd' = g_m m as' wd' gt' ga' gb' gc' gd' := by
  refine g_m_x rfl rfl rfl rfl rfl rfl rfl (fun j z0 z1 z2 z3 => by rw [g_m_om_ z0 z1 z2 z3, g_m_om_ z0 z1 z2 z3]) (fun c h0 h1 h2 h3 => by rw [g_m_ne h0 h1 h2 h3, g_m_ne h0 h1 h2 h3])
theorem g_m_self {m : cw_M} : g_m m (m m_asked_) (m m_would_) (m m_got_) (m m_ 22) (m m_ 23) (m m_ 24) (m m_ 25) = m := by
  refine (g_m_x rfl rfl rfl rfl rfl rfl rfl (fun _ _ _ _ _ => rfl) (fun _ _ _ _ _ => rfl)).symm
theorem g_m_z {m : cw_M} {as wd gt : Int → Int} {ga gb gc gd g b : Int} : z_m (g_m m as wd gt ga gb gc gd) g b = g_m m as wd gt g gb b gd := by
  refine g_m_x rfl rfl rfl rfl rfl rfl rfl (fun j z0 z1 z2 z3 => ?_) (fun c h0 h1 h2 h3 => ?_)
  · rw [z_m_om_ z0 z2, g_m_om_ z0 z1 z2 z3]
  · rw [z_m_ne h3, g_m_ne h0 h1 h2 h3]
theorem g_m_z2 {m : cw_M} {as wd gt : Int → Int} {ga gb gc gd : Int} : g_m m as wd gt ga gb gc gd = z_m (g_m m as wd gt ga gb gc gd) ga gc := by rw [g_m_z]
/-- the law in force, and what it is asked -/
def L_f (K : Int → Int) : Prop := (-1 ≤ K 50 ∧ K 50 < 6) ∧ (K 50 ≠ -1 → L_ok K (K 50))
def A_E (as E : Int → Int) : Prop := (∀ j, 0 ≤ j → j < 8 → as j = E (p_lw (8 + j))) ∧ ∀ i, 0 ≤ i → i < 17 → -1000000 ≤ E i ∧ E i ≤ 1000000
theorem l_cn {K : Int → Int} {i : Int} : l_c K i (K (51 + i)) = 0 := by unfold l_c; rw [if_neg (by omega)]
theorem Z_law {m : cw_M} {as wd gt E : Int → Int} {ga gc : Int} (hK : L_ok (m m_kept_) (m m_kept_ 50)) (h6 : 0 ≤ m m_kept_ 50 ∧ m m_kept_ 50 < 6) (hA : A_E as E) : Z_h (g_m m as wd gt ga (400 * m m_kept_ 50 + m m_kept_ (51 + m m_kept_ 50)) gc 0) (l_c (m m_kept_) (m m_kept_ 50)) (l_v (m m_kept_) (m m_kept_ 50)) false (m m_kept_ (51 + m m_kept_ 50)) (400 * m m_kept_ 50) E := by
  obtain ⟨k1, k2, k3⟩ := hK
  refine ⟨⟨k1, by omega, by omega⟩, l_cn, rfl, fun i a b => ⟨?_, ?_, ?_⟩, rfl, hA.2, fun _ j a b => hA.1 j a b, fun q => (by cases q)⟩
  · show m m_kept_ _ = l_c _ _ _
    unfold l_c
    rw [if_pos ⟨a, b⟩]
  · show m m_kept_ _ = l_v _ _ _
    unfold l_v
    rw [if_pos ⟨a, b⟩]
  · unfold l_v
    rw [if_pos ⟨a, b⟩]; exact k2 i a b
theorem M_tells {d : Nat} {m : cw_M} {Q : Option cw_V → cw_M → Prop} (hm0 : la_ok m) (hK : L_f (m m_kept_)) {as wd gt : Int → Int} {ga gb gc gd : Int} {E : Int → Int} (hA : A_E as E) {h h1 wo : Int} (hh : h1 = h + 1) (hwo : 0 ≤ wo ∧ wo ≤ 100) (hQ : ∀ a b e f, Q (some (vi (l_tl (l_fo (m m_kept_) (m m_kept_ 50)) h wo E))) (g_m m as wd gt a b e f)) : cw_C (d + 76) k_M_tells [vr m_, vi h1, vi wo] (g_m m as wd gt ga gb gc gd) Q := by
  have hm : la_ok (g_m m as wd gt ga gb gc gd) := g_m_ok hm0
  have hQ2 : m m_kept_ 50 ≠ -1 → ∀ g b, Q (some (vi (l_tl (l_ks (m m_kept_) (m m_kept_ 50)) h wo E))) (z_m (g_m m as wd gt (400 * m m_kept_ 50) (400 * m m_kept_ 50 + m m_kept_ (51 + m m_kept_ 50)) gc 0) g b) := fun c0 g b => by
    have e : l_fo (m m_kept_) (m m_kept_ 50) = l_ks (m m_kept_) (m m_kept_ 50) := by unfold l_fo; rw [if_neg c0]
    rw [g_m_z, ← e]; exact hQ _ _ _ _
  refine la_go_C hm 37 [60] ?_
  refine And.intro (show 0 ≤ 50 ∧ 50 < 5658 by omega) ?_
  refine And.intro (fun (c21 : m m_kept_ 50 ≠ (-1)) => ?_) (fun (c21 : ¬ (m m_kept_ 50 ≠ (-1))) => ?_)
  · have c0 : m m_kept_ 50 ≠ -1 := c21
    have kr := hK.1
    have k1 := (hK.2 c0).1
    refine And.intro (Or.inl rfl) ?_
    have hm22 : la_ok (cw_put (g_m m as wd gt ga gb gc gd) m_ 25 0) := la_put hm (by decide) (Or.inl rfl)
    refine And.intro (show 0 ≤ 50 ∧ 50 < 5658 by omega) ?_
    refine And.intro (show -2147483648 ≤ 400 * (m m_kept_ 50) ∧ 400 * (m m_kept_ 50) < 2147483648 by omega) ?_
    have hm23 : la_ok (cw_put (cw_put (g_m m as wd gt ga gb gc gd) m_ 25 0) m_ 22 (400 * (m m_kept_ 50))) := la_put hm22 (by decide) (Or.inl rfl)
    refine And.intro (show 0 ≤ 50 ∧ 50 < 5658 by omega) ?_
    refine And.intro (show -2147483648 ≤ 51 + (m m_kept_ 50) ∧ 51 + (m m_kept_ 50) < 2147483648 by omega) ?_
    refine And.intro (show 0 ≤ 51 + (m m_kept_ 50) ∧ 51 + (m m_kept_ 50) < 5658 by omega) ?_
    refine And.intro (show -2147483648 ≤ (400 * (m m_kept_ 50)) + (m m_kept_ (51 + (m m_kept_ 50))) ∧ (400 * (m m_kept_ 50)) + (m m_kept_ (51 + (m m_kept_ 50))) < 2147483648 by omega) ?_
    have hm24 : la_ok (cw_put (cw_put (cw_put (g_m m as wd gt ga gb gc gd) m_ 25 0) m_ 22 (400 * (m m_kept_ 50))) m_ 23 ((400 * (m m_kept_ 50)) + (m m_kept_ (51 + (m m_kept_ 50))))) := la_put hm23 (by decide) (Or.inl rfl)
    show cw_R _ _ 60 [vr m_, vi h1, vi wo, vl wo, none, none, none, none, none, none] [] (cw_put (cw_put (cw_put (g_m m as wd gt ga gb gc gd) m_ 25 0) m_ 22 (400 * (m m_kept_ 50))) m_ 23 ((400 * (m m_kept_ 50)) + (m m_kept_ (51 + (m m_kept_ 50))))) _
    rw [g_m_fgd, g_m_fga, g_m_fgb]
    have hm25 : la_ok (g_m m as wd gt (400 * (m m_kept_ 50)) ((400 * (m m_kept_ 50)) + (m m_kept_ (51 + (m m_kept_ 50)))) gc 0) := g_m_ok hm0
    refine la_go_R0 (m' := z_m (g_m m as wd gt (400 * (m m_kept_ 50)) ((400 * (m m_kept_ 50)) + (m m_kept_ (51 + (m m_kept_ 50)))) gc 0) (400 * m m_kept_ 50) gc) (by rw [g_m_z]) ?_
    have hpx := (hK.2 c0).2.2
    rw [← p_nx0] at hpx
    exact M_tells60 (g_m_ok hm0) (Z_law (hK.2 c0) (by omega) hA) hh (hQ2 c0) 13 0 0 0 [] wo _ _ _ _ _ _ _ (by omega) (by have := (hK.2 c0).1; omega) (by omega) (by omega) (by omega) rfl (by omega) hpx
  · show Q (some (vi wo)) (g_m m as wd gt ga gb gc gd)
    have e : l_fo (m m_kept_) (m m_kept_ 50) = [] := by unfold l_fo; rw [if_pos (by omega)]
    rw [e] at hQ
    exact hQ ga gb gc gd
