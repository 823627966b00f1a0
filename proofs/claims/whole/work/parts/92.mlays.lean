/-! What readings give, by the reference (wip/whole/tools/m92.py). -/
noncomputable def F_K (K : Int → Int) : Int := l_fit (fun p => K (12 + p)) (l_br K (K 50) (K 18)) 6
noncomputable def G_K (K : Int → Int) (t p : Int) : Int := G_t K (K 50) (K 18) (F_K K) t p
noncomputable def R_K (K : Int → Int) : List Int := r_l K (K 46)
noncomputable def G_R (K : Int → Int) (i p : Int) : Int := G_K K (t_g (R_K K) i) p
theorem G_Rr {K : Int → Int} {i p : Int} (h : K_r K) : 0 ≤ G_R K i p ∧ G_R K i p ≤ 9999 := G_tr h.2.2.2.2.2.2.1
/-- what the reference's questions may lay -/
def S_f (m M : cw_M) : Prop := (∀ c, c ≠ m_low_ → c ≠ m_high_ → c ≠ m_marks_ → c ≠ m_treeOf_ → c ≠ m_asked_ → c ≠ m_would_ → c ≠ m_got_ → c ≠ m_bestMarks_ → c ≠ m_givesSo_ → c ≠ m_parts_ → c ≠ m_ → M c = m c) ∧ ∀ j, j ≠ 22 → j ≠ 23 → j ≠ 24 → j ≠ 25 → j ≠ 32 → j ≠ 35 → j ≠ 38 → M m_ j = m m_ j
theorem S_fr {m : cw_M} : S_f m m := ⟨fun _ _ _ _ _ _ _ _ _ _ _ _ => rfl, fun _ _ _ _ _ _ _ _ => rfl⟩
theorem S_ft {m m1 m2 : cw_M} (h : S_f m m1) (h2 : S_f m1 m2) : S_f m m2 := ⟨fun c a1 a2 a3 a4 a5 a6 a7 a8 a9 b1 b2 => by rw [h2.1 c a1 a2 a3 a4 a5 a6 a7 a8 a9 b1 b2, h.1 c a1 a2 a3 a4 a5 a6 a7 a8 a9 b1 b2], fun j a1 a2 a3 a4 a5 a6 a7 => by rw [h2.2 j a1 a2 a3 a4 a5 a6 a7, h.2 j a1 a2 a3 a4 a5 a6 a7]⟩
theorem S_fR {m : cw_M} {lo hi mk to : Int → Int} {tm rm : Int} : S_f m (r_m m lo hi mk to tm rm) := ⟨fun c a1 a2 a3 a4 _ _ _ _ _ _ b => r_m_ne a1 a2 a3 a4 b, fun j _ _ _ _ a b _ => r_m_om_ a b⟩
theorem S_fG {m : cw_M} {as wd gt : Int → Int} {ga gb gc gd : Int} : S_f m (g_m m as wd gt ga gb gc gd) := ⟨fun c _ _ _ _ a5 a6 a7 _ _ _ b => g_m_ne a5 a6 a7 b, fun j a b c d _ _ _ => g_m_om_ a b c d⟩
theorem S_fP {m : cw_M} {v : Int} : S_f m (cw_put m m_ 38 v) := ⟨fun c _ _ _ _ _ _ _ _ _ _ b => cw_put_ne b, fun j _ _ _ _ _ _ a => cw_put_off a⟩
theorem S_fk {m M : cw_M} (h : S_f m M) : M m_kept_ = m m_kept_ := h.1 _ (by decide) (by decide) (by decide) (by decide) (by decide) (by decide) (by decide) (by decide) (by decide) (by decide) (by decide)
/-- the readings lie there -/
def A_l (m M : cw_M) : Prop := t_L (m m_kept_ 46 - 1) (t_tm (m m_kept_ 46)) (M m_low_) (M m_high_) ∧ M m_ 32 = t_tm (m m_kept_ 46) ∧ M m_ 35 = ((R_K (m m_kept_)).length : Int) ∧ ∀ i, 0 ≤ i → i < ((R_K (m m_kept_)).length : Int) → M m_treeOf_ i = t_g (R_K (m m_kept_)) i
theorem g_m_c {m : cw_M} {as wd gt : Int → Int} {ga gb gc gd j v : Int} (h2 : j ≠ 22) (h3 : j ≠ 23) (h4 : j ≠ 24) (h5 : j ≠ 25) : cw_put (g_m m as wd gt ga gb gc gd) m_ j v = g_m (cw_put m m_ j v) as wd gt ga gb gc gd := by
  refine g_m_x (by rw [cw_put_ne (by decide)]; rfl) (by rw [cw_put_ne (by decide)]; rfl) (by rw [cw_put_ne (by decide)]; rfl) (by rw [cw_put_off (fun q => h2 q.symm)]; rfl) (by rw [cw_put_off (fun q => h3 q.symm)]; rfl) (by rw [cw_put_off (fun q => h4 q.symm)]; rfl) (by rw [cw_put_off (fun q => h5 q.symm)]; rfl) (fun i z0 z1 z2 z3 => ?_) (fun c h0 h1 h2 h3 => by rw [cw_put_ne h3, g_m_ne h0 h1 h2 h3, cw_put_ne h3])
  by_cases z : i = j
  · rw [z, cw_put_eq, cw_put_eq]
  · rw [cw_put_off z, g_m_om_ z0 z1 z2 z3, cw_put_off z]
theorem M_laysGot {d : Nat} {m : cw_M} {Q : Option cw_V → cw_M → Prop} (hm0 : la_ok m) (hK : K_r (m m_kept_)) {as wd gt : Int → Int} {ga gb gc gd : Int} {t : Int} (hL : t_L (m m_kept_ 46 - 1) (t_tm (m m_kept_ 46)) (m m_low_) (m m_high_)) (ht : 0 ≤ t ∧ t < t_tm (m m_kept_ 46)) (hQ : ∀ as wd ga gb gc gd, Q none (g_m m as wd (t_w gt (6 * t) 0 6 (G_t (m m_kept_) (m m_kept_ 50) (m m_kept_ 18) (m m_ 38) t)) ga gb gc gd)) : cw_C (d + 86) k_M_laysGot [vr m_, vi t] (g_m m as wd gt ga gb gc gd) Q := by
  have hm : la_ok (g_m m as wd gt ga gb gc gd) := g_m_ok hm0
  have hn := hK.1
  have tq := t_tmr hn
  have htt : 0 ≤ t ∧ t < 132 := by omega
  have htc : 0 ≤ t ∧ t < t_c (m m_kept_ 46 - 1) := by omega
  have hH : H_p m t 6 0 (m m_kept_ 46 - 1) t 0 (-1) := H_p0 (by rw [← (by omega : t_tm (m m_kept_ 46) = t_c (m m_kept_ 46 - 1))]; exact hL) htc
  have l43 : ∀ (wd : Int → Int), (∀ p, 0 ≤ p → p < 6 → wd p = G_w (m m_kept_) (m m_kept_ 50) (m m_kept_ 18) (m m_ 38) t p) → ∀ (r : Nat) (p : Int) (as : Int → Int) (ga gb gc gd : Int), 6 < p + r → (0 ≤ p ∧ p ≤ 6) → cw_R (d + 86) k_M_laysGot 43 [vr m_, vi t, vi p] [] (g_m m as wd (t_w gt (6 * t) 0 p (G_t (m m_kept_) (m m_kept_ 50) (m m_kept_ 18) (m m_ 38) t)) ga gb gc gd) Q := by
    intro wd hW r
    induction r with
    | zero =>
      intro p as ga gb gc gd hr hp
      omega
    | succ r ih =>
      intro p as ga gb gc gd hr hp
      have hm : la_ok (g_m m as wd (t_w gt (6 * t) 0 p (G_t (m m_kept_) (m m_kept_ 50) (m m_kept_ 18) (m m_ 38) t)) ga gb gc gd) := g_m_ok hm0
      refine la_go_R hm 35 [43] ?_
      refine And.intro (fun (c21 : 6 ≤ p) => ?_) (fun (c21 : ¬ (6 ≤ p)) => ?_)
      · show Q none (g_m m as wd (t_w gt (6 * t) 0 p (G_t (m m_kept_) (m m_kept_ 50) (m m_kept_ 18) (m m_ 38) t)) ga gb gc gd)
        rw [show p = 6 by omega]
        exact hQ _ _ _ _ _ _
      · refine And.intro (show -2147483648 ≤ 6 * t ∧ 6 * t < 2147483648 by omega) ?_
        refine And.intro (show -2147483648 ≤ (6 * t) + p ∧ (6 * t) + p < 2147483648 by omega) ?_
        refine And.intro (show 0 ≤ p ∧ p < 6 by omega) ?_
        refine And.intro (show 0 ≤ p ∧ p < 6 by omega) ?_
        refine And.intro (show 0 ≤ p ∧ p < 6 by omega) ?_
        show cw_C _ _ [vr m_, vi p, vi (wd p)] (g_m m as wd (t_w gt (6 * t) 0 p (G_t (m m_kept_) (m m_kept_ 50) (m m_kept_ 18) (m m_ 38) t)) ga gb gc gd) _
        refine M_taxOf hm0 hK (by omega) (by have := hW p (by omega) (by omega); have := G_wr (K := m m_kept_) (fc := m m_kept_ 50) (yr := m m_kept_ 18) (fit := m m_ 38) (t := t) (p := p) hK.2.2.2.2.2.2.1; omega) (fun (as22 : Int → Int) (ga22 gb22 gc22 gd22 : Int) => ⟨(g_m_ok hm0), ?_⟩)
        have hwb := hW p (by omega) (by omega)
        have hwr := G_wr (K := m m_kept_) (fc := m m_kept_ 50) (yr := m m_kept_ 18) (fit := m m_ 38) (t := t) (p := p) hK.2.2.2.2.2.2.1
        rw [← hwb] at hwr
        have hsb := g_shb hwr (l_txr (K := m m_kept_) (fc := m m_kept_ 50) (yr := m m_kept_ 18) (p := p) (w := wd p))
        refine And.intro (show -2147483648 ≤ (wd p) * (l_tx (m m_kept_) (m m_kept_ 50) (m m_kept_ 18) p (wd p)) ∧ (wd p) * (l_tx (m m_kept_) (m m_kept_ 50) (m m_kept_ 18) p (wd p)) < 2147483648 by omega) ?_
        refine And.intro (show 0 ≤ (wd p) * (l_tx (m m_kept_) (m m_kept_ 50) (m m_kept_ 18) p (wd p)) ∧ (wd p) * (l_tx (m m_kept_) (m m_kept_ 50) (m m_kept_ 18) p (wd p)) < 2147483648 ∧ 0 < 100 by omega) ?_
        refine And.intro (show -2147483648 ≤ (wd p) - (((wd p) * (l_tx (m m_kept_) (m m_kept_ 50) (m m_kept_ 18) p (wd p))) / 100) ∧ (wd p) - (((wd p) * (l_tx (m m_kept_) (m m_kept_ 50) (m m_kept_ 18) p (wd p))) / 100) < 2147483648 by omega) ?_
        refine And.intro (show 0 ≤ (6 * t) + p ∧ (6 * t) + p < 792 by omega) ?_
        have hm23 : la_ok (cw_put (g_m m as22 wd (t_w gt (6 * t) 0 p (G_t (m m_kept_) (m m_kept_ 50) (m m_kept_ 18) (m m_ 38) t)) ga22 gb22 gc22 gd22) m_got_ ((6 * t) + p) ((wd p) - (((wd p) * (l_tx (m m_kept_) (m m_kept_ 50) (m m_kept_ 18) p (wd p))) / 100))) := la_put (g_m_ok hm0) (by decide) (Or.inr (by decide))
        refine And.intro (show -2147483648 ≤ p + 1 ∧ p + 1 < 2147483648 by omega) ?_
        show cw_R _ _ 43 [vr m_, vi t, vi (p + 1)] [] (cw_put (g_m m as22 wd (t_w gt (6 * t) 0 p (G_t (m m_kept_) (m m_kept_ 50) (m m_kept_ 18) (m m_ 38) t)) ga22 gb22 gc22 gd22) m_got_ ((6 * t) + p) ((wd p) - (((wd p) * (l_tx (m m_kept_) (m m_kept_ 50) (m m_kept_ 18) p (wd p))) / 100))) _
        rw [g_m_pgt]
        have hm24 : la_ok (g_m m as22 wd (cw_up (t_w gt (6 * t) 0 p (G_t (m m_kept_) (m m_kept_ 50) (m m_kept_ 18) (m m_ 38) t)) ((6 * t) + p) ((wd p) - (((wd p) * (l_tx (m m_kept_) (m m_kept_ 50) (m m_kept_ 18) p (wd p))) / 100))) ga22 gb22 gc22 gd22) := g_m_ok hm0
        rw [show wd p - wd p * l_tx (m m_kept_) (m m_kept_ 50) (m m_kept_ 18) p (wd p) / 100 = G_t (m m_kept_) (m m_kept_ 50) (m m_kept_ 18) (m m_ 38) t p by unfold G_t; rw [hwb], t_w_s hp.1]
        exact ih (p + 1) as22 ga22 gb22 gc22 gd22 (by omega) (by omega)
  have l2 : ∀ (r : Nat) (p : Int) (wd : Int → Int), 6 < p + r → (0 ≤ p ∧ p ≤ 6) → (∀ q, 0 ≤ q → q < p → wd q = 0) → cw_R (d + 86) k_M_laysGot 2 [vr m_, vi t, vi p] [] (g_m m as wd gt ga gb gc gd) Q := by
    intro r
    induction r with
    | zero =>
      intro p wd hr hp hz
      omega
    | succ r ih =>
      intro p wd hr hp hz
      have hm : la_ok (g_m m as wd gt ga gb gc gd) := g_m_ok hm0
      refine la_go_R hm 21 [2, 43] ?_
      refine And.intro (fun (c21 : 6 ≤ p) => ?_) (fun (c21 : ¬ (6 ≤ p)) => ?_)
      · show cw_C _ _ [vr m_] (g_m m as wd gt ga gb gc gd) _
        refine M_many hm ⟨hm, ?_⟩
        refine And.intro (show -2147483648 ≤ (m m_kept_ 46) - 1 ∧ (m m_kept_ 46) - 1 < 2147483648 by omega) ?_
        refine And.intro (show 0 ≤ 43 ∧ 43 < 5658 by omega) ?_
        show cw_C _ _ [vr m_, vi t, vi 0, vi ((m m_kept_ 46) - 1), vi (m m_kept_ 43), vi 0] (g_m m as wd gt ga gb gc gd) _
        refine M_goesTo 6 (by omega) hm0 hK htt (by omega) (by omega) (by omega) (by omega) (by omega) htc hH hK.2.2.2.2.2.2.1 (fun p p0 p1 => by have := hz p p0 (by omega); have := hK.2.2.2.2.2.2.1; omega) (fun (as22 : Int → Int) (ga22 gb22 gc22 gd22 : Int) => ⟨(g_m_ok hm0), ?_⟩)
        show cw_R _ _ 43 [vr m_, vi t, vi 0] [] (g_m m as22 (g_go (fun j => m m_kept_ (6 + j)) (fun i => m m_kept_ (19 + i)) (m m_ 38) (l_Sh (m m_kept_) (m m_kept_ 50) (m m_kept_ 18)) 6 0 ((m m_kept_ 46) - 1) t 0 (m m_kept_ 43) wd) gt ga22 gb22 gc22 gd22) _
        have hW : ∀ p, 0 ≤ p → p < 6 → (g_go (fun j => m m_kept_ (6 + j)) (fun i => m m_kept_ (19 + i)) (m m_ 38) (l_Sh (m m_kept_) (m m_kept_ 50) (m m_kept_ 18)) 6 0 ((m m_kept_ 46) - 1) t 0 (m m_kept_ 43) wd) p = G_w (m m_kept_) (m m_kept_ 50) (m m_kept_ 18) (m m_ 38) t p := fun p p0 p1 => g_goc 6 (wd' := fun _ => 0) (fun q q0 q1 => hz q q0 (by omega)) p p0 p1
        rw [show gt = t_w gt (6 * t) 0 0 (G_t (m m_kept_) (m m_kept_ 50) (m m_kept_ 18) (m m_ 38) t) from t_w0.symm]
        exact l43 _ hW 7 0 as22 ga22 gb22 gc22 gd22 (by omega) (by omega)
      · refine And.intro (show 0 ≤ p ∧ p < 6 by omega) ?_
        have hm23 : la_ok (cw_put (g_m m as wd gt ga gb gc gd) m_would_ p 0) := la_put hm (by decide) (Or.inr (by decide))
        refine And.intro (show -2147483648 ≤ p + 1 ∧ p + 1 < 2147483648 by omega) ?_
        show cw_R _ _ 2 [vr m_, vi t, vi (p + 1)] [] (cw_put (g_m m as wd gt ga gb gc gd) m_would_ p 0) _
        rw [g_m_pwd]
        have hm24 : la_ok (g_m m as (cw_up wd p 0) gt ga gb gc gd) := g_m_ok hm0
        exact ih (p + 1) _ (by omega) (by omega) (fun q q0 q1 => by
          by_cases e : q = p
          · rw [e, cw_up_eq]
          · rw [cw_up_ne e]; exact hz q q0 (by omega))
  refine la_go_C hm 5 [2] ?_
  show cw_R _ _ 2 [vr m_, vi t, vi 0] [] (g_m m as wd gt ga gb gc gd) _
  exact l2 7 0 wd (by omega) (by omega) (fun q q0 q1 => by omega)
theorem M_fitNowM {d : Nat} {m : cw_M} {Q : Option cw_V → cw_M → Prop} (hm : la_ok m) (hK : K_r (m m_kept_)) (hQ : ∀ as ga gb gc gd, Q (some (vi (F_K (m m_kept_)))) (g_m m as (m m_would_) (m m_got_) ga gb gc gd)) : cw_C (d + 79) k_M_fitNow [vr m_] m Q := by
  have h := M_fitNow (d := d) (Q := Q) (as := m m_asked_) (wd := m m_would_) (gt := m m_got_) (ga := m m_ 22) (gb := m m_ 23) (gc := m m_ 24) (gd := m m_ 25) hm hK hQ
  rw [g_m_self] at h
  exact h
theorem M_laysGotM {d : Nat} {m : cw_M} {Q : Option cw_V → cw_M → Prop} (hm : la_ok m) (hK : K_r (m m_kept_)) {t : Int} (hL : t_L (m m_kept_ 46 - 1) (t_tm (m m_kept_ 46)) (m m_low_) (m m_high_)) (ht : 0 ≤ t ∧ t < t_tm (m m_kept_ 46)) (hQ : ∀ as wd ga gb gc gd, Q none (g_m m as wd (t_w (m m_got_) (6 * t) 0 6 (G_t (m m_kept_) (m m_kept_ 50) (m m_kept_ 18) (m m_ 38) t)) ga gb gc gd)) : cw_C (d + 86) k_M_laysGot [vr m_, vi t] m Q := by
  have h := M_laysGot (d := d) (Q := Q) (as := m m_asked_) (wd := m m_would_) (gt := m m_got_) (ga := m m_ 22) (gb := m m_ 23) (gc := m m_ 24) (gd := m m_ 25) hm hK hL ht hQ
  rw [g_m_self] at h
  exact h
/-- the loops: over any memory with what readings need -/
def A_h (m M : cw_M) : Prop := la_ok M ∧ S_f m M ∧ A_l m M ∧ M m_ 38 = F_K (m m_kept_)
theorem A_hG {m M : cw_M} {as wd gt : Int → Int} {ga gb gc gd : Int} (h : A_h m M) : A_h m (g_m M as wd gt ga gb gc gd) := ⟨g_m_ok h.1, S_ft h.2.1 S_fG, h.2.2.1, h.2.2.2⟩
theorem M_laysAll {d : Nat} {m : cw_M} {Q : Option cw_V → cw_M → Prop} (hm : la_ok m) (hc : ∀ j, 0 ≤ j → j < 7 → m m_catalan_ j = t_c j) (hK : K_r (m m_kept_)) (hQ : ∀ M, A_h m M → (∀ i, 0 ≤ i → i < ((R_K (m m_kept_)).length : Int) → ∀ p, 0 ≤ p → p < 6 → M m_got_ (6 * M m_treeOf_ i + p) = G_R (m m_kept_) i p) → Q none M) : cw_C (d + 87) k_M_laysAll [vr m_] m Q := by
  have hn := hK.1
  have lp : ∀ (r : Nat) (k : Int) (M : cw_M), ((r_l (m m_kept_) (m m_kept_ 46)).length : Int) < k + r → (0 ≤ k ∧ k ≤ ((r_l (m m_kept_) (m m_kept_ 46)).length : Int)) → (A_h m M) → (∀ i, 0 ≤ i → i < k → ∀ p, 0 ≤ p → p < 6 → M m_got_ (6 * M m_treeOf_ i + p) = G_R (m m_kept_) i p) → cw_R (d + 87) k_M_laysAll 14 [vr m_, vi k] [] M Q := by
    intro r
    induction r with
    | zero =>
      intro k M hr hk hM hgt
      omega
    | succ r ih =>
      intro k M hr hk hM hgt
      have ek := S_fk hM.2.1
      have e35 := hM.2.2.1.2.2.1
      have e35 : M m_ 35 = ((r_l (m m_kept_) (m m_kept_ 46)).length : Int) := e35
      have rr := r_ll (mk := m m_kept_) hn
      have htr : k < ((r_l (m m_kept_) (m m_kept_ 46)).length : Int) → 0 ≤ M m_treeOf_ k ∧ M m_treeOf_ k < t_tm (m m_kept_ 46) := fun q => by rw [hM.2.2.1.2.2.2 k hk.1 q]; exact (r_lg hn ⟨hk.1, q⟩).1
      refine la_go_R hM.1 15 [14] ?_
      refine And.intro (fun (c21 : M m_ 35 ≤ k) => ?_) (fun (c21 : ¬ (M m_ 35 ≤ k)) => ?_)
      · show Q none (M)
        exact hQ M hM (fun i i0 i1 => hgt i i0 (by have e : ((r_l (m m_kept_) (m m_kept_ 46)).length : Int) = ((R_K (m m_kept_)).length : Int) := rfl; omega))
      · refine And.intro (show 0 ≤ k ∧ k < 132 by omega) ?_
        show cw_C _ _ [vr m_, vi (M m_treeOf_ k)] (M) _
        refine M_laysGotM hM.1 (by rw [ek]; exact hK) (by rw [ek]; exact hM.2.2.1.1) (by rw [ek]; exact htr (by omega)) (fun (as22 wd22 : Int → Int) (ga22 gb22 gc22 gd22 : Int) => ⟨(g_m_ok hM.1), ?_⟩)
        refine And.intro (show -2147483648 ≤ k + 1 ∧ k + 1 < 2147483648 by omega) ?_
        show cw_R _ _ 14 [vr m_, vi (k + 1)] [] (g_m M as22 wd22 (t_w (M m_got_) (6 * (M m_treeOf_ k)) 0 6 (G_t (M m_kept_) (M m_kept_ 50) (M m_kept_ 18) (M m_ 38) (M m_treeOf_ k))) ga22 gb22 gc22 gd22) _
        refine ih (k + 1) _ (by omega) (by omega) (A_hG hM) (fun i i0 i1 p p0 p1 => ?_)
        show t_w (M m_got_) (6 * M m_treeOf_ k) 0 6 (G_t (M m_kept_) (M m_kept_ 50) (M m_kept_ 18) (M m_ 38) (M m_treeOf_ k)) (6 * M m_treeOf_ i + p) = _
        rw [ek, hM.2.2.2]
        by_cases e : M m_treeOf_ i = M m_treeOf_ k
        · rw [e, t_wi ⟨p0, by omega⟩, ← e, hM.2.2.1.2.2.2 i i0 (by omega)]; rfl
        · rw [t_wo (by omega)]; exact hgt i i0 (by have : i ≠ k := fun q => e (by rw [q]); omega) p p0 p1
  refine la_go_C hm 11 [14] ?_
  show cw_C _ _ [vr m_] (m) _
  refine M_laysReadings hm hc hn (fun lo hi mk to hL hmk hto => ⟨(r_m_ok hm), ?_⟩)
  show cw_C _ _ [vr m_] (r_m m lo hi mk to (t_tm (m m_kept_ 46)) ((r_l (m m_kept_) (m m_kept_ 46)).length : Int)) _
  refine M_fitNowM (r_m_ok hm) hK (fun (as : Int → Int) (ga gb gc gd : Int) => ⟨(g_m_ok (r_m_ok hm)), ?_⟩)
  have hm21 : la_ok (cw_put (g_m (r_m m lo hi mk to (t_tm (m m_kept_ 46)) ((r_l (m m_kept_) (m m_kept_ 46)).length : Int)) as (m m_would_) (m m_got_) ga gb gc gd) m_ 38 (F_K (m m_kept_))) := la_put (g_m_ok (r_m_ok hm)) (by decide) (Or.inl rfl)
  show cw_R _ _ 14 [vr m_, vi 0] [] (cw_put (g_m (r_m m lo hi mk to (t_tm (m m_kept_ 46)) ((r_l (m m_kept_) (m m_kept_ 46)).length : Int)) as (m m_would_) (m m_got_) ga gb gc gd) m_ 38 (F_K (m m_kept_))) _
  exact lp ((r_l (m m_kept_) (m m_kept_ 46)).length + 1) 0 _ (by omega) (by omega) ⟨la_put (g_m_ok (r_m_ok hm)) (by decide) (Or.inl rfl), S_ft (S_ft S_fR S_fG) S_fP, ⟨hL, rfl, rfl, hto⟩, rfl⟩ (fun i i0 i1 => by omega)
theorem M_laysOne {d : Nat} {m : cw_M} {Q : Option cw_V → cw_M → Prop} (hm : la_ok m) (hc : ∀ j, 0 ≤ j → j < 7 → m m_catalan_ j = t_c j) (hK : K_r (m m_kept_)) {rd : Int} (h1 : 0 ≤ rd → rd < ((R_K (m m_kept_)).length : Int) → ∀ M, A_h m M → (∀ p, 0 ≤ p → p < 6 → M m_got_ (6 * M m_treeOf_ rd + p) = G_R (m m_kept_) rd p) → Q (some (vi 1)) M) (h0 : ¬ (0 ≤ rd ∧ rd < ((R_K (m m_kept_)).length : Int)) → ∀ M, la_ok M → S_f m M → Q (some (vi 0)) M) : cw_C (d + 87) k_M_laysOne [vr m_, vi rd] m Q := by
  have hn := hK.1
  have rr := r_ll (mk := m m_kept_) hn
  refine la_go_C hm 21 [] ?_
  show cw_C _ _ [vr m_] (m) _
  refine M_laysReadings hm hc hn (fun lo hi mk to hL hmk hto => ⟨(r_m_ok hm), ?_⟩)
  show cw_C _ _ [vr m_, vi rd] (r_m m lo hi mk to (t_tm (m m_kept_ 46)) ((r_l (m m_kept_) (m m_kept_ 46)).length : Int)) _
  refine M_isNumber (r_m_ok hm) (by show 0 ≤ ((r_l (m m_kept_) (m m_kept_ 46)).length : Int) ∧ ((r_l (m m_kept_) (m m_kept_ 46)).length : Int) ≤ 132; have rr := r_ll (mk := m m_kept_) hn; omega) (fun (a0 : 0 ≤ rd) (a1 : rd < ((r_l (m m_kept_) (m m_kept_ 46)).length : Int)) => ⟨(r_m_ok hm), ?_⟩) (fun (a0 : ¬ (0 ≤ rd ∧ rd < ((r_l (m m_kept_) (m m_kept_ 46)).length : Int))) => ⟨(r_m_ok hm), ?_⟩)
  · refine br_t (show (1 : Int) ≠ 0 by decide) ?_
    show cw_C _ _ [vr m_] (r_m m lo hi mk to (t_tm (m m_kept_ 46)) ((r_l (m m_kept_) (m m_kept_ 46)).length : Int)) _
    refine M_fitNowM (r_m_ok hm) hK (fun (as : Int → Int) (ga gb gc gd : Int) => ⟨(g_m_ok (r_m_ok hm)), ?_⟩)
    have hm21 : la_ok (cw_put (g_m (r_m m lo hi mk to (t_tm (m m_kept_ 46)) ((r_l (m m_kept_) (m m_kept_ 46)).length : Int)) as (m m_would_) (m m_got_) ga gb gc gd) m_ 38 (F_K (m m_kept_))) := la_put (g_m_ok (r_m_ok hm)) (by decide) (Or.inl rfl)
    refine And.intro (show 0 ≤ rd ∧ rd < 132 by omega) ?_
    show cw_C _ _ [vr m_, vi ((g_m (r_m m lo hi mk to (t_tm (m m_kept_ 46)) ((r_l (m m_kept_) (m m_kept_ 46)).length : Int)) as (m m_would_) (m m_got_) ga gb gc gd) m_treeOf_ rd)] (cw_put (g_m (r_m m lo hi mk to (t_tm (m m_kept_ 46)) ((r_l (m m_kept_) (m m_kept_ 46)).length : Int)) as (m m_would_) (m m_got_) ga gb gc gd) m_ 38 (F_K (m m_kept_))) _
    refine M_laysGotM hm21 hK hL (by show 0 ≤ to rd ∧ to rd < t_tm (m m_kept_ 46); rw [hto rd a0 a1]; exact (r_lg hn ⟨a0, a1⟩).1) (fun (as2 wd2 : Int → Int) (ga2 gb2 gc2 gd2 : Int) => ⟨(g_m_ok hm21), ?_⟩)
    refine And.intro (Or.inr rfl) ?_
    show Q (some (vi 1)) (g_m (cw_put (g_m (r_m m lo hi mk to (t_tm (m m_kept_ 46)) ((r_l (m m_kept_) (m m_kept_ 46)).length : Int)) as (m m_would_) (m m_got_) ga gb gc gd) m_ 38 (F_K (m m_kept_))) as2 wd2 (t_w (m m_got_) (6 * to rd) 0 6 (G_t (m m_kept_) (m m_kept_ 50) (m m_kept_ 18) (F_K (m m_kept_)) (to rd))) ga2 gb2 gc2 gd2)
    refine h1 a0 a1 _ (A_hG ⟨la_put (g_m_ok (r_m_ok hm)) (by decide) (Or.inl rfl), S_ft (S_ft S_fR S_fG) S_fP, ⟨hL, rfl, rfl, hto⟩, rfl⟩) (fun p p0 p1 => ?_)
    show t_w (m m_got_) (6 * to rd) 0 6 _ (6 * to rd + p) = _
    rw [t_wi ⟨p0, by omega⟩, hto rd a0 a1]; rfl
  · refine br_f (show ¬ ((0 : Int) ≠ 0) by decide) ?_
    refine And.intro (Or.inl rfl) ?_
    show Q (some (vi 0)) (r_m m lo hi mk to (t_tm (m m_kept_ 46)) ((r_l (m m_kept_) (m m_kept_ 46)).length : Int))
    exact h0 a0 _ (r_m_ok hm) S_fR
