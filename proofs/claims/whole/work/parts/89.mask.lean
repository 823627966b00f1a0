/-! What a law is asked, by the reference (wip/whole/tools/m89.py). -/
/-- what is kept is in its bounds -/
def K_r (K : Int → Int) : Prop := (0 ≤ K 46 ∧ K 46 ≤ 7) ∧ (∀ i, 0 ≤ i → i < 6 → 0 ≤ K i ∧ K i ≤ 3) ∧ (∀ i, 0 ≤ i → i < 6 → 0 ≤ K (6 + i) ∧ K (6 + i) ≤ 2) ∧ (∀ i, 0 ≤ i → i < 6 → K (12 + i) = 0 ∨ K (12 + i) = 1) ∧ (0 ≤ K 18 ∧ K 18 ≤ 999) ∧ (∀ i, 0 ≤ i → i < 7 → 0 ≤ K (19 + i) ∧ K (19 + i) < 6) ∧ (0 ≤ K 43 ∧ K 43 ≤ 9999) ∧ (0 ≤ K 44 ∧ K 44 ≤ 9) ∧ (0 ≤ K 45 ∧ K 45 ≤ 10) ∧ (0 ≤ K 47 ∧ K 47 ≤ 5) ∧ (0 ≤ K 48 ∧ K 48 ≤ 6) ∧ (0 ≤ K 49 ∧ K 49 ≤ 6) ∧ (-1 ≤ K 50 ∧ K 50 < K 49) ∧ (∀ i, 0 ≤ i → i < 5 → 0 ≤ K (26 + i) ∧ K (26 + i) < 132) ∧ (∀ i, 0 ≤ i → i < 6 → (0 ≤ K (31 + 2 * i) ∧ K (31 + 2 * i) < 6) ∧ 0 ≤ K (32 + 2 * i) ∧ K (32 + 2 * i) ≤ 9999) ∧ ∀ i, 0 ≤ i → i < K 49 → L_ok K i
theorem K_rL {K : Int → Int} (h : K_r K) : L_f K := ⟨⟨h.2.2.2.2.2.2.2.2.2.2.2.2.1.1, by have a := h.2.2.2.2.2.2.2.2.2.2.2.2.1.2; have b := h.2.2.2.2.2.2.2.2.2.2.2.1; omega⟩, fun q => h.2.2.2.2.2.2.2.2.2.2.2.2.2.2.2 _ (by have := h.2.2.2.2.2.2.2.2.2.2.2.2.1.1; omega) h.2.2.2.2.2.2.2.2.2.2.2.2.1.2⟩
theorem l_Er {K : Int → Int} {yr jn lf rg wt hr : Int} (hy : 0 ≤ yr ∧ yr ≤ 999) (hm : 0 ≤ K 44 ∧ K 44 ≤ 9) (hn : 0 ≤ K 46 ∧ K 46 ≤ 7) (h1 : -1 ≤ jn ∧ jn ≤ 6) (h2 : -1 ≤ lf ∧ lf ≤ 7) (h3 : -1 ≤ rg ∧ rg ≤ 7) (h4 : 0 ≤ wt ∧ wt ≤ 9999) (h5 : -1 ≤ hr ∧ hr ≤ 6) : ∀ i, 0 ≤ i → i < 17 → -1000000 ≤ l_E K yr jn lf rg wt hr i ∧ l_E K yr jn lf rg wt hr i ≤ 1000000 := by
  intro i _ _
  have := f_cntr (f := fun i => K (19 + i)) (p := hr) (K 46).toNat
  unfold l_E
  (repeat' split) <;> omega
theorem M_asksOf {d : Nat} {m : cw_M} {Q : Option cw_V → cw_M → Prop} (hm0 : la_ok m) (hK : K_r (m m_kept_)) {as wd gt : Int → Int} {ga gb gc gd : Int} {jn lf rg wt hr : Int} (h1 : -1 ≤ jn ∧ jn ≤ 6) (h2 : -1 ≤ lf ∧ lf ≤ 7) (h3 : -1 ≤ rg ∧ rg ≤ 7) (h4 : 0 ≤ wt ∧ wt ≤ 9999) (h5 : -1 ≤ hr ∧ hr ≤ 6) (hQ : ∀ as, A_E as (l_E (m m_kept_) (m m_kept_ 18) jn lf rg wt hr) → Q none (g_m m as wd gt ga gb gc gd)) : cw_C (d + 2) k_M_asksOf [vr m_, vi jn, vi lf, vi rg, vi wt, vi hr] (g_m m as wd gt ga gb gc gd) Q := by
  have hm : la_ok (g_m m as wd gt ga gb gc gd) := g_m_ok hm0
  have hn := hK.1
  refine la_go_C hm 55 [] ?_
  refine And.intro (show 0 ≤ 0 ∧ 0 < 8 by omega) ?_
  have hm21 : la_ok (cw_put (g_m m as wd gt ga gb gc gd) m_asked_ 0 jn) := la_put hm (by decide) (Or.inr (by decide))
  refine And.intro (show 0 ≤ 1 ∧ 1 < 8 by omega) ?_
  have hm22 : la_ok (cw_put (cw_put (g_m m as wd gt ga gb gc gd) m_asked_ 0 jn) m_asked_ 1 lf) := la_put hm21 (by decide) (Or.inr (by decide))
  refine And.intro (show 0 ≤ 2 ∧ 2 < 8 by omega) ?_
  have hm23 : la_ok (cw_put (cw_put (cw_put (g_m m as wd gt ga gb gc gd) m_asked_ 0 jn) m_asked_ 1 lf) m_asked_ 2 rg) := la_put hm22 (by decide) (Or.inr (by decide))
  refine And.intro (show 0 ≤ 3 ∧ 3 < 8 by omega) ?_
  have hm24 : la_ok (cw_put (cw_put (cw_put (cw_put (g_m m as wd gt ga gb gc gd) m_asked_ 0 jn) m_asked_ 1 lf) m_asked_ 2 rg) m_asked_ 3 wt) := la_put hm23 (by decide) (Or.inr (by decide))
  refine And.intro (show 0 ≤ 4 ∧ 4 < 8 by omega) ?_
  have hm25 : la_ok (cw_put (cw_put (cw_put (cw_put (cw_put (g_m m as wd gt ga gb gc gd) m_asked_ 0 jn) m_asked_ 1 lf) m_asked_ 2 rg) m_asked_ 3 wt) m_asked_ 4 hr) := la_put hm24 (by decide) (Or.inr (by decide))
  refine And.intro (fun (c26 : hr ≠ (-1)) => ?_) (fun (c26 : ¬ (hr ≠ (-1))) => ?_)
  · show cw_C _ _ [vr m_, vi hr] (cw_put (cw_put (cw_put (cw_put (cw_put (g_m m as wd gt ga gb gc gd) m_asked_ 0 jn) m_asked_ 1 lf) m_asked_ 2 rg) m_asked_ 3 wt) m_asked_ 4 hr) _
    rw [g_m_pas, g_m_pas, g_m_pas, g_m_pas, g_m_pas]
    have hm27 : la_ok (g_m m (cw_up (cw_up (cw_up (cw_up (cw_up as 0 jn) 1 lf) 2 rg) 3 wt) 4 hr) wd gt ga gb gc gd) := g_m_ok hm0
    refine M_timesOf hm27 hn ⟨hm27, ?_⟩
    refine And.intro (show 0 ≤ 5 ∧ 5 < 8 by omega) ?_
    have hm28 : la_ok (cw_put (g_m m (cw_up (cw_up (cw_up (cw_up (cw_up as 0 jn) 1 lf) 2 rg) 3 wt) 4 hr) wd gt ga gb gc gd) m_asked_ 5 (f_cnt (fun i => m m_kept_ (19 + i)) hr (m m_kept_ 46).toNat)) := la_put hm27 (by decide) (Or.inr (by decide))
    refine And.intro (show 0 ≤ 44 ∧ 44 < 5658 by omega) ?_
    refine And.intro (show 0 ≤ 6 ∧ 6 < 8 by omega) ?_
    have hm29 : la_ok (cw_put (cw_put (g_m m (cw_up (cw_up (cw_up (cw_up (cw_up as 0 jn) 1 lf) 2 rg) 3 wt) 4 hr) wd gt ga gb gc gd) m_asked_ 5 (f_cnt (fun i => m m_kept_ (19 + i)) hr (m m_kept_ 46).toNat)) m_asked_ 6 (m m_kept_ 44)) := la_put hm28 (by decide) (Or.inr (by decide))
    refine And.intro (show 0 ≤ 18 ∧ 18 < 5658 by omega) ?_
    refine And.intro (show 0 ≤ 7 ∧ 7 < 8 by omega) ?_
    have hm30 : la_ok (cw_put (cw_put (cw_put (g_m m (cw_up (cw_up (cw_up (cw_up (cw_up as 0 jn) 1 lf) 2 rg) 3 wt) 4 hr) wd gt ga gb gc gd) m_asked_ 5 (f_cnt (fun i => m m_kept_ (19 + i)) hr (m m_kept_ 46).toNat)) m_asked_ 6 (m m_kept_ 44)) m_asked_ 7 (m m_kept_ 18)) := la_put hm29 (by decide) (Or.inr (by decide))
    show Q none (cw_put (cw_put (cw_put (g_m m (cw_up (cw_up (cw_up (cw_up (cw_up as 0 jn) 1 lf) 2 rg) 3 wt) 4 hr) wd gt ga gb gc gd) m_asked_ 5 (f_cnt (fun i => m m_kept_ (19 + i)) hr (m m_kept_ 46).toNat)) m_asked_ 6 (m m_kept_ 44)) m_asked_ 7 (m m_kept_ 18))
    rw [g_m_pas, g_m_pas, g_m_pas]
    have hm31 : la_ok (g_m m (cw_up (cw_up (cw_up (cw_up (cw_up (cw_up (cw_up (cw_up as 0 jn) 1 lf) 2 rg) 3 wt) 4 hr) 5 (f_cnt (fun i => m m_kept_ (19 + i)) hr (m m_kept_ 46).toNat)) 6 (m m_kept_ 44)) 7 (m m_kept_ 18)) wd gt ga gb gc gd) := g_m_ok hm0
    refine hQ _ ⟨fun j j0 j1 => ?_, l_Er hK.2.2.2.2.1 hK.2.2.2.2.2.2.2.1 hn (by omega) (by omega) (by omega) (by omega) (by omega)⟩
    have hj : j = 0 ∨ j = 1 ∨ j = 2 ∨ j = 3 ∨ j = 4 ∨ j = 5 ∨ j = 6 ∨ j = 7 := by omega
    rcases hj with q | q | q | q | q | q | q | q
    · rw [q]; rfl
    · rw [q]; rfl
    · rw [q]; rfl
    · rw [q]; rfl
    · rw [q]; rfl
    · rw [q]; show _ = (if hr = -1 then -1 else f_cnt (fun i => m m_kept_ (19 + i)) hr (m m_kept_ 46).toNat); rw [if_neg (by omega)]; rfl
    · rw [q]; rfl
    · rw [q]; rfl
  · refine And.intro (show 0 ≤ 5 ∧ 5 < 8 by omega) ?_
    have hm32 : la_ok (cw_put (cw_put (cw_put (cw_put (cw_put (cw_put (g_m m as wd gt ga gb gc gd) m_asked_ 0 jn) m_asked_ 1 lf) m_asked_ 2 rg) m_asked_ 3 wt) m_asked_ 4 hr) m_asked_ 5 (-1)) := la_put hm25 (by decide) (Or.inr (by decide))
    refine And.intro (show 0 ≤ 44 ∧ 44 < 5658 by omega) ?_
    refine And.intro (show 0 ≤ 6 ∧ 6 < 8 by omega) ?_
    have hm33 : la_ok (cw_put (cw_put (cw_put (cw_put (cw_put (cw_put (cw_put (g_m m as wd gt ga gb gc gd) m_asked_ 0 jn) m_asked_ 1 lf) m_asked_ 2 rg) m_asked_ 3 wt) m_asked_ 4 hr) m_asked_ 5 (-1)) m_asked_ 6 (m m_kept_ 44)) := la_put hm32 (by decide) (Or.inr (by decide))
    refine And.intro (show 0 ≤ 18 ∧ 18 < 5658 by omega) ?_
    refine And.intro (show 0 ≤ 7 ∧ 7 < 8 by omega) ?_
    have hm34 : la_ok (cw_put (cw_put (cw_put (cw_put (cw_put (cw_put (cw_put (cw_put (g_m m as wd gt ga gb gc gd) m_asked_ 0 jn) m_asked_ 1 lf) m_asked_ 2 rg) m_asked_ 3 wt) m_asked_ 4 hr) m_asked_ 5 (-1)) m_asked_ 6 (m m_kept_ 44)) m_asked_ 7 (m m_kept_ 18)) := la_put hm33 (by decide) (Or.inr (by decide))
    show Q none (cw_put (cw_put (cw_put (cw_put (cw_put (cw_put (cw_put (cw_put (g_m m as wd gt ga gb gc gd) m_asked_ 0 jn) m_asked_ 1 lf) m_asked_ 2 rg) m_asked_ 3 wt) m_asked_ 4 hr) m_asked_ 5 (-1)) m_asked_ 6 (m m_kept_ 44)) m_asked_ 7 (m m_kept_ 18))
    rw [g_m_pas, g_m_pas, g_m_pas, g_m_pas, g_m_pas, g_m_pas, g_m_pas, g_m_pas]
    have hm35 : la_ok (g_m m (cw_up (cw_up (cw_up (cw_up (cw_up (cw_up (cw_up (cw_up as 0 jn) 1 lf) 2 rg) 3 wt) 4 hr) 5 (-1)) 6 (m m_kept_ 44)) 7 (m m_kept_ 18)) wd gt ga gb gc gd) := g_m_ok hm0
    refine hQ _ ⟨fun j j0 j1 => ?_, l_Er hK.2.2.2.2.1 hK.2.2.2.2.2.2.2.1 hn (by omega) (by omega) (by omega) (by omega) (by omega)⟩
    have hj : j = 0 ∨ j = 1 ∨ j = 2 ∨ j = 3 ∨ j = 4 ∨ j = 5 ∨ j = 6 ∨ j = 7 := by omega
    rcases hj with q | q | q | q | q | q | q | q
    · rw [q]; rfl
    · rw [q]; rfl
    · rw [q]; rfl
    · rw [q]; rfl
    · rw [q]; rfl
    · rw [q]; show _ = (if hr = -1 then -1 else f_cnt (fun i => m m_kept_ (19 + i)) hr (m m_kept_ 46).toNat); rw [if_pos (by omega)]; rfl
    · rw [q]; rfl
    · rw [q]; rfl
theorem M_shareAt {d : Nat} {m : cw_M} {Q : Option cw_V → cw_M → Prop} (hm0 : la_ok m) (hK : K_r (m m_kept_)) {as wd gt : Int → Int} {ga gb gc gd : Int} {jn lf rg wt : Int} (h1 : -1 ≤ jn ∧ jn ≤ 6) (h2 : -1 ≤ lf ∧ lf ≤ 7) (h3 : -1 ≤ rg ∧ rg ≤ 7) (h4 : 0 ≤ wt ∧ wt ≤ 9999) (hQ : ∀ as ga gb gc gd, Q (some (vi (l_tl (l_fo (m m_kept_) (m m_kept_ 50)) 0 50 (l_E (m m_kept_) (m m_kept_ 18) jn lf rg wt (-1))))) (g_m m as wd gt ga gb gc gd)) : cw_C (d + 77) k_M_shareAt [vr m_, vi jn, vi lf, vi rg, vi wt] (g_m m as wd gt ga gb gc gd) Q := by
  have hm : la_ok (g_m m as wd gt ga gb gc gd) := g_m_ok hm0
  refine la_go_C hm 15 [] ?_
  show cw_C _ _ [vr m_, vi jn, vi lf, vi rg, vi wt, vi (-1)] (g_m m as wd gt ga gb gc gd) _
  refine M_asksOf hm0 hK (by omega) (by omega) (by omega) (by omega) (by omega) (fun (as21 : Int → Int) (hA21 : A_E as21 (l_E (m m_kept_) (m m_kept_ 18) jn lf rg wt (-1))) => ⟨(g_m_ok hm0), ?_⟩)
  show cw_C _ _ [vr m_, vi 1, vi 50] (g_m m as21 wd gt ga gb gc gd) _
  refine M_tells hm0 (K_rL hK) hA21 (h := 0) rfl (by decide) (fun (ga22 gb22 gc22 gd22 : Int) => ⟨(g_m_ok hm0), ?_⟩)
  show Q (some (vi (l_tl (l_fo (m m_kept_) (m m_kept_ 50)) 0 50 (l_E (m m_kept_) (m m_kept_ 18) jn lf rg wt (-1))))) (g_m m as21 wd gt ga22 gb22 gc22 gd22)
  exact hQ _ _ _ _ _
theorem M_taxOf {d : Nat} {m : cw_M} {Q : Option cw_V → cw_M → Prop} (hm0 : la_ok m) (hK : K_r (m m_kept_)) {as wd gt : Int → Int} {ga gb gc gd : Int} {p wt : Int} (h5 : 0 ≤ p ∧ p < 6) (h4 : 0 ≤ wt ∧ wt ≤ 9999) (hQ : ∀ as ga gb gc gd, Q (some (vi (l_tl (l_fo (m m_kept_) (m m_kept_ 50)) 1 0 (l_E (m m_kept_) (m m_kept_ 18) (-1) (-1) (-1) wt p)))) (g_m m as wd gt ga gb gc gd)) : cw_C (d + 77) k_M_taxOf [vr m_, vi p, vi wt] (g_m m as wd gt ga gb gc gd) Q := by
  have hm : la_ok (g_m m as wd gt ga gb gc gd) := g_m_ok hm0
  refine la_go_C hm 15 [] ?_
  show cw_C _ _ [vr m_, vi (-1), vi (-1), vi (-1), vi wt, vi p] (g_m m as wd gt ga gb gc gd) _
  refine M_asksOf hm0 hK (by omega) (by omega) (by omega) (by omega) (by omega) (fun (as21 : Int → Int) (hA21 : A_E as21 (l_E (m m_kept_) (m m_kept_ 18) (-1) (-1) (-1) wt p)) => ⟨(g_m_ok hm0), ?_⟩)
  show cw_C _ _ [vr m_, vi 2, vi 0] (g_m m as21 wd gt ga gb gc gd) _
  refine M_tells hm0 (K_rL hK) hA21 (h := 1) rfl (by decide) (fun (ga22 gb22 gc22 gd22 : Int) => ⟨(g_m_ok hm0), ?_⟩)
  show Q (some (vi (l_tl (l_fo (m m_kept_) (m m_kept_ 50)) 1 0 (l_E (m m_kept_) (m m_kept_ 18) (-1) (-1) (-1) wt p)))) (g_m m as21 wd gt ga22 gb22 gc22 gd22)
  exact hQ _ _ _ _ _
theorem M_isBarred {d : Nat} {m : cw_M} {Q : Option cw_V → cw_M → Prop} (hm0 : la_ok m) (hK : K_r (m m_kept_)) {as wd gt : Int → Int} {ga gb gc gd : Int} {p : Int} (h5 : 0 ≤ p ∧ p < 6) (h1 : ∀ as ga gb gc gd, 0 < l_tl (l_fo (m m_kept_) (m m_kept_ 50)) 2 0 (l_E (m m_kept_) (m m_kept_ 18) (-1) (-1) (-1) (m m_kept_ 43) p) → Q (some (vi 1)) (g_m m as wd gt ga gb gc gd)) (h0 : ∀ as ga gb gc gd, ¬ (0 < l_tl (l_fo (m m_kept_) (m m_kept_ 50)) 2 0 (l_E (m m_kept_) (m m_kept_ 18) (-1) (-1) (-1) (m m_kept_ 43) p)) → Q (some (vi 0)) (g_m m as wd gt ga gb gc gd)) : cw_C (d + 77) k_M_isBarred [vr m_, vi p] (g_m m as wd gt ga gb gc gd) Q := by
  have hm : la_ok (g_m m as wd gt ga gb gc gd) := g_m_ok hm0
  have h4 := hK.2.2.2.2.2.2.1
  refine la_go_C hm 21 [] ?_
  refine And.intro (show 0 ≤ 43 ∧ 43 < 5658 by omega) ?_
  show cw_C _ _ [vr m_, vi (-1), vi (-1), vi (-1), vi (m m_kept_ 43), vi p] (g_m m as wd gt ga gb gc gd) _
  refine M_asksOf hm0 hK (by omega) (by omega) (by omega) (by omega) (by omega) (fun (as21 : Int → Int) (hA21 : A_E as21 (l_E (m m_kept_) (m m_kept_ 18) (-1) (-1) (-1) (m m_kept_ 43) p)) => ⟨(g_m_ok hm0), ?_⟩)
  show cw_C _ _ [vr m_, vi 3, vi 0] (g_m m as21 wd gt ga gb gc gd) _
  refine M_tells hm0 (K_rL hK) hA21 (h := 2) rfl (by decide) (fun (ga22 gb22 gc22 gd22 : Int) => ⟨(g_m_ok hm0), ?_⟩)
  refine And.intro (fun (c23 : l_tl (l_fo (m m_kept_) (m m_kept_ 50)) 2 0 (l_E (m m_kept_) (m m_kept_ 18) (-1) (-1) (-1) (m m_kept_ 43) p) ≤ 0) => ?_) (fun (c23 : ¬ (l_tl (l_fo (m m_kept_) (m m_kept_ 50)) 2 0 (l_E (m m_kept_) (m m_kept_ 18) (-1) (-1) (-1) (m m_kept_ 43) p) ≤ 0)) => ?_)
  · refine And.intro (Or.inl rfl) ?_
    show Q (some (vi 0)) (g_m m as21 wd gt ga22 gb22 gc22 gd22)
    exact h0 _ _ _ _ _ (by omega)
  · refine And.intro (Or.inr rfl) ?_
    show Q (some (vi 1)) (g_m m as21 wd gt ga22 gb22 gc22 gd22)
    exact h1 _ _ _ _ _ (by omega)
/-- the set of those that are living and not barred, of the first so many -/
noncomputable def l_fit (lv br : Int → Int) : Nat → Int
  | 0 => 0
  | n + 1 => cw_ior (l_fit lv br n) (if lv n = 1 ∧ ¬ 0 < br n then cw_ishl 1 n else 0)
theorem l_fit1 {lv br : Int → Int} {p x : Int} (hp : 0 ≤ p) (hx : x = if lv p = 1 ∧ ¬ 0 < br p then cw_ishl 1 p else 0) : cw_ior (l_fit lv br p.toNat) x = l_fit lv br (p + 1).toNat := by
  rw [show (p + 1).toNat = p.toNat + 1 by omega, hx]
  show _ = cw_ior (l_fit lv br p.toNat) (if lv ((p.toNat : Nat) : Int) = 1 ∧ ¬ 0 < br ((p.toNat : Nat) : Int) then cw_ishl 1 ((p.toNat : Nat) : Int) else 0)
  rw [show ((p.toNat : Nat) : Int) = p by omega]
theorem M_fitNow {d : Nat} {m : cw_M} {Q : Option cw_V → cw_M → Prop} (hm0 : la_ok m) (hK : K_r (m m_kept_)) {as wd gt : Int → Int} {ga gb gc gd : Int} (hQ : ∀ as ga gb gc gd, Q (some (vi (l_fit (fun p => m m_kept_ (12 + p)) (fun p => l_tl (l_fo (m m_kept_) (m m_kept_ 50)) 2 0 (l_E (m m_kept_) (m m_kept_ 18) (-1) (-1) (-1) (m m_kept_ 43) p)) 6))) (g_m m as wd gt ga gb gc gd)) : cw_C (d + 79) k_M_fitNow [vr m_] (g_m m as wd gt ga gb gc gd) Q := by
  have hm : la_ok (g_m m as wd gt ga gb gc gd) := g_m_ok hm0
  have lp : ∀ (r : Nat) (p : Int) (as : Int → Int) (ga gb gc gd : Int), 6 < p + r → (0 ≤ p ∧ p ≤ 6) → cw_R (d + 79) k_M_fitNow 4 [vr m_, vi (l_fit (fun p => m m_kept_ (12 + p)) (fun p => l_tl (l_fo (m m_kept_) (m m_kept_ 50)) 2 0 (l_E (m m_kept_) (m m_kept_ 18) (-1) (-1) (-1) (m m_kept_ 43) p)) p.toNat), vi p] [] (g_m m as wd gt ga gb gc gd) Q := by
    intro r
    induction r with
    | zero =>
      intro p as ga gb gc gd hr hp
      omega
    | succ r ih =>
      intro p as ga gb gc gd hr hp
      have hm : la_ok (g_m m as wd gt ga gb gc gd) := g_m_ok hm0
      refine la_go_R hm 27 [4] ?_
      refine And.intro (fun (c21 : 6 ≤ p) => ?_) (fun (c21 : ¬ (6 ≤ p)) => ?_)
      · show Q (some (vi (l_fit (fun p => m m_kept_ (12 + p)) (fun p => l_tl (l_fo (m m_kept_) (m m_kept_ 50)) 2 0 (l_E (m m_kept_) (m m_kept_ 18) (-1) (-1) (-1) (m m_kept_ 43) p)) p.toNat))) (g_m m as wd gt ga gb gc gd)
        rw [show p = 6 by omega]
        exact hQ _ _ _ _ _
      · refine And.intro (show -2147483648 ≤ 12 + p ∧ 12 + p < 2147483648 by omega) ?_
        refine And.intro (show 0 ≤ 12 + p ∧ 12 + p < 5658 by omega) ?_
        refine And.intro (fun (c22 : m m_kept_ (12 + p) ≠ 1) => ?_) (fun (c22 : ¬ (m m_kept_ (12 + p) ≠ 1)) => ?_)
        · refine And.intro (show -2147483648 ≤ p + 1 ∧ p + 1 < 2147483648 by omega) ?_
          show cw_R _ _ 4 [vr m_, vi (cw_ior (l_fit (fun p => m m_kept_ (12 + p)) (fun p => l_tl (l_fo (m m_kept_) (m m_kept_ 50)) 2 0 (l_E (m m_kept_) (m m_kept_ 18) (-1) (-1) (-1) (m m_kept_ 43) p)) p.toNat) 0), vi (p + 1)] [] (g_m m as wd gt ga gb gc gd) _
          rw [l_fit1 (lv := (fun p => m m_kept_ (12 + p))) (br := (fun p => l_tl (l_fo (m m_kept_) (m m_kept_ 50)) 2 0 (l_E (m m_kept_) (m m_kept_ 18) (-1) (-1) (-1) (m m_kept_ 43) p))) hp.1 (by show _ = if m m_kept_ (12 + p) = 1 ∧ ¬ 0 < l_tl (l_fo (m m_kept_) (m m_kept_ 50)) 2 0 (l_E (m m_kept_) (m m_kept_ 18) (-1) (-1) (-1) (m m_kept_ 43) p) then cw_ishl 1 p else 0; rw [if_neg (by omega)])]
          exact ih (p + 1) as ga gb gc gd (by omega) (by omega)
        · show cw_C _ _ [vr m_, vi p] (g_m m as wd gt ga gb gc gd) _
          refine M_isBarred hm0 hK (by omega) (fun (as23 : Int → Int) (ga23 gb23 gc23 gd23 : Int) (a24 : 0 < l_tl (l_fo (m m_kept_) (m m_kept_ 50)) 2 0 (l_E (m m_kept_) (m m_kept_ 18) (-1) (-1) (-1) (m m_kept_ 43) p)) => ⟨(g_m_ok hm0), ?_⟩) (fun (as23 : Int → Int) (ga23 gb23 gc23 gd23 : Int) (a24 : ¬ (0 < l_tl (l_fo (m m_kept_) (m m_kept_ 50)) 2 0 (l_E (m m_kept_) (m m_kept_ 18) (-1) (-1) (-1) (m m_kept_ 43) p))) => ⟨(g_m_ok hm0), ?_⟩)
          · refine br_t (show (1 : Int) ≠ 0 by decide) ?_
            refine And.intro (show -2147483648 ≤ p + 1 ∧ p + 1 < 2147483648 by omega) ?_
            show cw_R _ _ 4 [vr m_, vi (cw_ior (l_fit (fun p => m m_kept_ (12 + p)) (fun p => l_tl (l_fo (m m_kept_) (m m_kept_ 50)) 2 0 (l_E (m m_kept_) (m m_kept_ 18) (-1) (-1) (-1) (m m_kept_ 43) p)) p.toNat) 0), vi (p + 1)] [] (g_m m as23 wd gt ga23 gb23 gc23 gd23) _
            rw [l_fit1 (lv := (fun p => m m_kept_ (12 + p))) (br := (fun p => l_tl (l_fo (m m_kept_) (m m_kept_ 50)) 2 0 (l_E (m m_kept_) (m m_kept_ 18) (-1) (-1) (-1) (m m_kept_ 43) p))) hp.1 (by show _ = if m m_kept_ (12 + p) = 1 ∧ ¬ 0 < l_tl (l_fo (m m_kept_) (m m_kept_ 50)) 2 0 (l_E (m m_kept_) (m m_kept_ 18) (-1) (-1) (-1) (m m_kept_ 43) p) then cw_ishl 1 p else 0; rw [if_neg (by omega)])]
            exact ih (p + 1) as23 ga23 gb23 gc23 gd23 (by omega) (by omega)
          · refine br_f (show ¬ ((0 : Int) ≠ 0) by decide) ?_
            refine And.intro (show -2147483648 ≤ p + 1 ∧ p + 1 < 2147483648 by omega) ?_
            show cw_R _ _ 4 [vr m_, vi (cw_ior (l_fit (fun p => m m_kept_ (12 + p)) (fun p => l_tl (l_fo (m m_kept_) (m m_kept_ 50)) 2 0 (l_E (m m_kept_) (m m_kept_ 18) (-1) (-1) (-1) (m m_kept_ 43) p)) p.toNat) (cw_ishl 1 p)), vi (p + 1)] [] (g_m m as23 wd gt ga23 gb23 gc23 gd23) _
            rw [l_fit1 (lv := (fun p => m m_kept_ (12 + p))) (br := (fun p => l_tl (l_fo (m m_kept_) (m m_kept_ 50)) 2 0 (l_E (m m_kept_) (m m_kept_ 18) (-1) (-1) (-1) (m m_kept_ 43) p))) hp.1 (by show _ = if m m_kept_ (12 + p) = 1 ∧ ¬ 0 < l_tl (l_fo (m m_kept_) (m m_kept_ 50)) 2 0 (l_E (m m_kept_) (m m_kept_ 18) (-1) (-1) (-1) (m m_kept_ 43) p) then cw_ishl 1 p else 0; rw [if_pos (by omega)])]
            exact ih (p + 1) as23 ga23 gb23 gc23 gd23 (by omega) (by omega)
  refine la_go_C hm 7 [4] ?_
  show cw_R _ _ 4 [vr m_, vi 0, vi 0] [] (g_m m as wd gt ga gb gc gd) _
  exact lp 7 0 as ga gb gc gd (by omega) (by omega)
