/-! An image is kept, by both (wip/whole/tools/m161.py). -/
theorem T_lf {m A : cw_M} {T : Int} {Ks : List p_K} (h : T_l m T Ks) (e0 : A T = m T) (e2 : A (m T 2) = m (m T 2)) (e3 : A (m T 3) = m (m T 3)) (e5 : A (m T 5) = m (m T 5)) (e7 : A (m T 7) = m (m T 7)) : T_l A T Ks := by
  unfold T_l at h ⊢
  rw [e0, e2, e3, e5, e7]
  exact h
/-- an image was written: all else is as it was -/
def im_F (m A : cw_M) (c : Int) : Prop := (∀ z, z ≠ -1 → z ≠ -2 → z ≠ x_ → z ≠ x_images_ → (z < c * 1048576 ∨ ((c + 9) * 1048576 ≤ z ∧ z < m (-1) 0 * 1048576)) → A z = m z) ∧ (A x_ 16 = 0 ∧ ∀ j, j ≠ 16 → A x_ j = m x_ j) ∧ 124 ≤ c
theorem im_x {m A : cw_M} {c c0 c1 x : Int} (hF : im_F m A c) (hc : ∀ x, j_x (m (-1) 0) c0 c1 x → x < c * 1048576 ∨ ((c + 9) * 1048576 ≤ x ∧ x < m (-1) 0 * 1048576)) (h : j_x (m (-1) 0) c0 c1 x) : A x = m x := by
  have q := h.1.1
  unfold h_c at q
  have xx : x_ < 130023424 ∧ x_images_ < 130023424 := by decide
  exact hF.1 x (by omega) (by omega) (by omega) (by omega) (hc x h)
theorem im_t {m A : cw_M} {c c0 c1 T : Int} {Ks : List p_K} (hF : im_F m A c) (hc : ∀ x, j_x (m (-1) 0) c0 c1 x → x < c * 1048576 ∨ ((c + 9) * 1048576 ≤ x ∧ x < m (-1) 0 * 1048576)) (h : j_t m c0 c1 T) (hT : T_l m T Ks) : T_l A T Ks := T_lf hT (im_x hF hc h.1) (im_x hF hc h.2.1) (im_x hF hc h.2.2.1) (im_x hF hc h.2.2.2.1) (im_x hF hc h.2.2.2.2)
theorem W_qt {nm lv jd td lw fc : Int} {ow kd mk tr hd of mu la : Int → Int} {m A : cw_M} {K : Int → Int} (h : W_q nm lv jd td lw fc ow kd mk tr hd of mu la m K) (hT : ∀ i, 0 ≤ i → i < K 49 → T_l m (la i) (l_ks K i) → T_l A (la i) (l_ks K i)) : W_q nm lv jd td lw fc ow kd mk tr hd of mu la A K := by
  obtain ⟨h1, h2, h3, h4, h5, h6, h7, h8, h9, ha, hb, hc, hd⟩ := h
  exact ⟨h1, h2, h3, h4, h5, h6, h7, h8, h9, ha, hb, hc, fun i a b => hT i a b (hd i a b)⟩
theorem im_l {m A : cw_M} {c z : Int} (hF : im_F m A c) (h0 : 0 < z ∧ z < 130023424) (h1 : z ≠ x_) (h2 : z ≠ x_images_) : A z = m z := hF.1 z (by omega) (by omega) h1 h2 (Or.inl (by have := hF.2.2; omega))
theorem im_W {m A : cw_M} {c c0 c1 : Int} {K : Int → Int} (hF : im_F m A c) (hc : ∀ x, j_x (m (-1) 0) c0 c1 x → x < c * 1048576 ∨ ((c + 9) * 1048576 ≤ x ∧ x < m (-1) 0 * 1048576)) (ht : ∀ i, 0 ≤ i → i < K 49 → j_t m c0 c1 (m x_will_lawAt_ i)) (hW : W_r m K) : W_r A K := by
  have l := fun z a b c => im_l (z := z) hF a b c
  unfold W_r at hW ⊢
  rw [l x_will_ (by decide) (by decide) (by decide), l x_will_owner_ (by decide) (by decide) (by decide), l x_will_kinds_ (by decide) (by decide) (by decide), l x_will_marks_ (by decide) (by decide) (by decide), l x_will_terms_ (by decide) (by decide) (by decide), l x_will_held_ (by decide) (by decide) (by decide), l x_will_toldOf_ (by decide) (by decide) (by decide), l x_will_toldMuch_ (by decide) (by decide) (by decide), l x_will_lawAt_ (by decide) (by decide) (by decide)]
  exact W_qt hW (fun i a b h => im_t hF hc (ht i a b) h)
theorem im_Z {m A : cw_M} {c c0 c1 : Int} {K : Int → Int} (hF : im_F m A c) (hc : ∀ x, j_x (m (-1) 0) c0 c1 x → x < c * 1048576 ∨ ((c + 9) * 1048576 ≤ x ∧ x < m (-1) 0 * 1048576)) (ht : ∀ i, 0 ≤ i → i < K 49 → j_t m c0 c1 (m x_will_lawAt_ i)) (hZ : Z_c m K) : Z_c A K := by
  have l := fun z a b c => im_l (z := z) hF a b c
  refine ⟨S_ce hZ.1 (l _ (by decide) (by decide) (by decide)) (l _ (by decide) (by decide) (by decide)) (l _ (by decide) (by decide) (by decide)) (l _ (by decide) (by decide) (by decide)) (hF.2.1.2 18 (by decide)), fun i q => ?_, ?_, fun q => ?_⟩
  · rw [l x_ledger_paper_sums_words_ (by decide) (by decide) (by decide), l x_paper_sums_words_ (by decide) (by decide) (by decide)]; exact hZ.2.1 i q
  · rw [hF.2.1.2 19 (by decide)]; exact hZ.2.2.1
  · rw [hF.2.1.2 19 (by decide)] at q
    have hL := hZ.2.2.2 q
    unfold L_c at hL ⊢
    rw [l x_ledger_paper_ (by decide) (by decide) (by decide), l x_ledger_paper_sums_words_ (by decide) (by decide) (by decide), l x_ledger_isKnown_ (by decide) (by decide) (by decide), l x_ledger_got_ (by decide) (by decide) (by decide), l x_will_lawAt_ (by decide) (by decide) (by decide)]
    refine ⟨hL.1, ?_, hL.2.2⟩
    rcases hL.2.1 with z | z
    · exact Or.inl z
    · refine Or.inr ?_
      rcases hL.1.2 with y | ⟨i, hi, y⟩
      · exfalso
        have := z.1.1
        rw [y] at this
        exact absurd this (by decide)
      · exact im_t hF hc (by rw [y]; exact ht i hi.1 hi.2) z
theorem im_jx {N N' c c0 c1 d0 d1 x : Int} (hN : N ≤ N') (hc : ∀ x, j_x N c0 c1 x → x < c * 1048576 ∨ ((c + 9) * 1048576 ≤ x ∧ x < N * 1048576)) (hd : (d0 = c ∧ d1 = c1) ∨ (d0 = c0 ∧ d1 = c)) (h : j_x N c0 c1 x) : j_x N' d0 d1 x := by
  have q := hc x h
  have a : ¬ (c ≤ cw_ce x ∧ cw_ce x ≤ c + 8) := by unfold cw_ce; omega
  refine ⟨⟨h.1.1, by have := h.1.2; omega⟩, ?_, ?_⟩
  · rcases hd with ⟨e, f⟩ | ⟨e, f⟩
    · rw [e]; exact a
    · rw [e]; exact h.2.1
  · rcases hd with ⟨e, f⟩ | ⟨e, f⟩
    · rw [f]; exact h.2.2
    · rw [f]; exact a
theorem im_jt {m A : cw_M} {c c0 c1 d0 d1 T : Int} (hF : im_F m A c) (hN : m (-1) 0 ≤ A (-1) 0) (hc : ∀ x, j_x (m (-1) 0) c0 c1 x → x < c * 1048576 ∨ ((c + 9) * 1048576 ≤ x ∧ x < m (-1) 0 * 1048576)) (hd : (d0 = c ∧ d1 = c1) ∨ (d0 = c0 ∧ d1 = c)) (h : j_t m c0 c1 T) : j_t A d0 d1 T := by
  unfold j_t
  rw [im_x hF hc h.1]
  exact ⟨im_jx hN hc hd h.1, im_jx hN hc hd h.2.1, im_jx hN hc hd h.2.2.1, im_jx hN hc hd h.2.2.2.1, im_jx hN hc hd h.2.2.2.2⟩
/-- the other image -/
theorem im_o {m A : cw_M} {c c0 c1 d0 d1 c' J has : Int} {K K' : Int → Int} (hF : im_F m A c) (hN : m (-1) 0 ≤ A (-1) 0) (hc : ∀ x, j_x (m (-1) 0) c0 c1 x → x < c * 1048576 ∨ ((c + 9) * 1048576 ≤ x ∧ x < m (-1) 0 * 1048576)) (hd : (d0 = c ∧ d1 = c1) ∨ (d0 = c0 ∧ d1 = c)) (hcc : c' = -100 ∨ c' + 8 < c ∨ c + 8 < c') (hq : K_q K K') (h : j_i m c0 c1 c' J has K) : j_i A d0 d1 c' J has K' := by
  rcases h with h | ⟨h1, h2, h3, h4, h5, h6, h7⟩
  · exact Or.inl h
  · have xx : x_ < 130023424 ∧ x_images_ < 130023424 := by decide
    have w := h3
    unfold j_w at w
    have rg : ∀ b n t, 0 ≤ b → b ≤ 8 → (0 ≤ n ∧ n < 16384) → (0 ≤ t ∧ t < 64) → A (j_cd (c' + b) n t) = m (j_cd (c' + b) n t) := fun b n t a1 a2 a3 a4 => by
      have r := cd_r (c := c' + b) a3 a4
      exact hF.1 _ (by omega) (by omega) (by omega) (by omega) (by omega)
    have eJ : A J = m J := by
      have z := rg 0 14 9 (by decide) (by decide) (by decide) (by decide)
      rw [Int.add_zero, ← w.1] at z
      exact z
    have e1 : A (m J 1) = m (m J 1) := by rw [w.2.1]; exact rg 1 7 40 (by decide) (by decide) (by decide) (by decide)
    have e2 : A (m J 2) = m (m J 2) := by rw [w.2.2.1]; exact rg 2 6 40 (by decide) (by decide) (by decide) (by decide)
    have e3 : A (m J 3) = m (m J 3) := by rw [w.2.2.2.1]; exact rg 3 6 40 (by decide) (by decide) (by decide) (by decide)
    have e5 : A (m J 5) = m (m J 5) := by rw [w.2.2.2.2.1]; exact rg 4 4 40 (by decide) (by decide) (by decide) (by decide)
    have e7 : A (m J 7) = m (m J 7) := by rw [w.2.2.2.2.2.1]; exact rg 5 5 40 (by decide) (by decide) (by decide) (by decide)
    have e9 : A (m J 9) = m (m J 9) := by rw [w.2.2.2.2.2.2.1]; exact rg 6 6 40 (by decide) (by decide) (by decide) (by decide)
    have e10 : A (m J 10) = m (m J 10) := by rw [w.2.2.2.2.2.2.2.1]; exact rg 7 6 40 (by decide) (by decide) (by decide) (by decide)
    have e12 : A (m J 12) = m (m J 12) := by rw [w.2.2.2.2.2.2.2.2]; exact rg 8 6 44 (by decide) (by decide) (by decide) (by decide)
    have q49 : K' 49 = K 49 := (hq 49 (by decide) (by decide) (by decide)).symm
    refine Or.inr ⟨⟨h1.1, by omega⟩, h2, by unfold j_w; rw [eJ]; exact h3, ?_, K_rq h5 hq, fun i x y => ?_, by rw [eJ, e12]; exact h7⟩
    · unfold j_q at h4 ⊢
      rw [eJ, e1, e2, e3, e5, e7, e9, e10, e12]
      exact W_qq (W_qt h4 (fun i a b h => im_t hF hc (h6 i a b) h)) h5 hq
    · rw [eJ, e12]
      rw [q49] at y
      exact im_jt hF hN hc hd (h6 i x y)
theorem cf_okJ {Y X : cw_M} {J c : Int} (hY : la_ok Y) (hc : 124 ≤ c) (hw : j_w Y J c) (hZ : cf_Z Y J x_will_ (cf_J c) cf_W X) : la_ok X := by
  have jr := j_Jr hw
  refine cf_ok hY hZ (fun k hk => ⟨?_, ?_⟩) (fun e he q => ?_) (by omega)
  · have b := (cf_jr hc hk).2.2
    split at b <;> omega
  · have b := (cf_jr hc hk).1
    omega
  · exfalso
    have l := (la_lok e he).2.2.1
    unfold cw_ce at l
    rw [q] at l
    omega
theorem C_image36 {d : Nat} {Y : cw_M} {Q : Option cw_V → cw_M → Prop} {J c k : Int} (hY : la_ok Y) (hk : 0 ≤ k ∧ k < 2) (hJ : Y x_images_ k = J) (hc : 124 ≤ c) (hw : j_w Y J c) (hv : ∀ i, 0 ≤ i → i < 6 → Y (cf_W 12) i = 0 ∨ cw_tg (Y (cf_W 12) i) = 8) (hQ : ∀ X, cf_Z Y J x_will_ (cf_J c) cf_W X → Q (some (vi 0)) (cw_put X x_ 16 0)) : cw_R (d + 1) k_C_image 36 [vr x_, vi k] [] Y Q := by
  refine la_go_R hY 9 [46] ?_
  refine And.intro (show 0 ≤ k ∧ k < 2 by omega) ?_
  show cw_R _ _ 46 [vr x_, vi k] [vr x_will_, vr (Y x_images_ k)] (Y) _
  refine cw_go_R 1 [49] ?_
  rw [hJ]
  refine And.intro (j_Jr hw).1 ?_
  show cw_C _ _ [vr J, vr x_will_] Y _
  refine Wi_copyFrom (cf_hJ hY hc hw) hv (fun X hZ => ?_)
  have okX := cf_okJ hY hc hw hZ
  show cw_R _ _ 49 [vr x_, vi k] [] X _
  refine la_go_R okX 7 [] ?_
  show cw_C _ _ [vr x_, vi 0] (X) _
  refine C_accept okX ⟨(la_put okX (by decide) (Or.inl rfl)), ?_⟩
  show Q (some (vi 0)) (cw_put X x_ 16 0)
  exact hQ X hZ
theorem C_image {d : Nat} {m : cw_M} {Q : Option cw_V → cw_M → Prop} {k c : Int} (hm : la_ok m) (hr : c_fb m) (hv : ∀ i, 0 ≤ i → i < 6 → m (cf_W 12) i = 0 ∨ cw_tg (m (cf_W 12) i) = 8) (hN : (124 ≤ m (-1) 0 ∧ m (-1) 0 ≤ 500000) ∧ 0 ≤ m (-1) 1 ∧ m (-1) 1 ≤ 6000000) (hh : (0 ≤ k ∧ k < 2) → m x_images_ k ≠ 0 → 124 ≤ c ∧ j_w m (m x_images_ k) c) (h1 : ¬ (0 ≤ k ∧ k < 2) → Q (some (vi (-1))) (cr_m m (-1) 0)) (hokA : (0 ≤ k ∧ k < 2) → m x_images_ k ≠ 0 → ∀ X, cf_Z m (m x_images_ k) x_will_ (cf_J c) cf_W X → Q (some (vi 0)) (cw_put X x_ 16 0)) (hokB : (0 ≤ k ∧ k < 2) → m x_images_ k = 0 → ∀ Z X, j_w Z (j_cd (m (-1) 0) 14 9) (m (-1) 0) → Z (-1) 0 = m (-1) 0 + 9 → Z (-1) 1 = m (-1) 1 + 60 → (∀ z, z ≠ -1 → z ≠ -2 → z < m (-1) 0 * 1048576 → Z z = m z) → la_ok Z → cf_Z (cw_put Z x_images_ k (j_cd (m (-1) 0) 14 9)) (j_cd (m (-1) 0) 14 9) x_will_ (cf_J (m (-1) 0)) cf_W X → Q (some (vi 0)) (cw_put X x_ 16 0)) : cw_C (d + 2) k_C_image [vr x_, vi k] m Q := by
  refine la_go_C hm 15 [28, 36] ?_
  show cw_C _ _ [vi k, vi 2] (m) _
  refine C_isBelow (fun (a21 : 0 ≤ k) (a22 : k < 2) => ⟨hm, ?_⟩) (fun (a23 : ¬ (0 ≤ k ∧ k < 2)) => ⟨hm, ?_⟩)
  · refine br_t (show (1 : Int) ≠ 0 by decide) ?_
    refine And.intro (show 0 ≤ k ∧ k < 2 by omega) ?_
    refine And.intro (fun (c24 : m x_images_ k ≠ 0) => ?_) (fun (c24 : ¬ (m x_images_ k ≠ 0)) => ?_)
    · show cw_R _ _ 36 [vr x_, vi k] [] (m) _
      exact C_image36 hm (by omega) rfl (hh (by omega) (by omega)).1 (hh (by omega) (by omega)).2 hv (fun X hZ => hokA (by omega) (by omega) X hZ)
    · show cw_R _ _ 28 [vr x_, vi k] [vi k, vr x_images_] (m) _
      refine cw_go_R 3 [35] ?_
      refine And.intro ⟨by unfold cw_LC; omega, by unfold cw_LS; omega⟩ ?_
      refine And.intro (cd_r (c := m (-1) 0) (n := 14) (t := 9) (by decide) (by decide)).2.2.1 ?_
      show cw_C _ _ [vr (j_cd (m (-1) 0) 14 9)] (cw_new m 9 14) _
      have nN := new_N (m := m) (t := 9) (n := 14) (by omega) (by decide) (by decide)
      refine Wi_init (c := m (-1) 0) (s := m (-1) 1 + 14) rfl (by omega) nN.1 nN.2 (by omega) (fun Z hw hN1 hs1 hfr => ?_)
      have r9 := cd_r (c := m (-1) 0) (n := 14) (t := 9) (by decide) (by decide)
      have fr : ∀ z, z ≠ -1 → z ≠ -2 → z < m (-1) 0 * 1048576 → Z z = m z := fun z a b e => by rw [hfr z a b e, new_ne a b (by rw [nc_cd]; omega)]
      have okZ : la_ok Z := ⟨by omega, fun e he => by
        have l := la_lok e he
        have l2 := l.2.2.1
        unfold cw_ce at l2
        rw [fr e.1 (by omega) (by omega) (by omega)]
        exact hm.2 e he⟩
      show cw_R _ _ 35 [vr x_, vi k] [vr (j_cd (m (-1) 0) 14 9), vi k, vr x_images_] Z _
      refine cw_go_R 1 [36] ?_
      refine And.intro ⟨⟨Or.inr ⟨by decide, Or.inr r9.2.2.1⟩, by unfold cw_own; decide⟩, by omega, by show k < 2; omega⟩ ?_
      show cw_R _ _ 36 [vr x_, vi k] [] (cw_put Z x_images_ k (j_cd (m (-1) 0) 14 9)) _
      have xx : x_images_ < 130023424 ∧ x_will_lawAt_ < 130023424 ∧ -1 < x_will_lawAt_ := by decide
      refine C_image36 (c := m (-1) 0) (la_put okZ (by decide) (Or.inr (by decide))) (by omega) cw_put_eq (by omega) ?_ ?_ (fun X hZ => hokB (by omega) (by omega) Z X hw (by omega) (by omega) fr okZ hZ)
      · unfold j_w at hw ⊢
        rw [cw_put_ne (by omega)]
        exact hw
      · intro i a b
        show cw_put Z x_images_ k _ x_will_lawAt_ i = 0 ∨ cw_tg (cw_put Z x_images_ k _ x_will_lawAt_ i) = 8
        rw [cw_put_ne (by decide), fr x_will_lawAt_ (by omega) (by omega) (by omega)]
        exact hv i a b
  · refine br_f (show ¬ ((0 : Int) ≠ 0) by decide) ?_
    show cw_C _ _ [vr x_, vi (-1)] (m) _
    refine C_refuse1 hm (hr 0 (by decide) (by decide)) ⟨(cr_ok hm), ?_⟩
    show Q (some (vi (-1))) (cr_m m (-1) 0)
    exact h1 (by omega)
