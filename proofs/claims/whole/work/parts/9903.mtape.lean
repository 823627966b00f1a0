/-! Marks, turns, deaths, years, images, the tape, by the reference (wip/whole/tools/m103.py). -/
def im_m (m : cw_M) (f : Int → Int) : cw_M := cw_row m m_images_ f
theorem im_ok {m : cw_M} {f : Int → Int} (hm : la_ok m) : la_ok (im_m m f) := la_row hm (by decide) (by decide)
theorem im_p {m : cw_M} {f : Int → Int} {i v : Int} : cw_put (im_m m f) m_images_ i v = im_m m (cw_up f i v) := cw_row_put
theorem im_self {m : cw_M} : im_m m (m m_images_) = m := cw_row_self
def tp_m (m : cw_M) (f : Int → Int) : cw_M := cw_row m m_tape_ f
theorem tp_ok {m : cw_M} {f : Int → Int} (hm : la_ok m) : la_ok (tp_m m f) := la_row hm (by decide) (by decide)
theorem tp_p {m : cw_M} {f : Int → Int} {i v : Int} : cw_put (tp_m m f) m_tape_ i v = tp_m m (cw_up f i v) := cw_row_put
theorem tp_self {m : cw_M} : tp_m m (m m_tape_) = m := cw_row_self
theorem kr_self {m : cw_M} : kr_m m (m m_kept_) = m := cw_row_self
/-- the five numbers of a feed, and its bytes -/
def f_5 (a b c d e k : Int) : Int := if k = 0 then a else if k = 1 then b else if k = 2 then c else if k = 3 then d else e
def f_20 (a b c d e k : Int) : Int := cw_ishr (f_5 a b c d e (k / 4)) (24 - 8 * (k % 4))
def f_5m (m : cw_M) (a b c d e : Int) : cw_M := cw_put (cw_put (cw_put (cw_put (cw_put m m_five_ 0 a) m_five_ 1 b) m_five_ 2 c) m_five_ 3 d) m_five_ 4 e
theorem f_5ok {m : cw_M} {a b c d e : Int} (hm : la_ok m) : la_ok (f_5m m a b c d e) := la_put (la_put (la_put (la_put (la_put hm (by decide) (Or.inr (by decide))) (by decide) (Or.inr (by decide))) (by decide) (Or.inr (by decide))) (by decide) (Or.inr (by decide))) (by decide) (Or.inr (by decide))
theorem f_5v {m : cw_M} {a b c d e k : Int} (hk : 0 ≤ k ∧ k < 5) : f_5m m a b c d e m_five_ k = f_5 a b c d e k := by
  have h : k = 0 ∨ k = 1 ∨ k = 2 ∨ k = 3 ∨ k = 4 := by omega
  rcases h with h | h | h | h | h <;> subst h <;> rfl
/-- a row of the tape: the names that come, and the blots -/
noncomputable def r_w (b : Int → Int) (n : Int) : Nat → Int → (Int → Int) → Int → Int → (Int → Int) × Int × Int
  | 0, _, K, c, l => (K, c, l)
  | f + 1, at_, K, c, l => if at_ + 3 ≤ n then (@ite _ (K 46 < 7 ∧ c_be K (b at_) (b (at_ + 1)) (b (at_ + 2))) (Classical.propDecidable _) (r_w b n f (at_ + 3) (k_add K (b at_) (b (at_ + 1)) (b (at_ + 2))) (c + 1) l) (r_w b n f (at_ + 3) K c (l + 1))) else (K, c, l)
theorem M_goodOr1 {d : Nat} {m : cw_M} {Q : Option cw_V → cw_M → Prop} (hm : la_ok m) {v : Int} (hv : 0 ≤ v) (h : Q (some (vi v)) (gd_m m)) : cw_C (d + 1) k_M_goodOr [vr m_, vi v] m Q := by
  refine la_go_C hm 9 [] ?_
  refine br_t (show 0 ≤ v by omega) ?_
  show cw_C _ _ [vr m_, vi v] (m) _
  refine M_good hm ⟨(gd_ok hm), ?_⟩
  show Q (some (vi v)) (gd_m m)
  exact h
theorem M_goodOr0 {d : Nat} {m : cw_M} {Q : Option cw_V → cw_M → Prop} (hm : la_ok m) (hr : r_fb m) {v : Int} (hv : v < 0 ∧ -6 ≤ v) (h : Q (some (vi v)) (rf_m m v)) : cw_C (d + 1) k_M_goodOr [vr m_, vi v] m Q := by
  refine la_go_C hm 10 [] ?_
  refine br_f (show ¬ (0 ≤ v) by omega) ?_
  show cw_C _ _ [vr m_, vi v] (m) _
  refine M_refuses hm (by omega) (hr _ (by omega) (by omega)) ⟨(rf_ok hm), ?_⟩
  show Q (some (vi v)) (rf_m m v)
  exact h
theorem M_mark {d : Nat} {m : cw_M} {Q : Option cw_V → cw_M → Prop} (hm : la_ok m) (hc : ∀ j, 0 ≤ j → j < 7 → m m_catalan_ j = t_c j) (hn : 0 ≤ m m_kept_ 46 ∧ m m_kept_ 46 ≤ 7) (hr : r_fb m) (hun : 0 ≤ m m_ 44 ∧ m m_ 44 ≤ 16) {j x : Int} (h1 : mk_c (m m_kept_) j x = 0 → ∀ M, la_ok M → S_f (kr_m (kp_m m 0) (cw_up (m m_kept_) j x)) M → Q (some (vi ((R_K (cw_up (m m_kept_) j x)).length : Int))) (gd_m M)) (h0 : mk_c (m m_kept_) j x < 0 → Q (some (vi (mk_c (m m_kept_) j x))) (rf_m m (mk_c (m m_kept_) j x))) : cw_C (d + 11) k_M_mark [vr m_, vi j, vi x] m Q := by
  refine la_go_C hm 10 [] ?_
  show cw_C _ _ [vr m_, vi j, vi x] (m) _
  refine M_marksKept hm hc hn hun (fun (e1 : mk_c (m m_kept_) j x = 0) (M : cw_M) (hM : la_ok M) (hS : S_f (kr_m (kp_m m 0) (cw_up (m m_kept_) j x)) M) => ⟨hM, ?_⟩) (fun (e0 : mk_c (m m_kept_) j x < 0) => ⟨hm, ?_⟩)
  · show cw_C _ _ [vr m_, vi ((R_K (cw_up (m m_kept_) j x)).length : Int)] (M) _
    refine M_goodOr1 hM (by omega) ⟨(gd_ok hM), ?_⟩
    show Q (some (vi ((R_K (cw_up (m m_kept_) j x)).length : Int))) (gd_m M)
    exact h1 e1 M hM hS
  · show cw_C _ _ [vr m_, vi (mk_c (m m_kept_) j x)] (m) _
    refine M_goodOr0 hm hr (by have := mk_cr (K := m m_kept_) (j := j) (x := x); omega) ⟨(rf_ok hm), ?_⟩
    show Q (some (vi (mk_c (m m_kept_) j x))) (rf_m m (mk_c (m m_kept_) j x))
    exact h0 e0
theorem M_turn {d : Nat} {m : cw_M} {Q : Option cw_V → cw_M → Prop} (hm : la_ok m) (hn : 0 ≤ m m_kept_ 46 ∧ m m_kept_ 46 ≤ 7) (hr : r_fb m) (hun : 0 ≤ m m_ 44 ∧ m m_ 44 ≤ 16) (hkd : ∀ i, 0 ≤ i → i < 6 → 0 ≤ m m_kept_ (6 + i) ∧ m m_kept_ (6 + i) ≤ 2) {j x : Int} (h1 : tn_c (m m_kept_) j x = 0 → Q (some (vi (m m_kept_ (6 + j)))) (gd_m (kr_m (kp_m m 1) (cw_up (m m_kept_) (6 + j) x)))) (h0 : tn_c (m m_kept_) j x < 0 → Q (some (vi (tn_c (m m_kept_) j x))) (rf_m m (tn_c (m m_kept_) j x))) : cw_C (d + 4) k_M_turn [vr m_, vi j, vi x] m Q := by
  refine la_go_C hm 10 [] ?_
  show cw_C _ _ [vr m_, vi j, vi x] (m) _
  refine M_turnsKept hm hn hun (fun (e1 : tn_c (m m_kept_) j x = 0) => ⟨(kr_ok (kp_ok hm)), ?_⟩) (fun (e0 : tn_c (m m_kept_) j x < 0) => ⟨hm, ?_⟩)
  · show cw_C _ _ [vr m_, vi (m m_kept_ (6 + j))] (kr_m (kp_m m 1) (cw_up (m m_kept_) (6 + j) x)) _
    refine M_goodOr1 (kr_ok (kp_ok hm)) (by have z := e1; unfold tn_c at z; by_cases q : 0 ≤ j ∧ j < m m_kept_ 46 - 1; exact (hkd j q.1 (by omega)).1; exfalso; revert z; (repeat' split) <;> omega) ⟨(gd_ok (kr_ok (kp_ok hm))), ?_⟩
    show Q (some (vi (m m_kept_ (6 + j)))) (gd_m (kr_m (kp_m m 1) (cw_up (m m_kept_) (6 + j) x)))
    exact h1 e1
  · show cw_C _ _ [vr m_, vi (tn_c (m m_kept_) j x)] (m) _
    refine M_goodOr0 hm hr (by have := tn_cr (K := m m_kept_) (j := j) (x := x); omega) ⟨(rf_ok hm), ?_⟩
    show Q (some (vi (tn_c (m m_kept_) j x))) (rf_m m (tn_c (m m_kept_) j x))
    exact h0 e0
theorem l_vnr {K : Int → Int} (h : ∀ p, 0 ≤ p → p < 6 → K (12 + p) = 0 ∨ K (12 + p) = 1) : 0 ≤ l_vn K ∧ l_vn K ≤ 6 := by
  have h0 : K 12 = 0 ∨ K 12 = 1 := h 0 (by decide) (by decide)
  have h1 : K 13 = 0 ∨ K 13 = 1 := h 1 (by decide) (by decide)
  have h2 : K 14 = 0 ∨ K 14 = 1 := h 2 (by decide) (by decide)
  have h3 : K 15 = 0 ∨ K 15 = 1 := h 3 (by decide) (by decide)
  have h4 : K 16 = 0 ∨ K 16 = 1 := h 4 (by decide) (by decide)
  have h5 : K 17 = 0 ∨ K 17 = 1 := h 5 (by decide) (by decide)
  unfold l_vn
  omega
theorem l_vnu {K : Int → Int} {p v : Int} (h : ∀ p, 0 ≤ p → p < 6 → K (12 + p) = 0 ∨ K (12 + p) = 1) (hv : v = 0 ∨ v = 1) : 0 ≤ l_vn (cw_up K (12 + p) v) ∧ l_vn (cw_up K (12 + p) v) ≤ 6 := l_vnr (fun q a b => by
  by_cases e : 12 + q = 12 + p
  · rw [e, cw_up_eq]; exact hv
  · rw [cw_up_ne e]; exact h q a b)
theorem M_die {d : Nat} {m : cw_M} {Q : Option cw_V → cw_M → Prop} (hm : la_ok m) (hr : r_fb m) (hun : 0 ≤ m m_ 44 ∧ m m_ 44 ≤ 16) (hlv : ∀ p, 0 ≤ p → p < 6 → m m_kept_ (12 + p) = 0 ∨ m m_kept_ (12 + p) = 1) {p : Int} (h1 : di_c (m m_kept_) p = 0 → Q (some (vi (l_vn (cw_up (m m_kept_) (12 + p) 0)))) (gd_m (kr_m (kp_m m 2) (cw_up (m m_kept_) (12 + p) 0)))) (h0 : di_c (m m_kept_) p < 0 → Q (some (vi (di_c (m m_kept_) p))) (rf_m m (di_c (m m_kept_) p))) : cw_C (d + 3) k_M_die [vr m_, vi p] m Q := by
  refine la_go_C hm 9 [] ?_
  show cw_C _ _ [vr m_, vi p] (m) _
  refine M_diesKept hm hun hlv (fun (e1 : di_c (m m_kept_) p = 0) => ⟨(kr_ok (kp_ok hm)), ?_⟩) (fun (e0 : di_c (m m_kept_) p < 0) => ⟨hm, ?_⟩)
  · show cw_C _ _ [vr m_, vi (l_vn (cw_up (m m_kept_) (12 + p) 0))] (kr_m (kp_m m 2) (cw_up (m m_kept_) (12 + p) 0)) _
    refine M_goodOr1 (kr_ok (kp_ok hm)) (by exact (l_vnu hlv (Or.inl rfl)).1) ⟨(gd_ok (kr_ok (kp_ok hm))), ?_⟩
    show Q (some (vi (l_vn (cw_up (m m_kept_) (12 + p) 0)))) (gd_m (kr_m (kp_m m 2) (cw_up (m m_kept_) (12 + p) 0)))
    exact h1 e1
  · show cw_C _ _ [vr m_, vi (di_c (m m_kept_) p)] (m) _
    refine M_goodOr0 hm hr (by have := di_cr (K := m m_kept_) (p := p); omega) ⟨(rf_ok hm), ?_⟩
    show Q (some (vi (di_c (m m_kept_) p))) (rf_m m (di_c (m m_kept_) p))
    exact h0 e0
theorem M_pass {d : Nat} {m : cw_M} {Q : Option cw_V → cw_M → Prop} (hm : la_ok m) (hr : r_fb m) (hun : 0 ≤ m m_ 44 ∧ m m_ 44 ≤ 16) (hy : 0 ≤ m m_kept_ 18 ∧ m m_kept_ 18 ≤ 999) (h1 : pa_c (m m_kept_) = 0 → Q (some (vi (m m_kept_ 18 + 1))) (gd_m (kr_m (kp_m m 3) (cw_up (m m_kept_) 18 (m m_kept_ 18 + 1))))) (h0 : pa_c (m m_kept_) < 0 → Q (some (vi (pa_c (m m_kept_)))) (rf_m m (pa_c (m m_kept_)))) : cw_C (d + 2) k_M_pass [vr m_] m Q := by
  refine la_go_C hm 8 [] ?_
  show cw_C _ _ [vr m_] (m) _
  refine M_passesKept hm hun hy (fun (e1 : pa_c (m m_kept_) = 0) => ⟨(kr_ok (kp_ok hm)), ?_⟩) (fun (e0 : pa_c (m m_kept_)  < 0) => ⟨hm, ?_⟩)
  · show cw_C _ _ [vr m_, vi (m m_kept_ 18 + 1)] (kr_m (kp_m m 3) (cw_up (m m_kept_) 18 (m m_kept_ 18 + 1))) _
    refine M_goodOr1 (kr_ok (kp_ok hm)) (by omega) ⟨(gd_ok (kr_ok (kp_ok hm))), ?_⟩
    show Q (some (vi (m m_kept_ 18 + 1))) (gd_m (kr_m (kp_m m 3) (cw_up (m m_kept_) 18 (m m_kept_ 18 + 1))))
    exact h1 e1
  · show cw_C _ _ [vr m_, vi (pa_c (m m_kept_))] (m) _
    refine M_goodOr0 hm hr (by have := pa_cr (K := m m_kept_) ; omega) ⟨(rf_ok hm), ?_⟩
    show Q (some (vi (pa_c (m m_kept_)))) (rf_m m (pa_c (m m_kept_)))
    exact h0 e0
theorem M_undo {d : Nat} {m : cw_M} {Q : Option cw_V → cw_M → Prop} (hm : la_ok m) (hr : r_fb m) (hun : 0 ≤ m m_ 44 ∧ m m_ 44 ≤ 16) (h1 : 0 < m m_ 44 → Q (some (vi (m m_left0_ (20 * (m m_ 44 - 1) + 19)))) (gd_m (kr_m (cw_put m m_ 44 (m m_ 44 - 1)) (t_w (m m_kept_) 0 0 19 (fun x => m m_left0_ (20 * (m m_ 44 - 1) + x)))))) (h0 : m m_ 44 = 0 → Q (some (vi (-3))) (rf_m m (-3))) : cw_C (d + 1) k_M_undo [vr m_] m Q := by
  have lp : 0 < m m_ 44 → ∀ (r : Nat) (k : Int), 19 < k + r → (0 ≤ k ∧ k ≤ 19) → cw_R (d + 1) k_M_undo 34 [vr m_, vi (20 * (m m_ 44 - 1)), vi k] [] (kr_m (cw_put m m_ 44 (m m_ 44 - 1)) (t_w (m m_kept_) 0 0 k (fun x => m m_left0_ (20 * (m m_ 44 - 1) + x)))) Q := by
    intro hu r
    induction r with
    | zero =>
      intro k hr hk
      omega
    | succ r ih =>
      intro k hr hk
      have hm2 : la_ok (kr_m (cw_put m m_ 44 (m m_ 44 - 1)) (t_w (m m_kept_) 0 0 k (fun x => m m_left0_ (20 * (m m_ 44 - 1) + x)))) := kr_ok (la_put hm (by decide) (Or.inl rfl))
      refine la_go_R hm2 18 [34] ?_
      refine And.intro (fun (c21 : 19 ≤ k) => ?_) (fun (c21 : ¬ (19 ≤ k)) => ?_)
      · refine And.intro (show -2147483648 ≤ (20 * (m m_ 44 - 1)) + 19 ∧ (20 * (m m_ 44 - 1)) + 19 < 2147483648 by omega) ?_
        refine And.intro (show 0 ≤ (20 * (m m_ 44 - 1)) + 19 ∧ (20 * (m m_ 44 - 1)) + 19 < 320 by omega) ?_
        show cw_C _ _ [vr m_, vi (m m_left0_ ((20 * (m m_ 44 - 1)) + 19))] (kr_m (cw_put m m_ 44 (m m_ 44 - 1)) (t_w (m m_kept_) 0 0 k (fun x => m m_left0_ (20 * (m m_ 44 - 1) + x)))) _
        refine M_good hm2 ⟨(gd_ok hm2), ?_⟩
        show Q (some (vi (m m_left0_ ((20 * (m m_ 44 - 1)) + 19)))) (gd_m (kr_m (cw_put m m_ 44 (m m_ 44 - 1)) (t_w (m m_kept_) 0 0 k (fun x => m m_left0_ (20 * (m m_ 44 - 1) + x)))))
        rw [show k = 19 by omega]
        exact h1 (by omega)
      · refine And.intro (show -2147483648 ≤ (20 * (m m_ 44 - 1)) + k ∧ (20 * (m m_ 44 - 1)) + k < 2147483648 by omega) ?_
        refine And.intro (show 0 ≤ (20 * (m m_ 44 - 1)) + k ∧ (20 * (m m_ 44 - 1)) + k < 320 by omega) ?_
        refine And.intro (show 0 ≤ k ∧ k < 5658 by omega) ?_
        have hm22 : la_ok (cw_put (kr_m (cw_put m m_ 44 (m m_ 44 - 1)) (t_w (m m_kept_) 0 0 k (fun x => m m_left0_ (20 * (m m_ 44 - 1) + x)))) m_kept_ k (m m_left0_ ((20 * (m m_ 44 - 1)) + k))) := la_put hm2 (by decide) (Or.inr (by decide))
        refine And.intro (show -2147483648 ≤ k + 1 ∧ k + 1 < 2147483648 by omega) ?_
        show cw_R _ _ 34 [vr m_, vi (20 * (m m_ 44 - 1)), vi (k + 1)] [] (cw_put (kr_m (cw_put m m_ 44 (m m_ 44 - 1)) (t_w (m m_kept_) 0 0 k (fun x => m m_left0_ (20 * (m m_ 44 - 1) + x)))) m_kept_ k (m m_left0_ ((20 * (m m_ 44 - 1)) + k))) _
        rw [kr_p2, t_w0s (g := fun x => m m_left0_ (20 * (m m_ 44 - 1) + x)) hk.1]
        exact ih (k + 1) (by omega) (by omega)
  refine la_go_C hm 19 [34] ?_
  refine And.intro (fun (c21 : m m_ 44 ≠ 0) => ?_) (fun (c21 : ¬ (m m_ 44 ≠ 0)) => ?_)
  · refine And.intro (show -2147483648 ≤ (m m_ 44) - 1 ∧ (m m_ 44) - 1 < 2147483648 by omega) ?_
    have hm22 : la_ok (cw_put m m_ 44 ((m m_ 44) - 1)) := la_put hm (by decide) (Or.inl rfl)
    refine And.intro (show -2147483648 ≤ 20 * ((m m_ 44) - 1) ∧ 20 * ((m m_ 44) - 1) < 2147483648 by omega) ?_
    show cw_R _ _ 34 [vr m_, vi (20 * ((m m_ 44) - 1)), vi 0] [] (cw_put m m_ 44 ((m m_ 44) - 1)) _
    refine la_go_R0 (m' := kr_m (cw_put m m_ 44 (m m_ 44 - 1)) (t_w (m m_kept_) 0 0 0 (fun x => m m_left0_ (20 * (m m_ 44 - 1) + x)))) (by rw [t_w0]; exact kr_self.symm) ?_
    exact lp (by omega) 20 0 (by omega) (by omega)
  · show cw_C _ _ [vr m_, vi (-3)] (m) _
    refine M_refuses hm (by omega) (hr _ (by omega) (by omega)) ⟨(rf_ok hm), ?_⟩
    show Q (some (vi (-3))) (rf_m m (-3))
    exact h0 (by omega)
theorem M_image {d : Nat} {m : cw_M} {Q : Option cw_V → cw_M → Prop} (hm : la_ok m) (hr : r_fb m) {q : Int} (h1 : 0 ≤ q ∧ q ≤ 1 → Q (some (vi 0)) (gd_m (cw_put (im_m m (t_w (m m_images_) (5658 * q) 0 5658 (m m_kept_))) m_hasImage_ q 1))) (h0 : ¬ (0 ≤ q ∧ q ≤ 1) → Q (some (vi (-1))) (rf_m m (-1))) : cw_C (d + 1) k_M_image [vr m_, vi q] m Q := by
  have lp : 0 ≤ q ∧ q ≤ 1 → ∀ (r : Nat) (k : Int), 5658 < k + r → (0 ≤ k ∧ k ≤ 5658) → cw_R (d + 1) k_M_image 17 [vr m_, vi q, vi k] [] (im_m m (t_w (m m_images_) (5658 * q) 0 k (m m_kept_))) Q := by
    intro hq r
    induction r with
    | zero =>
      intro k hr hk
      omega
    | succ r ih =>
      intro k hr hk
      have hm2 : la_ok (im_m m (t_w (m m_images_) (5658 * q) 0 k (m m_kept_))) := im_ok hm
      refine la_go_R hm2 20 [17] ?_
      refine And.intro (fun (c21 : 5658 ≤ k) => ?_) (fun (c21 : ¬ (5658 ≤ k)) => ?_)
      · refine And.intro ⟨Or.inr rfl, show 0 ≤ q ∧ q < 2 by omega⟩ ?_
        have hm22 : la_ok (cw_put (im_m m (t_w (m m_images_) (5658 * q) 0 k (m m_kept_))) m_hasImage_ q 1) := la_put hm2 (by decide) (Or.inr (by decide))
        show cw_C _ _ [vr m_, vi 0] (cw_put (im_m m (t_w (m m_images_) (5658 * q) 0 k (m m_kept_))) m_hasImage_ q 1) _
        refine M_good hm22 ⟨(gd_ok hm22), ?_⟩
        show Q (some (vi 0)) (gd_m (cw_put (im_m m (t_w (m m_images_) (5658 * q) 0 k (m m_kept_))) m_hasImage_ q 1))
        rw [show k = 5658 by omega]
        exact h1 hq
      · refine And.intro (show -2147483648 ≤ 5658 * q ∧ 5658 * q < 2147483648 by omega) ?_
        refine And.intro (show -2147483648 ≤ (5658 * q) + k ∧ (5658 * q) + k < 2147483648 by omega) ?_
        refine And.intro (show 0 ≤ k ∧ k < 5658 by omega) ?_
        refine And.intro (show 0 ≤ (5658 * q) + k ∧ (5658 * q) + k < 11316 by omega) ?_
        have hm23 : la_ok (cw_put (im_m m (t_w (m m_images_) (5658 * q) 0 k (m m_kept_))) m_images_ ((5658 * q) + k) (m m_kept_ k)) := la_put hm2 (by decide) (Or.inr (by decide))
        refine And.intro (show -2147483648 ≤ k + 1 ∧ k + 1 < 2147483648 by omega) ?_
        show cw_R _ _ 17 [vr m_, vi q, vi (k + 1)] [] (cw_put (im_m m (t_w (m m_images_) (5658 * q) 0 k (m m_kept_))) m_images_ ((5658 * q) + k) (m m_kept_ k)) _
        rw [im_p, t_w_s hk.1]
        exact ih (k + 1) (by omega) (by omega)
  refine la_go_C hm 12 [17] ?_
  show cw_C _ _ [vi q, vi 0, vi 1] (m) _
  refine M_lies (fun (k0 : 0 ≤ q) (k1 : q ≤ 1) => ⟨hm, ?_⟩) (fun (k0 : ¬ (0 ≤ q ∧ q ≤ 1)) => ⟨hm, ?_⟩)
  · refine br_t (show (1 : Int) ≠ 0 by decide) ?_
    show cw_R _ _ 17 [vr m_, vi q, vi 0] [] (m) _
    refine la_go_R0 (m' := im_m m (t_w (m m_images_) (5658 * q) 0 0 (m m_kept_))) (by rw [t_w0]; exact im_self.symm) ?_
    exact lp ⟨k0, k1⟩ 5659 0 (by omega) (by omega)
  · refine br_f (show ¬ ((0 : Int) ≠ 0) by decide) ?_
    show cw_C _ _ [vr m_, vi (-1)] (m) _
    refine M_refuses hm (by omega) (hr _ (by omega) (by omega)) ⟨(rf_ok hm), ?_⟩
    show Q (some (vi (-1))) (rf_m m (-1))
    exact h0 k0
theorem M_back {d : Nat} {m : cw_M} {Q : Option cw_V → cw_M → Prop} (hm : la_ok m) (hr : r_fb m) {q : Int} (h1 : 0 ≤ q ∧ q ≤ 1 → m m_hasImage_ q ≠ 0 → Q (some (vi 0)) (sd_m (kr_m m (t_w (m m_kept_) 0 0 5658 (fun x => m m_images_ (5658 * q + x)))))) (h2 : 0 ≤ q ∧ q ≤ 1 → m m_hasImage_ q = 0 → Q (some (vi (-2))) (rf_m m (-2))) (h0 : ¬ (0 ≤ q ∧ q ≤ 1) → Q (some (vi (-1))) (rf_m m (-1))) : cw_C (d + 2) k_M_back [vr m_, vi q] m Q := by
  have lp : 0 ≤ q ∧ q ≤ 1 → m m_hasImage_ q ≠ 0 → ∀ (r : Nat) (k : Int), 5658 < k + r → (0 ≤ k ∧ k ≤ 5658) → cw_R (d + 2) k_M_back 33 [vr m_, vi q, vi k] [] (kr_m m (t_w (m m_kept_) 0 0 k (fun x => m m_images_ (5658 * q + x)))) Q := by
    intro hq hi r
    induction r with
    | zero =>
      intro k hr hk
      omega
    | succ r ih =>
      intro k hr hk
      have hm2 : la_ok (kr_m m (t_w (m m_kept_) 0 0 k (fun x => m m_images_ (5658 * q + x)))) := kr_ok hm
      refine la_go_R hm2 20 [33] ?_
      refine And.intro (fun (c21 : 5658 ≤ k) => ?_) (fun (c21 : ¬ (5658 ≤ k)) => ?_)
      · show cw_C _ _ [vr m_, vi 0] (kr_m m (t_w (m m_kept_) 0 0 k (fun x => m m_images_ (5658 * q + x)))) _
        refine M_settled hm2 ⟨(sd_ok hm2), ?_⟩
        show Q (some (vi 0)) (sd_m (kr_m m (t_w (m m_kept_) 0 0 k (fun x => m m_images_ (5658 * q + x)))))
        rw [show k = 5658 by omega]
        exact h1 hq hi
      · refine And.intro (show -2147483648 ≤ 5658 * q ∧ 5658 * q < 2147483648 by omega) ?_
        refine And.intro (show -2147483648 ≤ (5658 * q) + k ∧ (5658 * q) + k < 2147483648 by omega) ?_
        refine And.intro (show 0 ≤ (5658 * q) + k ∧ (5658 * q) + k < 11316 by omega) ?_
        refine And.intro (show 0 ≤ k ∧ k < 5658 by omega) ?_
        have hm22 : la_ok (cw_put (kr_m m (t_w (m m_kept_) 0 0 k (fun x => m m_images_ (5658 * q + x)))) m_kept_ k (m m_images_ ((5658 * q) + k))) := la_put hm2 (by decide) (Or.inr (by decide))
        refine And.intro (show -2147483648 ≤ k + 1 ∧ k + 1 < 2147483648 by omega) ?_
        show cw_R _ _ 33 [vr m_, vi q, vi (k + 1)] [] (cw_put (kr_m m (t_w (m m_kept_) 0 0 k (fun x => m m_images_ (5658 * q + x)))) m_kept_ k (m m_images_ ((5658 * q) + k))) _
        rw [kr_p2, t_w0s (g := fun x => m m_images_ (5658 * q + x)) hk.1]
        exact ih (k + 1) (by omega) (by omega)
  refine la_go_C hm 17 [33] ?_
  show cw_C _ _ [vi q, vi 0, vi 1] (m) _
  refine M_lies (fun (k0 : 0 ≤ q) (k1 : q ≤ 1) => ⟨hm, ?_⟩) (fun (k0 : ¬ (0 ≤ q ∧ q ≤ 1)) => ⟨hm, ?_⟩)
  · refine br_t (show (1 : Int) ≠ 0 by decide) ?_
    refine And.intro (show 0 ≤ q ∧ q < 2 by omega) ?_
    refine And.intro (fun (c21 : m m_hasImage_ q ≠ 0) => ?_) (fun (c21 : ¬ (m m_hasImage_ q ≠ 0)) => ?_)
    · show cw_R _ _ 33 [vr m_, vi q, vi 0] [] (m) _
      refine la_go_R0 (m' := kr_m m (t_w (m m_kept_) 0 0 0 (fun x => m m_images_ (5658 * q + x)))) (by rw [t_w0]; exact kr_self.symm) ?_
      exact lp ⟨k0, k1⟩ (by omega) 5659 0 (by omega) (by omega)
    · show cw_C _ _ [vr m_, vi (-2)] (m) _
      refine M_refuses hm (by omega) (hr _ (by omega) (by omega)) ⟨(rf_ok hm), ?_⟩
      show Q (some (vi (-2))) (rf_m m (-2))
      first | exact h2 ⟨k0, k1⟩ (by omega) | exact h0 k0
  · refine br_f (show ¬ ((0 : Int) ≠ 0) by decide) ?_
    show cw_C _ _ [vr m_, vi (-1)] (m) _
    refine M_refuses hm (by omega) (hr _ (by omega) (by omega)) ⟨(rf_ok hm), ?_⟩
    show Q (some (vi (-1))) (rf_m m (-1))
    first | exact h2 ⟨k0, k1⟩ (by omega) | exact h0 k0
theorem M_feed {d : Nat} {m : cw_M} {Q : Option cw_V → cw_M → Prop} (hm : la_ok m) (hl0 : 0 ≤ m m_ 13 ∧ m m_ 13 ≤ 400) {a b c e f : Int} (h1 : m m_ 13 + 20 ≤ 400 → Q (some (vi (m m_ 13 + 20))) (cw_put (tp_m (f_5m m a b c e f) (t_w (m m_tape_) (m m_ 13) 0 20 (fun k => cw_i2b (f_20 a b c e f k)))) m_ 13 (m m_ 13 + 20))) (h0 : ¬ (m m_ 13 + 20 ≤ 400) → Q (some (vi (-1))) m) : cw_C d k_M_feed [vr m_, vi a, vi b, vi c, vi e, vi f] m Q := by
  have lp : m m_ 13 + 20 ≤ 400 → ∀ (r : Nat) (k : Int), 20 < k + r → (0 ≤ k ∧ k ≤ 20) → cw_R (d) k_M_feed 55 [vr m_, vi a, vi b, vi c, vi e, vi f, vi k] [] (tp_m (f_5m m a b c e f) (t_w (m m_tape_) (m m_ 13) 0 k (fun k => cw_i2b (f_20 a b c e f k)))) Q := by
    intro hl r
    induction r with
    | zero =>
      intro k hr hk
      omega
    | succ r ih =>
      intro k hr hk
      have hm2 : la_ok (tp_m (f_5m m a b c e f) (t_w (m m_tape_) (m m_ 13) 0 k (fun k => cw_i2b (f_20 a b c e f k)))) := tp_ok (f_5ok hm)
      refine la_go_R hm2 30 [55] ?_
      refine And.intro (fun (c21 : 20 ≤ k) => ?_) (fun (c21 : ¬ (20 ≤ k)) => ?_)
      · refine And.intro (show -2147483648 ≤ (m m_ 13) + 20 ∧ (m m_ 13) + 20 < 2147483648 by omega) ?_
        have hm22 : la_ok (cw_put (tp_m (f_5m m a b c e f) (t_w (m m_tape_) (m m_ 13) 0 k (fun k => cw_i2b (f_20 a b c e f k)))) m_ 13 ((m m_ 13) + 20)) := la_put hm2 (by decide) (Or.inl rfl)
        show Q (some (vi ((m m_ 13) + 20))) (cw_put (tp_m (f_5m m a b c e f) (t_w (m m_tape_) (m m_ 13) 0 k (fun k => cw_i2b (f_20 a b c e f k)))) m_ 13 ((m m_ 13) + 20))
        rw [show k = 20 by omega]
        exact h1 (by omega)
      · refine And.intro (show -2147483648 ≤ (m m_ 13) + k ∧ (m m_ 13) + k < 2147483648 by omega) ?_
        refine And.intro (show 0 ≤ k ∧ k < 2147483648 ∧ 0 < 4 by omega) ?_
        refine And.intro (show 0 ≤ k / 4 ∧ k / 4 < 5 by omega) ?_
        refine And.intro (show 0 ≤ k ∧ 0 < 4 by omega) ?_
        refine And.intro (show -2147483648 ≤ 8 * (k % 4) ∧ 8 * (k % 4) < 2147483648 by omega) ?_
        refine And.intro (show -2147483648 ≤ 24 - (8 * (k % 4)) ∧ 24 - (8 * (k % 4)) < 2147483648 by omega) ?_
        refine And.intro ⟨(show -128 ≤ cw_i2b (cw_ishr ((f_5m m a b c e f) m_five_ (k / 4)) (24 - (8 * (k % 4)))) ∧ cw_i2b (cw_ishr ((f_5m m a b c e f) m_five_ (k / 4)) (24 - (8 * (k % 4)))) < 128 by unfold cw_i2b; omega), show 0 ≤ (m m_ 13) + k ∧ (m m_ 13) + k < 400 by omega⟩ ?_
        have hm23 : la_ok (cw_put (tp_m (f_5m m a b c e f) (t_w (m m_tape_) (m m_ 13) 0 k (fun k => cw_i2b (f_20 a b c e f k)))) m_tape_ ((m m_ 13) + k) (cw_i2b (cw_ishr ((f_5m m a b c e f) m_five_ (k / 4)) (24 - (8 * (k % 4)))))) := la_put hm2 (by decide) (Or.inr (by decide))
        refine And.intro (show -2147483648 ≤ k + 1 ∧ k + 1 < 2147483648 by omega) ?_
        show cw_R _ _ 55 [vr m_, vi a, vi b, vi c, vi e, vi f, vi (k + 1)] [] (cw_put (tp_m (f_5m m a b c e f) (t_w (m m_tape_) (m m_ 13) 0 k (fun k => cw_i2b (f_20 a b c e f k)))) m_tape_ ((m m_ 13) + k) (cw_i2b (cw_ishr ((f_5m m a b c e f) m_five_ (k / 4)) (24 - (8 * (k % 4)))))) _
        have e5 := f_5v (m := m) (a := a) (b := b) (c := c) (d := e) (e := f) (k := k / 4) (by omega)
        rw [e5]
        rw [show cw_ishr (f_5 a b c e f (k / 4)) (24 - 8 * (k % 4)) = f_20 a b c e f k from rfl]
        rw [tp_p, t_w_s (g := fun k => cw_i2b (f_20 a b c e f k)) hk.1]
        exact ih (k + 1) (by omega) (by omega)
  refine la_go_C hm 36 [55] ?_
  refine And.intro (show -2147483648 ≤ (m m_ 13) + 20 ∧ (m m_ 13) + 20 < 2147483648 by omega) ?_
  refine And.intro (fun (c21 : (m m_ 13) + 20 ≤ 400) => ?_) (fun (c21 : ¬ ((m m_ 13) + 20 ≤ 400)) => ?_)
  · refine And.intro (show 0 ≤ 0 ∧ 0 < 5 by omega) ?_
    have hm22 : la_ok (cw_put m m_five_ 0 a) := la_put hm (by decide) (Or.inr (by decide))
    refine And.intro (show 0 ≤ 1 ∧ 1 < 5 by omega) ?_
    have hm23 : la_ok (cw_put (cw_put m m_five_ 0 a) m_five_ 1 b) := la_put hm22 (by decide) (Or.inr (by decide))
    refine And.intro (show 0 ≤ 2 ∧ 2 < 5 by omega) ?_
    have hm24 : la_ok (cw_put (cw_put (cw_put m m_five_ 0 a) m_five_ 1 b) m_five_ 2 c) := la_put hm23 (by decide) (Or.inr (by decide))
    refine And.intro (show 0 ≤ 3 ∧ 3 < 5 by omega) ?_
    have hm25 : la_ok (cw_put (cw_put (cw_put (cw_put m m_five_ 0 a) m_five_ 1 b) m_five_ 2 c) m_five_ 3 e) := la_put hm24 (by decide) (Or.inr (by decide))
    refine And.intro (show 0 ≤ 4 ∧ 4 < 5 by omega) ?_
    have hm26 : la_ok (cw_put (cw_put (cw_put (cw_put (cw_put m m_five_ 0 a) m_five_ 1 b) m_five_ 2 c) m_five_ 3 e) m_five_ 4 f) := la_put hm25 (by decide) (Or.inr (by decide))
    show cw_R _ _ 55 [vr m_, vi a, vi b, vi c, vi e, vi f, vi 0] [] (cw_put (cw_put (cw_put (cw_put (cw_put m m_five_ 0 a) m_five_ 1 b) m_five_ 2 c) m_five_ 3 e) m_five_ 4 f) _
    refine la_go_R0 (m' := tp_m (f_5m m a b c e f) (t_w (m m_tape_) (m m_ 13) 0 0 (fun k => cw_i2b (f_20 a b c e f k)))) (by rw [t_w0]; exact tp_self.symm) ?_
    exact lp (by omega) 21 0 (by omega) (by omega)
  · show Q (some (vi (-1))) (m)
    exact h0 (by omega)
