def n_m (m : cw_M) (mk bm : Int → Int) : cw_M := fun c => if c = m_marks_ then mk else if c = m_bestMarks_ then bm else m c
theorem n_m_ne {m : cw_M} {mk bm : Int → Int} {c : Int} (h0 : c ≠ m_marks_) (h1 : c ≠ m_bestMarks_) : n_m m mk bm c = m c := by
  unfold n_m; rw [if_neg h0, if_neg h1]
theorem n_m_mk {m : cw_M} {mk bm : Int → Int} : n_m m mk bm m_marks_ = mk := rfl
theorem n_m_bm {m : cw_M} {mk bm : Int → Int} : n_m m mk bm m_bestMarks_ = bm := rfl
theorem n_m_ok {m : cw_M} {mk bm : Int → Int} (hm : la_ok m) : la_ok (n_m m mk bm) := by
  refine ⟨by rw [n_m_ne (by decide) (by decide)]; exact hm.1, fun e he => ?_⟩
  obtain ⟨z1, h2, -, z4⟩ := la_lok e he
  have n0 : e.1 ≠ m_marks_ := fun q => by rw [q] at h2; revert h2; decide
  have n1 : e.1 ≠ m_bestMarks_ := fun q => by rw [q] at h2; revert h2; decide
  rw [n_m_ne n0 n1 ]; exact hm.2 e he
theorem n_m_x {m M : cw_M} {mk bm : Int → Int} (r0 : M m_marks_ = mk) (r1 : M m_bestMarks_ = bm)   (h : ∀ c, c ≠ m_marks_ → c ≠ m_bestMarks_ → M c = m c) : M = n_m m mk bm := by
  funext c
  by_cases h0 : c = m_marks_
  · rw [h0, r0]; rfl
  by_cases h1 : c = m_bestMarks_
  · rw [h1, r1]; rfl
  rw [h c h0 h1, n_m_ne h0 h1]
theorem n_m_rmk {m : cw_M} {mk bm : Int → Int} {f : Int → Int} : cw_row (n_m m mk bm) m_marks_ f = n_m m f bm := by
  refine n_m_x rfl rfl  (fun c h0 h1 => by rw [cw_row_ne h0, n_m_ne h0 h1])
theorem n_m_pmk {m : cw_M} {mk bm : Int → Int} {i v : Int} : cw_put (n_m m mk bm) m_marks_ i v = n_m m (cw_up mk i v) bm := by
  rw [cw_put_row, n_m_rmk, n_m_mk]
theorem n_m_rbm {m : cw_M} {mk bm : Int → Int} {f : Int → Int} : cw_row (n_m m mk bm) m_bestMarks_ f = n_m m mk f := by
  refine n_m_x rfl rfl  (fun c h0 h1 => by rw [cw_row_ne h1, n_m_ne h0 h1])
theorem n_m_pbm {m : cw_M} {mk bm : Int → Int} {i v : Int} : cw_put (n_m m mk bm) m_bestMarks_ i v = n_m m mk (cw_up bm i v) := by
  rw [cw_put_row, n_m_rbm, n_m_bm]
theorem n_m_2 {m : cw_M} {mk bm : Int → Int} {mk' bm' : Int → Int} : n_m (n_m m mk bm) mk' bm' = n_m m mk' bm' := by
  refine n_m_x rfl rfl  (fun c h0 h1 => by rw [n_m_ne h0 h1, n_m_ne h0 h1])
theorem n_m_self {m : cw_M} : n_m m (m m_marks_) (m m_bestMarks_)  = m := by
  refine (n_m_x rfl rfl  (fun _ _ _ => rfl)).symm
/-! To settle, by the reference (wip/whole/tools/m100.py). -/
/-- a memory in which marks can be tried -/
def N_h (K : Int → Int) (t0 : Int) (M : cw_M) : Prop := la_ok M ∧ M m_kept_ = K ∧ K_r K ∧ 1 ≤ K 46 ∧ M m_ 32 = t_tm (K 46) ∧ t_L (K 46 - 1) (t_tm (K 46)) (M m_low_) (M m_high_) ∧ ∀ t, 0 ≤ t → t < t_tm (K 46) → (M m_givesSo_ t = 0 ∨ M m_givesSo_ t = 1) ∧ (M m_givesSo_ t = 1 ↔ ∀ p, 0 ≤ p → p < 6 → G_K K t p = G_K K t0 p)
def S_u (K mk : Int → Int) (j su : Int) : Prop := ((∀ i, 0 ≤ i → i < j → K i ≤ mk i) ∧ su = e_sm mk K j.toNat) ∨ ((∃ i, (0 ≤ i ∧ i < j) ∧ mk i < K i) ∧ su = 1000000)
theorem e_smr {mk K : Int → Int} : ∀ n : Nat, n ≤ 6 → (∀ j : Int, 0 ≤ j → j < 6 → 0 ≤ K j ∧ K j ≤ 3) → (∀ j : Int, 0 ≤ j → j < n → K j ≤ mk j ∧ mk j ≤ 3) → 0 ≤ e_sm mk K n ∧ e_sm mk K n ≤ 3 * n
  | 0, _, _, _ => ⟨Int.le_refl 0, Int.le_refl 0⟩
  | n + 1, h6, hK, h => by
    have a := e_smr n (by omega) hK (fun j x y => h j x (by omega))
    have b := h n (by omega) (by omega)
    have c := hK n (by omega) (by omega)
    show 0 ≤ e_sm mk K n + (mk n - K n) ∧ e_sm mk K n + (mk n - K n) ≤ _
    omega
theorem e_sm1 {mk K : Int → Int} {j : Int} (hj : 0 ≤ j) : e_sm mk K (j + 1).toNat = e_sm mk K j.toNat + (mk j - K j) := by
  rw [show (j + 1).toNat = j.toNat + 1 by omega]
  show e_sm mk K j.toNat + (mk ((j.toNat : Nat) : Int) - K ((j.toNat : Nat) : Int)) = _
  rw [show ((j.toNat : Nat) : Int) = j by omega]
theorem M_laysMarks {d : Nat} {K : Int → Int} {M : cw_M} {Q : Option cw_V → cw_M → Prop} {t0 N : Int} (hN : N_h K t0 M) (hNr : 0 ≤ N ∧ N < 4096) {mk bm : Int → Int} (hQ : ∀ mk su, (∀ i, 0 ≤ i → i < (K 46 - 1) → mk i = dg_ (K 46 - 1) N i) → S_u K mk (K 46 - 1) su → Q (some (vi su)) (n_m M mk bm)) : cw_C (d + 2) k_M_laysMarks [vr m_, vi N] (n_m M mk bm) Q := by
  have ek := hN.2.1
  have kr := hN.2.2.1
  have kn := hN.2.2.2.1
  have k7 := kr.1
  have e46 : M m_kept_ 46 = K 46 := by rw [ek]
  have lp : ∀ (r : Nat) (j : Int) (mk : Int → Int) (su : Int), (K 46 - 1) < j + r → (0 ≤ j ∧ j ≤ (K 46 - 1)) → (∀ i, 0 ≤ i → i < j → mk i = dg_ (K 46 - 1) N i) → (S_u K mk j su) → cw_R (d + 2) k_M_laysMarks 4 [vr m_, vi N, vi su, vi j] [] (n_m M mk bm) Q := by
    intro r
    induction r with
    | zero =>
      intro j mk su hr hj hd hs
      omega
    | succ r ih =>
      intro j mk su hr hj hd hs
      have hm2 : la_ok (n_m M mk bm) := n_m_ok hN.1
      have hnn : 0 ≤ M m_kept_ 46 ∧ M m_kept_ 46 ≤ 7 := by omega
      have ekj : M m_kept_ (0 + j) = K j := by rw [ek, show 0 + j = j by omega]
      have kj : j < 6 → 0 ≤ K j ∧ K j ≤ 3 := fun z => kr.2.1 j hj.1 z
      have sb : 0 ≤ su ∧ su ≤ 1000000 := by
        rcases hs with ⟨h1, h2⟩ | ⟨-, h2⟩
        · have sr := e_smr (mk := mk) (K := K) j.toNat (by omega) kr.2.1 (fun i a b => ⟨h1 i a (by omega), by rw [hd i a (by omega)]; exact dg_r.2⟩)
          omega
        · omega
      have evv : j < (K 46 - 1) → cw_iand (cw_ishr N (2 * (max 0 (M m_kept_ 46 - 1) - 1 - j))) 3 = dg_ (K 46 - 1) N j := fun z => by rw [e46, show max 0 (K 46 - 1) = K 46 - 1 by omega]; exact dg_x (by omega) hNr (by omega)
      have dr := dg_r (w := K 46 - 1) (N := N) (j := j)
      refine la_go_R hm2 52 [4] ?_
      show cw_C _ _ [vr m_] (n_m M mk bm) _
      refine M_joinMany hm2 hnn ⟨hm2, ?_⟩
      refine And.intro (fun (c21 : max 0 (M m_kept_ 46 - 1) ≤ j) => ?_) (fun (c21 : ¬ (max 0 (M m_kept_ 46 - 1) ≤ j)) => ?_)
      · show Q (some (vi su)) (n_m M mk bm)
        have ej : j = (K 46 - 1) := by omega
        rw [ej] at hd hs
        exact hQ mk su hd hs
      · show cw_C _ _ [vr m_] (n_m M mk bm) _
        refine M_joinMany hm2 hnn ⟨hm2, ?_⟩
        refine And.intro (show -2147483648 ≤ (max 0 (M m_kept_ 46 - 1)) - 1 ∧ (max 0 (M m_kept_ 46 - 1)) - 1 < 2147483648 by omega) ?_
        refine And.intro (show -2147483648 ≤ ((max 0 (M m_kept_ 46 - 1)) - 1) - j ∧ ((max 0 (M m_kept_ 46 - 1)) - 1) - j < 2147483648 by omega) ?_
        refine And.intro (show -2147483648 ≤ 2 * (((max 0 (M m_kept_ 46 - 1)) - 1) - j) ∧ 2 * (((max 0 (M m_kept_ 46 - 1)) - 1) - j) < 2147483648 by omega) ?_
        refine And.intro (show 0 ≤ j ∧ j < 6 by omega) ?_
        have hm22 : la_ok (cw_put (n_m M mk bm) m_marks_ j (cw_iand (cw_ishr N (2 * (((max 0 (M m_kept_ 46 - 1)) - 1) - j))) 3)) := la_put hm2 (by decide) (Or.inr (by decide))
        refine And.intro (show 0 ≤ j ∧ j < 6 by omega) ?_
        have e23 : (cw_put (n_m M mk bm) m_marks_ j (cw_iand (cw_ishr N (2 * (((max 0 (M m_kept_ 46 - 1)) - 1) - j))) 3)) m_marks_ j = cw_iand (cw_ishr N (2 * (((max 0 (M m_kept_ 46 - 1)) - 1) - j))) 3 := cw_put_eq
        refine And.intro (show -2147483648 ≤ 0 + j ∧ 0 + j < 2147483648 by omega) ?_
        refine And.intro (show 0 ≤ 0 + j ∧ 0 + j < 5658 by omega) ?_
        refine And.intro (fun (c24 : M m_kept_ (0 + j) ≤ (cw_put (n_m M mk bm) m_marks_ j (cw_iand (cw_ishr N (2 * (((max 0 (M m_kept_ 46 - 1)) - 1) - j))) 3)) m_marks_ j) => ?_) (fun (c24 : ¬ (M m_kept_ (0 + j) ≤ (cw_put (n_m M mk bm) m_marks_ j (cw_iand (cw_ishr N (2 * (((max 0 (M m_kept_ 46 - 1)) - 1) - j))) 3)) m_marks_ j)) => ?_)
        · refine And.intro (show 0 ≤ j ∧ j < 6 by omega) ?_
          refine And.intro (show -2147483648 ≤ su + ((cw_put (n_m M mk bm) m_marks_ j (cw_iand (cw_ishr N (2 * (((max 0 (M m_kept_ 46 - 1)) - 1) - j))) 3)) m_marks_ j) ∧ su + ((cw_put (n_m M mk bm) m_marks_ j (cw_iand (cw_ishr N (2 * (((max 0 (M m_kept_ 46 - 1)) - 1) - j))) 3)) m_marks_ j) < 2147483648 by rw [e23]; have := evv (by omega); omega) ?_
          refine And.intro (show -2147483648 ≤ 0 + j ∧ 0 + j < 2147483648 by omega) ?_
          refine And.intro (show 0 ≤ 0 + j ∧ 0 + j < 5658 by omega) ?_
          refine And.intro (show -2147483648 ≤ (su + ((cw_put (n_m M mk bm) m_marks_ j (cw_iand (cw_ishr N (2 * (((max 0 (M m_kept_ 46 - 1)) - 1) - j))) 3)) m_marks_ j)) - (M m_kept_ (0 + j)) ∧ (su + ((cw_put (n_m M mk bm) m_marks_ j (cw_iand (cw_ishr N (2 * (((max 0 (M m_kept_ 46 - 1)) - 1) - j))) 3)) m_marks_ j)) - (M m_kept_ (0 + j)) < 2147483648 by rw [e23]; have := evv (by omega); have := kj (by omega); omega) ?_
          show cw_C _ _ [vi 1000000, vi ((su + ((cw_put (n_m M mk bm) m_marks_ j (cw_iand (cw_ishr N (2 * (((max 0 (M m_kept_ 46 - 1)) - 1) - j))) 3)) m_marks_ j)) - (M m_kept_ (0 + j)))] (cw_put (n_m M mk bm) m_marks_ j (cw_iand (cw_ishr N (2 * (((max 0 (M m_kept_ 46 - 1)) - 1) - j))) 3)) _
          refine M_lesser ⟨hm22, ?_⟩
          refine And.intro (show -2147483648 ≤ j + 1 ∧ j + 1 < 2147483648 by omega) ?_
          show cw_R _ _ 4 [vr m_, vi N, vi (min 1000000 ((su + ((cw_put (n_m M mk bm) m_marks_ j (cw_iand (cw_ishr N (2 * (((max 0 (M m_kept_ 46 - 1)) - 1) - j))) 3)) m_marks_ j)) - (M m_kept_ (0 + j)))), vi (j + 1)] [] (cw_put (n_m M mk bm) m_marks_ j (cw_iand (cw_ishr N (2 * (((max 0 (M m_kept_ 46 - 1)) - 1) - j))) 3)) _
          rw [e23, n_m_pmk]
          have ev : cw_iand (cw_ishr N (2 * (max 0 (M m_kept_ 46 - 1) - 1 - j))) 3 = dg_ (K 46 - 1) N j := by rw [e46, show max 0 (K 46 - 1) = K 46 - 1 by omega]; exact dg_x (by omega) hNr (by omega)
          rw [ev]
          have dr := dg_r (w := K 46 - 1) (N := N) (j := j)
          have hd2 : ∀ i, 0 ≤ i → i < j + 1 → (cw_up mk j (dg_ (K 46 - 1) N j)) i = dg_ (K 46 - 1) N i := fun i a b => by
            by_cases e : i = j
            · rw [e, cw_up_eq]
            · rw [cw_up_ne e]; exact hd i a (by omega)
          have ekj : M m_kept_ (0 + j) = K j := by rw [ek, show 0 + j = j by omega]
          have ge : K j ≤ dg_ (K 46 - 1) N j := by rw [← ev, ← ekj]; omega
          rw [ekj]
          refine ih (j + 1) (cw_up mk j (dg_ (K 46 - 1) N j)) _ (by omega) (by omega) hd2 ?_
          rcases hs with ⟨h1, h2⟩ | ⟨⟨i, i0, i1⟩, h2⟩
          · have e1 : e_sm (cw_up mk j (dg_ (K 46 - 1) N j)) K j.toNat = e_sm mk K j.toNat := e_smc _ (fun i a b => cw_up_ne (by omega))
            refine Or.inl ⟨fun i a b => ?_, ?_⟩
            · by_cases e : i = j
              · rw [e, cw_up_eq]; exact ge
              · rw [cw_up_ne e]; exact h1 i a (by omega)
            · rw [e_sm1 (by omega), e1, cw_up_eq, h2]
              have sr := e_smr (mk := mk) (K := K) j.toNat (by omega) kr.2.1 (fun i a b => ⟨h1 i a (by omega), by rw [hd i a (by omega)]; exact dg_r.2⟩)
              have kj := kr.2.1 j (by omega) (by omega)
              omega
          · refine Or.inr ⟨⟨i, by omega, by rw [cw_up_ne (by omega)]; exact i1⟩, ?_⟩
            have kj := kr.2.1 j (by omega) (by omega)
            omega
        · refine And.intro (show -2147483648 ≤ j + 1 ∧ j + 1 < 2147483648 by omega) ?_
          show cw_R _ _ 4 [vr m_, vi N, vi 1000000, vi (j + 1)] [] (cw_put (n_m M mk bm) m_marks_ j (cw_iand (cw_ishr N (2 * (((max 0 (M m_kept_ 46 - 1)) - 1) - j))) 3)) _
          rw [n_m_pmk]
          have ev : cw_iand (cw_ishr N (2 * (max 0 (M m_kept_ 46 - 1) - 1 - j))) 3 = dg_ (K 46 - 1) N j := by rw [e46, show max 0 (K 46 - 1) = K 46 - 1 by omega]; exact dg_x (by omega) hNr (by omega)
          rw [ev]
          have dr := dg_r (w := K 46 - 1) (N := N) (j := j)
          have hd2 : ∀ i, 0 ≤ i → i < j + 1 → (cw_up mk j (dg_ (K 46 - 1) N j)) i = dg_ (K 46 - 1) N i := fun i a b => by
            by_cases e : i = j
            · rw [e, cw_up_eq]
            · rw [cw_up_ne e]; exact hd i a (by omega)
          have ekj : M m_kept_ (0 + j) = K j := by rw [ek, show 0 + j = j by omega]
          have lt : dg_ (K 46 - 1) N j < K j := by rw [← ev, ← ekj]; omega
          refine ih (j + 1) (cw_up mk j (dg_ (K 46 - 1) N j)) 1000000 (by omega) (by omega) hd2 (Or.inr ⟨⟨j, by omega, ?_⟩, rfl⟩)
          rw [cw_up_eq]; exact lt
  have hm2 : la_ok (n_m M mk bm) := n_m_ok hN.1
  refine la_go_C hm2 7 [4] ?_
  show cw_R _ _ 4 [vr m_, vi N, vi 0, vi 0] [] (n_m M mk bm) _
  exact lp 7 0 mk 0 (by omega) (by omega) (fun i a b => by omega) (Or.inl ⟨fun i a b => by omega, rfl⟩)
theorem M_settles {d : Nat} {K : Int → Int} {M : cw_M} {Q : Option cw_V → cw_M → Prop} {t0 : Int} (hN : N_h K t0 M) {mk bm : Int → Int} (h1 : (∀ t, 0 ≤ t → t < t_tm (K 46) → M m_givesSo_ t = 1 ∨ ¬ t_R mk (K 46 - 1) t) → Q (some (vi 1)) (n_m M mk bm)) (h0 : ¬ (∀ t, 0 ≤ t → t < t_tm (K 46) → M m_givesSo_ t = 1 ∨ ¬ t_R mk (K 46 - 1) t) → Q (some (vi 0)) (n_m M mk bm)) : cw_C (d + 3) k_M_settles [vr m_] (n_m M mk bm) Q := by
  have ek := hN.2.1
  have kr := hN.2.2.1
  have kn := hN.2.2.2.1
  have k7 := kr.1
  have e46 : M m_kept_ 46 = K 46 := by rw [ek]
  have hnn : 0 ≤ M m_kept_ 46 ∧ M m_kept_ 46 ≤ 7 := by omega
  have e32 := hN.2.2.2.2.1
  have tq := t_tmr k7
  have hm2 : la_ok (n_m M mk bm) := n_m_ok hN.1
  have lp : ∀ (r : Nat) (k v : Int), t_tm (K 46) < k + r → (0 ≤ k ∧ k ≤ t_tm (K 46)) → ((v = 1 ∧ (∀ t, 0 ≤ t → t < k → M m_givesSo_ t = 1 ∨ ¬ t_R mk (K 46 - 1) t)) ∨ (v = 0 ∧ ∃ t, (0 ≤ t ∧ t < t_tm (K 46)) ∧ ¬ (M m_givesSo_ t = 1 ∨ ¬ t_R mk (K 46 - 1) t))) → cw_R (d + 3) k_M_settles 4 [vr m_, vi v, vi k] [] (n_m M mk bm) Q := by
    intro r
    induction r with
    | zero =>
      intro k v hr hk hv
      omega
    | succ r ih =>
      intro k v hr hk hv
      have gk : k < t_tm (K 46) → M m_givesSo_ k = 0 ∨ M m_givesSo_ k = 1 := fun z => (hN.2.2.2.2.2.2 k hk.1 z).1
      refine la_go_R hm2 23 [4] ?_
      refine And.intro (fun (c21 : M m_ 32 ≤ k) => ?_) (fun (c21 : ¬ (M m_ 32 ≤ k)) => ?_)
      · refine And.intro (show v = 0 ∨ v = 1 by omega) ?_
        show Q (some (vi v)) (n_m M mk bm)
        rcases hv with ⟨v1, hv'⟩ | ⟨v0, t, t0, ht⟩
        · rw [v1]; exact h1 (fun t a b => hv' t a (by omega))
        · rw [v0]; exact h0 (fun z => ht (z t t0.1 t0.2))
      · refine And.intro (fun (c22 : v = 0) => ?_) (fun (c22 : ¬ (v = 0)) => ?_)
        · refine And.intro (show v = 0 ∨ v = 1 by omega) ?_
          show Q (some (vi v)) (n_m M mk bm)
          rcases hv with ⟨v1, hv'⟩ | ⟨v0, t, t0, ht⟩
          · rw [v1]; exact h1 (fun t a b => hv' t a (by omega))
          · rw [v0]; exact h0 (fun z => ht (z t t0.1 t0.2))
        · refine And.intro (show 0 ≤ k ∧ k < 132 by omega) ?_
          refine And.intro (fun (c23 : M m_givesSo_ k ≠ 0) => ?_) (fun (c23 : ¬ (M m_givesSo_ k ≠ 0)) => ?_)
          · refine And.intro (show -2147483648 ≤ k + 1 ∧ k + 1 < 2147483648 by omega) ?_
            show cw_R _ _ 4 [vr m_, vi 1, vi (k + 1)] [] (n_m M mk bm) _
            rcases hv with ⟨v1, hv'⟩ | ⟨v0, t, t0, ht⟩
            · exact ih (k + 1) 1 (by omega) (by omega) (Or.inl ⟨rfl, fun t a b => by
                by_cases e : t = k
                · rw [e]; first | exact Or.inl (by omega) | exact Or.inr rx
                · exact hv' t a (by omega)⟩)
            · omega
          · show cw_C _ _ [vr m_, vi k] (n_m M mk bm) _
            refine M_isReading hm2 hnn (by omega) (by show ∀ j, 0 ≤ j → j < M m_kept_ 46 - 1 → _; rw [e46]; exact t_Lr hN.2.2.2.2.2.1 (by omega) (by omega)) (fun (rx : t_P (M m_low_) (M m_high_) mk (M m_kept_ 46 - 1) k) => ⟨hm2, ?_⟩) (fun (rx : ¬ t_P (M m_low_) (M m_high_) mk (M m_kept_ 46 - 1) k) => ⟨hm2, ?_⟩)
            · rw [e46, t_PR (mk' := mk) (by omega) hN.2.2.2.2.2.1 (fun _ _ _ => rfl) (by omega)] at rx
              refine br_t (show (1 : Int) ≠ 0 by decide) ?_
              refine And.intro (show -2147483648 ≤ k + 1 ∧ k + 1 < 2147483648 by omega) ?_
              show cw_R _ _ 4 [vr m_, vi 0, vi (k + 1)] [] (n_m M mk bm) _
              exact ih (k + 1) 0 (by omega) (by omega) (Or.inr ⟨rfl, k, by omega, fun z => z.elim (fun y => by omega) (fun y => y rx)⟩)
            · rw [e46, t_PR (mk' := mk) (by omega) hN.2.2.2.2.2.1 (fun _ _ _ => rfl) (by omega)] at rx
              refine br_f (show ¬ ((0 : Int) ≠ 0) by decide) ?_
              refine And.intro (show -2147483648 ≤ k + 1 ∧ k + 1 < 2147483648 by omega) ?_
              show cw_R _ _ 4 [vr m_, vi 1, vi (k + 1)] [] (n_m M mk bm) _
              rcases hv with ⟨v1, hv'⟩ | ⟨v0, t, t0, ht⟩
              · exact ih (k + 1) 1 (by omega) (by omega) (Or.inl ⟨rfl, fun t a b => by
                  by_cases e : t = k
                  · rw [e]; first | exact Or.inl (by omega) | exact Or.inr rx
                  · exact hv' t a (by omega)⟩)
              · omega
  refine la_go_C hm2 7 [4] ?_
  show cw_R _ _ 4 [vr m_, vi 1, vi 0] [] (n_m M mk bm) _
  exact lp 133 0 1 (by omega) (by omega) (Or.inl ⟨rfl, fun t a b => by omega⟩)
theorem M_settle137 {d : Nat} {K : Int → Int} {M : cw_M} {Q : Option cw_V → cw_M → Prop} {t0 rd wh le N : Int} (hN : N_h K t0 M) (hNr : 0 ≤ N ∧ N < 4096) {mk bm : Int → Int} {w5 : Int} (fin : ∀ (bm : Int → Int) (w6 : cw_V), (∀ i, 0 ≤ i → i < (K 46 - 1) → bm i = mk i) → cw_R (d + 4) k_M_settle 94 [vr m_, vi rd, vi wh, vi le, vi (N + 1), vi w5, w6] [] (n_m M mk bm) Q) : cw_R (d + 4) k_M_settle 137 [vr m_, vi rd, vi wh, vi le, vi N, vi w5, vi 0] [] (n_m M mk bm) Q := by
  have ek := hN.2.1
  have kr := hN.2.2.1
  have kn := hN.2.2.2.1
  have k7 := kr.1
  have e46 : M m_kept_ 46 = K 46 := by rw [ek]
  have hnn : 0 ≤ M m_kept_ 46 ∧ M m_kept_ 46 ≤ 7 := by omega
  have l137 : ∀ (r : Nat) (j : Int) (bm : Int → Int), (K 46 - 1) < j + r → (0 ≤ j ∧ j ≤ (K 46 - 1)) → (∀ i, 0 ≤ i → i < j → bm i = mk i) → cw_R (d + 4) k_M_settle 137 [vr m_, vi rd, vi wh, vi le, vi N, vi w5, vi j] [] (n_m M mk bm) Q := by
    intro r
    induction r with
    | zero =>
      intro j bm hr hj hb
      omega
    | succ r ih =>
      intro j bm hr hj hb
      have hm0 : la_ok M := hN.1
      have hm2 : la_ok (n_m M mk bm) := n_m_ok hN.1
      refine la_go_R hm2 17 [94, 137] ?_
      show cw_C _ _ [vr m_] (n_m M mk bm) _
      refine M_joinMany hm2 hnn ⟨hm2, ?_⟩
      refine And.intro (fun (c21 : max 0 (M m_kept_ 46 - 1) ≤ j) => ?_) (fun (c21 : ¬ (max 0 (M m_kept_ 46 - 1) ≤ j)) => ?_)
      · refine And.intro (show -2147483648 ≤ N + 1 ∧ N + 1 < 2147483648 by omega) ?_
        show cw_R _ _ 94 [vr m_, vi rd, vi wh, vi le, vi (N + 1), vi w5, vi j] [] (n_m M mk bm) _
        exact fin bm _ (fun i a b => hb i a (by omega))
      · refine And.intro (show 0 ≤ j ∧ j < 6 by omega) ?_
        refine And.intro (show 0 ≤ j ∧ j < 6 by omega) ?_
        have hm22 : la_ok (cw_put (n_m M mk bm) m_bestMarks_ j (mk j)) := la_put hm2 (by decide) (Or.inr (by decide))
        refine And.intro (show -2147483648 ≤ j + 1 ∧ j + 1 < 2147483648 by omega) ?_
        show cw_R _ _ 137 [vr m_, vi rd, vi wh, vi le, vi N, vi w5, vi (j + 1)] [] (cw_put (n_m M mk bm) m_bestMarks_ j (mk j)) _
        rw [n_m_pbm]
        have hm23 : la_ok (n_m M mk (cw_up bm j (mk j))) := n_m_ok hm0
        refine ih (j + 1) _ (by omega) (by omega) (fun i a b => ?_)
        by_cases e : i = j
        · rw [e, cw_up_eq]
        · rw [cw_up_ne e]; exact hb i a (by omega)
  exact l137 7 0 bm (by omega) (by omega) (fun i a b => by omega)
theorem M_settle94 {d : Nat} {K : Int → Int} {M : cw_M} {Q : Option cw_V → cw_M → Prop} {t0 rd wh : Int} (hN : N_h K t0 M) (hwh : 0 ≤ wh ∧ wh ≤ (K 46 - 1)) {mk bm : Int → Int} {w5 w6 : cw_V} (hQ : ∀ r mk bm, ((∃ mk, B_K K t0 mk ∧ ((wh = 0 ∧ r = e_sm mk K (K 46 - 1).toNat) ∨ (1 ≤ wh ∧ r = mk (wh - 1)))) ∨ ((∀ mk, ¬ S_K K t0 mk) ∧ r = -1)) → Q (some (vi r)) (n_m M mk bm)) : cw_R (d + 4) k_M_settle 94 [vr m_, vi rd, vi wh, vi 1000000, vi 0, w5, w6] [] (n_m M mk bm) Q := by
  have ek := hN.2.1
  have kr := hN.2.2.1
  have kn := hN.2.2.2.1
  have k7 := kr.1
  have e46 : M m_kept_ 46 = K 46 := by rw [ek]
  have hnn : 0 ≤ M m_kept_ 46 ∧ M m_kept_ 46 ≤ 7 := by omega
  have l94 : ∀ (r : Nat) (N le : Int) (mk bm : Int → Int) (w5 w6 : cw_V), (4 ^ (K 46 - 1).toNat : Int) < N + r → (0 ≤ N ∧ N ≤ 4 ^ (K 46 - 1).toNat) → (((le = 1000000 ∧ ∀ mk', S_K K t0 mk' → ¬ nu_ mk' (K 46 - 1).toNat < N) ∨ (S_K K t0 bm ∧ le = e_sm bm K (K 46 - 1).toNat ∧ nu_ bm (K 46 - 1).toNat < N ∧ ∀ mk', S_K K t0 mk' → nu_ mk' (K 46 - 1).toNat < N → le < e_sm mk' K (K 46 - 1).toNat ∨ (le = e_sm mk' K (K 46 - 1).toNat ∧ nu_ bm (K 46 - 1).toNat ≤ nu_ mk' (K 46 - 1).toNat)))) → cw_R (d + 4) k_M_settle 94 [vr m_, vi rd, vi wh, vi le, vi N, w5, w6] [] (n_m M mk bm) Q := by
    intro r
    induction r with
    | zero =>
      intro N le mk bm w5 w6 hr hNN hv
      omega
    | succ r ih =>
      intro N le mk bm w5 w6 hr hNN hv
      have hm2 : la_ok (n_m M mk bm) := n_m_ok hN.1
      have sh : cw_ishl 1 (2 * max 0 (M m_kept_ 46 - 1)) = 4 ^ (K 46 - 1).toNat := by rw [e46, show max 0 (K 46 - 1) = K 46 - 1 by omega]; exact (dg_p (by omega)).1
      have p4 := (dg_p (w := (K 46 - 1)) (by omega)).2
      refine la_go_R hm2 25 [94, 137] ?_
      show cw_C _ _ [vr m_] (n_m M mk bm) _
      refine M_joinMany hm2 hnn ⟨hm2, ?_⟩
      refine And.intro (show -2147483648 ≤ 2 * (max 0 (M m_kept_ 46 - 1)) ∧ 2 * (max 0 (M m_kept_ 46 - 1)) < 2147483648 by omega) ?_
      refine And.intro (fun (c21 : cw_ishl 1 (2 * (max 0 (M m_kept_ 46 - 1))) ≤ N) => ?_) (fun (c21 : ¬ (cw_ishl 1 (2 * (max 0 (M m_kept_ 46 - 1))) ≤ N)) => ?_)
      · refine And.intro (fun (c22 : le ≠ 1000000) => ?_) (fun (c22 : ¬ (le ≠ 1000000)) => ?_)
        · refine And.intro (fun (c23 : wh ≠ 0) => ?_) (fun (c23 : ¬ (wh ≠ 0)) => ?_)
          · refine And.intro (show -2147483648 ≤ wh - 1 ∧ wh - 1 < 2147483648 by omega) ?_
            refine And.intro (show 0 ≤ wh - 1 ∧ wh - 1 < 6 by omega) ?_
            show Q (some (vi (bm (wh - 1)))) (n_m M mk bm)
            have fin : ∀ mk', S_K K t0 mk' → nu_ mk' (K 46 - 1).toNat < N := fun mk' s => by have := nu_r (K 46 - 1).toNat (mk := mk') (fun j a b => by have x := s.1 j a (by omega); have y := kr.2.1 j a (by omega); omega); omega
            rcases hv with ⟨v1, v2⟩ | ⟨v1, v2, v3, v4⟩
            · omega
            · exact hQ _ _ _ (Or.inl ⟨bm, ⟨v1, fun mk' s => by rw [← v2]; exact v4 mk' s (fin mk' s)⟩, Or.inr ⟨by omega, rfl⟩⟩)
          · show Q (some (vi le)) (n_m M mk bm)
            have fin : ∀ mk', S_K K t0 mk' → nu_ mk' (K 46 - 1).toNat < N := fun mk' s => by have := nu_r (K 46 - 1).toNat (mk := mk') (fun j a b => by have x := s.1 j a (by omega); have y := kr.2.1 j a (by omega); omega); omega
            rcases hv with ⟨v1, v2⟩ | ⟨v1, v2, v3, v4⟩
            · omega
            · exact hQ _ _ _ (Or.inl ⟨bm, ⟨v1, fun mk' s => by rw [← v2]; exact v4 mk' s (fin mk' s)⟩, Or.inl ⟨by omega, v2⟩⟩)
        · show Q (some (vi (-1))) (n_m M mk bm)
          have fin : ∀ mk', S_K K t0 mk' → nu_ mk' (K 46 - 1).toNat < N := fun mk' s => by have := nu_r (K 46 - 1).toNat (mk := mk') (fun j a b => by have x := s.1 j a (by omega); have y := kr.2.1 j a (by omega); omega); omega
          rcases hv with ⟨v1, v2⟩ | ⟨v1, v2, -, -⟩
          · exact hQ _ _ _ (Or.inr ⟨fun mk' s => v2 mk' s (fin mk' s), rfl⟩)
          · exfalso; have sr := e_smr (mk := bm) (K := K) (K 46 - 1).toNat (by omega) kr.2.1 (fun i a b => v1.1 i a (by omega)); omega
      · show cw_C _ _ [vr m_, vi N] (n_m M mk bm) _
        refine M_laysMarks hN (by omega) (fun (mk2 : Int → Int) (su : Int) (hd : ∀ i, 0 ≤ i → i < (K 46 - 1) → mk2 i = dg_ (K 46 - 1) N i) (hs : S_u K mk2 (K 46 - 1) su) => ⟨(n_m_ok hN.1), ?_⟩)
        have nuN : nu_ mk2 (K 46 - 1).toNat = N := by rw [nu_c (K 46 - 1).toNat (mk' := dg_ (K 46 - 1) N) (fun j a b => hd j a (by omega))]; exact dg_nw (by omega) (by omega)
        have hself : ∀ mk', S_K K t0 mk' → nu_ mk' (K 46 - 1).toNat = N → ∀ j, 0 ≤ j → j < (K 46 - 1) → mk' j = mk2 j := fun mk' s e j a b => nu_i (K 46 - 1).toNat (fun j a b => by have x := s.1 j a (by omega); have y := kr.2.1 j a (by omega); omega) (fun j a b => by rw [hd j a (by omega)]; exact dg_r) (by rw [e, nuN]) j a (by omega)
        have hSu : S_K K t0 mk2 → su = e_sm mk2 K (K 46 - 1).toNat ∧ su ≤ 18 := fun s => by
          have sr := e_smr (mk := mk2) (K := K) (K 46 - 1).toNat (by omega) kr.2.1 (fun i a b => s.1 i a (by omega))
          rcases hs with ⟨-, h2⟩ | ⟨⟨i, i0, i1⟩, -⟩
          · exact ⟨h2, by omega⟩
          · have := (s.1 i i0.1 i0.2).1; omega
        refine And.intro (fun (c24 : le ≤ su) => ?_) (fun (c24 : ¬ (le ≤ su)) => ?_)
        · refine And.intro (show -2147483648 ≤ N + 1 ∧ N + 1 < 2147483648 by omega) ?_
          show cw_R _ _ 94 [vr m_, vi rd, vi wh, vi le, vi (N + 1), vi su, w6] [] (n_m M mk2 bm) _
          refine ih (N + 1) le _ bm _ _ (by omega) (by omega) ?_
          rcases hv with ⟨v1, v2⟩ | ⟨v1, v2, v3, v4⟩
          · refine Or.inl ⟨v1, fun mk' s q => ?_⟩
            by_cases e : nu_ mk' (K 46 - 1).toNat = N
            · have s2 : S_K K t0 mk2 := S_Kc (by omega) (hself mk' s e) s
              have s3 := hSu s2
              first | (exfalso; omega) | exact absurd (fun t a b => (Classical.em (t_R mk2 (K 46 - 1) t)).elim (fun y => Or.inl ((hN.2.2.2.2.2.2 t a b).2.mpr (s2.2 t a b y))) Or.inr) sx
            · exact v2 mk' s (by omega)
          · refine Or.inr ⟨v1, v2, by omega, fun mk' s q => ?_⟩
            by_cases e : nu_ mk' (K 46 - 1).toNat = N
            · have s2 : S_K K t0 mk2 := S_Kc (by omega) (hself mk' s e) s
              have s3 := hSu s2
              have e2 : e_sm mk' K (K 46 - 1).toNat = e_sm mk2 K (K 46 - 1).toNat := e_smc _ (fun j a b => hself mk' s e j a (by omega))
              first | (exfalso; exact absurd (fun t a b => (Classical.em (t_R mk2 (K 46 - 1) t)).elim (fun y => Or.inl ((hN.2.2.2.2.2.2 t a b).2.mpr (s2.2 t a b y))) Or.inr) sx) | omega
            · exact v4 mk' s (by omega)
        · show cw_C _ _ [vr m_] (n_m M mk2 bm) _
          refine M_settles hN (fun (sx : (∀ t, 0 ≤ t → t < t_tm (K 46) → M m_givesSo_ t = 1 ∨ ¬ t_R mk2 (K 46 - 1) t)) => ⟨(n_m_ok hN.1), ?_⟩) (fun (sx : ¬ (∀ t, 0 ≤ t → t < t_tm (K 46) → M m_givesSo_ t = 1 ∨ ¬ t_R mk2 (K 46 - 1) t)) => ⟨(n_m_ok hN.1), ?_⟩)
          · refine br_t (show (1 : Int) ≠ 0 by decide) ?_
            show cw_R _ _ 137 [vr m_, vi rd, vi wh, vi su, vi N, vi su, vi 0] [] (n_m M mk2 bm) _
            have s2 : S_K K t0 mk2 := by
              rcases hs with ⟨h1, h2⟩ | ⟨-, h2⟩
              · refine ⟨fun j a b => ⟨h1 j a b, by rw [hd j a b]; exact dg_r.2⟩, fun t a b c p p0 p1 => ?_⟩
                rcases sx t a b with y | y
                · exact (hN.2.2.2.2.2.2 t a b).2.mp y p p0 p1
                · exact absurd c y
              · exfalso; rcases hv with ⟨v1, -⟩ | ⟨v1, v2, -, -⟩
                · omega
                · have sr := e_smr (mk := bm) (K := K) (K 46 - 1).toNat (by omega) kr.2.1 (fun i a b => v1.1 i a (by omega)); omega
            have s3 := hSu s2
            refine M_settle137 hN (by omega) (fun b2 w6 hb => ih (N + 1) su mk2 b2 _ _ (by omega) (by omega) ?_)
            have eb : e_sm b2 K (K 46 - 1).toNat = e_sm mk2 K (K 46 - 1).toNat := e_smc _ (fun j a b => hb j a (by omega))
            have nb : nu_ b2 (K 46 - 1).toNat = N := by rw [nu_c (K 46 - 1).toNat (mk' := mk2) (fun j a b => hb j a (by omega))]; exact nuN
            refine Or.inr ⟨S_Kc (by omega) (fun j a b => (hb j a b).symm) s2, by rw [eb]; exact s3.1, by omega, fun mk' s q => ?_⟩
            by_cases e : nu_ mk' (K 46 - 1).toNat = N
            · have e2 : e_sm mk' K (K 46 - 1).toNat = e_sm mk2 K (K 46 - 1).toNat := e_smc _ (fun j a b => hself mk' s e j a (by omega))
              omega
            · rcases hv with ⟨v1, v2⟩ | ⟨v1, v2, v3, v4⟩
              · exact absurd (by omega) (v2 mk' s)
              · have := v4 mk' s (by omega); omega
          · refine br_f (show ¬ ((0 : Int) ≠ 0) by decide) ?_
            refine And.intro (show -2147483648 ≤ N + 1 ∧ N + 1 < 2147483648 by omega) ?_
            show cw_R _ _ 94 [vr m_, vi rd, vi wh, vi le, vi (N + 1), vi su, w6] [] (n_m M mk2 bm) _
            refine ih (N + 1) le _ bm _ _ (by omega) (by omega) ?_
            rcases hv with ⟨v1, v2⟩ | ⟨v1, v2, v3, v4⟩
            · refine Or.inl ⟨v1, fun mk' s q => ?_⟩
              by_cases e : nu_ mk' (K 46 - 1).toNat = N
              · have s2 : S_K K t0 mk2 := S_Kc (by omega) (hself mk' s e) s
                have s3 := hSu s2
                first | (exfalso; omega) | exact absurd (fun t a b => (Classical.em (t_R mk2 (K 46 - 1) t)).elim (fun y => Or.inl ((hN.2.2.2.2.2.2 t a b).2.mpr (s2.2 t a b y))) Or.inr) sx
              · exact v2 mk' s (by omega)
            · refine Or.inr ⟨v1, v2, by omega, fun mk' s q => ?_⟩
              by_cases e : nu_ mk' (K 46 - 1).toNat = N
              · have s2 : S_K K t0 mk2 := S_Kc (by omega) (hself mk' s e) s
                have s3 := hSu s2
                have e2 : e_sm mk' K (K 46 - 1).toNat = e_sm mk2 K (K 46 - 1).toNat := e_smc _ (fun j a b => hself mk' s e j a (by omega))
                first | (exfalso; exact absurd (fun t a b => (Classical.em (t_R mk2 (K 46 - 1) t)).elim (fun y => Or.inl ((hN.2.2.2.2.2.2 t a b).2.mpr (s2.2 t a b y))) Or.inr) sx) | omega
              · exact v4 mk' s (by omega)
  exact l94 (4 ^ (K 46 - 1).toNat + 1) 0 1000000 mk bm w5 w6 (by have := (dg_p (w := (K 46 - 1)) (by omega)).2; rw [Int.natCast_add, Int.natCast_pow]; show _ < 0 + ((4 : Int) ^ _ + 1); omega) (by have : (0 : Int) < 4 ^ (K 46 - 1).toNat := Int.pow_pos (by decide); omega) (Or.inl ⟨rfl, fun mk' s q => by have := nu_r (K 46 - 1).toNat (mk := mk') (fun j a b => by have x := s.1 j a (by omega); have y := kr.2.1 j a (by omega); omega); omega⟩)
def o_m (m : cw_M) (gs : Int → Int) : cw_M := fun c => if c = m_givesSo_ then gs else m c
theorem o_m_ne {m : cw_M} {gs : Int → Int} {c : Int} (h0 : c ≠ m_givesSo_) : o_m m gs c = m c := by
  unfold o_m; rw [if_neg h0]
theorem o_m_gs {m : cw_M} {gs : Int → Int} : o_m m gs m_givesSo_ = gs := rfl
theorem o_m_ok {m : cw_M} {gs : Int → Int} (hm : la_ok m) : la_ok (o_m m gs) := by
  refine ⟨by rw [o_m_ne (by decide)]; exact hm.1, fun e he => ?_⟩
  obtain ⟨z1, h2, -, z4⟩ := la_lok e he
  have n0 : e.1 ≠ m_givesSo_ := fun q => by rw [q] at h2; revert h2; decide
  rw [o_m_ne n0 ]; exact hm.2 e he
theorem o_m_x {m M : cw_M} {gs : Int → Int} (r0 : M m_givesSo_ = gs)   (h : ∀ c, c ≠ m_givesSo_ → M c = m c) : M = o_m m gs := by
  funext c
  by_cases h0 : c = m_givesSo_
  · rw [h0, r0]; rfl
  rw [h c h0, o_m_ne h0]
theorem o_m_rgs {m : cw_M} {gs : Int → Int} {f : Int → Int} : cw_row (o_m m gs) m_givesSo_ f = o_m m f := by
  refine o_m_x rfl  (fun c h0 => by rw [cw_row_ne h0, o_m_ne h0])
theorem o_m_pgs {m : cw_M} {gs : Int → Int} {i v : Int} : cw_put (o_m m gs) m_givesSo_ i v = o_m m (cw_up gs i v) := by
  rw [cw_put_row, o_m_rgs, o_m_gs]
theorem o_m_2 {m : cw_M} {gs : Int → Int} {gs' : Int → Int} : o_m (o_m m gs) gs' = o_m m gs' := by
  refine o_m_x rfl  (fun c h0 => by rw [o_m_ne h0, o_m_ne h0])
theorem o_m_self {m : cw_M} : o_m m (m m_givesSo_)  = m := by
  refine (o_m_x rfl  (fun _ _ => rfl)).symm
theorem M_settle57 {d : Nat} {m : cw_M} {Q : Option cw_V → cw_M → Prop} (hK : K_r (m m_kept_)) {rd wh : Int} (a0 : 0 ≤ rd) (a1 : rd < ((R_K (m m_kept_)).length : Int)) (hwh : 0 ≤ wh ∧ wh ≤ m m_kept_ 46 - 1) (h : ∀ r M, la_ok M → S_f m M → s_R (m m_kept_) rd wh r → Q (some (vi r)) M) {M : cw_M} (hM : A_h m M) (hG : (∀ t, 0 ≤ t → t < t_tm (m m_kept_ 46) → ∀ p, 0 ≤ p → p < 6 → M m_got_ (6 * t + p) = G_K (m m_kept_) t p)) {w4 w5 w6 : cw_V} : cw_R (d + 4) k_M_settle 57 [vr m_, vi rd, vi wh, vi 0, w4, w5, w6] [] M Q := by
  have hn := hK.1
  have tq := t_tmr hn
  have rr := R_Kr hK
  have r1 := rr.2 rd a0 a1
  have et := hM.2.2.1.2.2.2 rd a0 a1
  have e32 : M m_ 32 = t_tm (m m_kept_ 46) := hM.2.2.1.2.1
  have l57 : ∀ (r : Nat) (k : Int) (gs : Int → Int), t_tm (m m_kept_ 46) < k + r → (0 ≤ k ∧ k ≤ t_tm (m m_kept_ 46)) → (∀ t, 0 ≤ t → t < k → (gs t = 0 ∨ gs t = 1) ∧ (gs t = 1 ↔ ∀ p, 0 ≤ p → p < 6 → G_K (m m_kept_) t p = G_K (m m_kept_) (t_g (R_K (m m_kept_)) rd) p)) → cw_R (d + 4) k_M_settle 57 [vr m_, vi rd, vi wh, vi k, w4, w5, w6] [] (o_m M gs) Q := by
    intro r
    induction r with
    | zero =>
      intro k gs hr hk hso
      omega
    | succ r ih =>
      intro k gs hr hk hso
      have hm0 : la_ok M := hM.1
      have hm2 : la_ok (o_m M gs) := o_m_ok hM.1
      refine la_go_R hm2 20 [57, 94] ?_
      refine And.intro (fun (c21 : M m_ 32 ≤ k) => ?_) (fun (c21 : ¬ (M m_ 32 ≤ k)) => ?_)
      · show cw_R _ _ 94 [vr m_, vi rd, vi wh, vi 1000000, vi 0, w5, w6] [] (o_m M gs) _
        have hN : N_h (m m_kept_) (t_g (R_K (m m_kept_)) rd) (o_m M gs) := ⟨hm2, (show M m_kept_ = m m_kept_ from S_fk hM.2.1), hK, by omega, hM.2.2.1.2.1, hM.2.2.1.1, fun t a b => hso t a (by omega)⟩
        refine la_go_R0 n_m_self.symm ?_
        refine M_settle94 hN ⟨by omega, by omega⟩ (fun r mk bm hr => ?_)
        refine h r _ (n_m_ok hm2) (S_ft hM.2.1 ⟨fun c a1 a2 a3 a4 a5 a6 a7 a8 a9 b1 b2 => by rw [n_m_ne a3 a8, o_m_ne a9], fun j a1 a2 a3 a4 a5 a6 a7 => by rw [n_m_ne (by decide) (by decide), o_m_ne (by decide)]⟩) ?_
        unfold s_R
        rw [if_pos ⟨⟨a0, a1⟩, by omega, by omega⟩]
        exact hr
      · refine And.intro (show 0 ≤ rd ∧ rd < 132 by omega) ?_
        show cw_C _ _ [vr m_, vi k, vi (M m_treeOf_ rd)] (o_m M gs) _
        refine M_areAlike hm2 (by omega) (by show 0 ≤ M m_treeOf_ rd ∧ M m_treeOf_ rd < 132; rw [et]; omega) (fun (ax : ∀ q, 0 ≤ q → q < 6 → M m_got_ (6 * k + q) = M m_got_ (6 * M m_treeOf_ rd + q)) => ⟨hm2, ?_⟩) (fun (ax : ¬ ∀ q, 0 ≤ q → q < 6 → M m_got_ (6 * k + q) = M m_got_ (6 * M m_treeOf_ rd + q)) => ⟨hm2, ?_⟩)
        · refine And.intro ⟨Or.inr rfl, show 0 ≤ k ∧ k < 132 by omega⟩ ?_
          have hm22 : la_ok (cw_put (o_m M gs) m_givesSo_ k 1) := la_put hm2 (by decide) (Or.inr (by decide))
          refine And.intro (show -2147483648 ≤ k + 1 ∧ k + 1 < 2147483648 by omega) ?_
          show cw_R _ _ 57 [vr m_, vi rd, vi wh, vi (k + 1), w4, w5, w6] [] (cw_put (o_m M gs) m_givesSo_ k 1) _
          rw [o_m_pgs]
          have hm23 : la_ok (o_m M (cw_up gs k 1))   := o_m_ok hm0
          have eq : (∀ q, 0 ≤ q → q < 6 → M m_got_ (6 * k + q) = M m_got_ (6 * M m_treeOf_ rd + q)) ↔ ∀ p, 0 ≤ p → p < 6 → G_K (m m_kept_) k p = G_K (m m_kept_) (t_g (R_K (m m_kept_)) rd) p := by
            constructor
            · intro z p p0 p1; rw [← hG k hk.1 (by omega) p p0 p1, z p p0 p1, et, hG _ (by omega) (by omega) p p0 p1]
            · intro z p p0 p1; rw [hG k hk.1 (by omega) p p0 p1, z p p0 p1, et, hG _ (by omega) (by omega) p p0 p1]
          refine ih (k + 1) _ (by omega) (by omega) (fun t a b => ?_)
          by_cases e : t = k
          · rw [e, cw_up_eq]; exact ⟨Or.inr rfl, fun _ => eq.mp ax, fun _ => rfl⟩
          · rw [cw_up_ne e]; exact hso t a (by omega)
        · refine And.intro ⟨Or.inl rfl, show 0 ≤ k ∧ k < 132 by omega⟩ ?_
          have hm24 : la_ok (cw_put (o_m M gs) m_givesSo_ k 0) := la_put hm2 (by decide) (Or.inr (by decide))
          refine And.intro (show -2147483648 ≤ k + 1 ∧ k + 1 < 2147483648 by omega) ?_
          show cw_R _ _ 57 [vr m_, vi rd, vi wh, vi (k + 1), w4, w5, w6] [] (cw_put (o_m M gs) m_givesSo_ k 0) _
          rw [o_m_pgs]
          have hm25 : la_ok (o_m M (cw_up gs k 0))   := o_m_ok hm0
          have eq : (∀ q, 0 ≤ q → q < 6 → M m_got_ (6 * k + q) = M m_got_ (6 * M m_treeOf_ rd + q)) ↔ ∀ p, 0 ≤ p → p < 6 → G_K (m m_kept_) k p = G_K (m m_kept_) (t_g (R_K (m m_kept_)) rd) p := by
            constructor
            · intro z p p0 p1; rw [← hG k hk.1 (by omega) p p0 p1, z p p0 p1, et, hG _ (by omega) (by omega) p p0 p1]
            · intro z p p0 p1; rw [hG k hk.1 (by omega) p p0 p1, z p p0 p1, et, hG _ (by omega) (by omega) p p0 p1]
          refine ih (k + 1) _ (by omega) (by omega) (fun t a b => ?_)
          by_cases e : t = k
          · rw [e, cw_up_eq]; exact ⟨Or.inl rfl, fun z => by omega, fun z => absurd (eq.mpr z) ax⟩
          · rw [cw_up_ne e]; exact hso t a (by omega)
  refine la_go_R0 o_m_self.symm ?_
  exact l57 133 0 _ (by omega) (by omega) (fun t a b => by omega)
theorem M_settle36 {d : Nat} {m : cw_M} {Q : Option cw_V → cw_M → Prop} (hK : K_r (m m_kept_)) {rd wh : Int} (a0 : 0 ≤ rd) (a1 : rd < ((R_K (m m_kept_)).length : Int)) (hwh : 0 ≤ wh ∧ wh ≤ m m_kept_ 46 - 1) (h : ∀ r M, la_ok M → S_f m M → s_R (m m_kept_) rd wh r → Q (some (vi r)) M) {M : cw_M} (hM : A_h m M) {w4 w5 w6 : cw_V} : cw_R (d + 87) k_M_settle 36 [vr m_, vi rd, vi wh, vi 0, w4, w5, w6] [] M Q := by
  have hn := hK.1
  have tq := t_tmr hn
  have lp : ∀ (r : Nat) (k : Int) (M : cw_M), t_tm (m m_kept_ 46) < k + r → (0 ≤ k ∧ k ≤ t_tm (m m_kept_ 46)) → (A_h m M) → (∀ t, 0 ≤ t → t < k → ∀ p, 0 ≤ p → p < 6 → M m_got_ (6 * t + p) = G_K (m m_kept_) t p) → cw_R (d + 87) k_M_settle 36 [vr m_, vi rd, vi wh, vi k, w4, w5, w6] [] M Q := by
    intro r
    induction r with
    | zero =>
      intro k M hr hk hM hgt
      omega
    | succ r ih =>
      intro k M hr hk hM hgt
      have ek := S_fk hM.2.1
      have e32 : M m_ 32 = t_tm (m m_kept_ 46) := hM.2.2.1.2.1
      refine la_go_R hM.1 12 [36, 57] ?_
      refine And.intro (fun (c21 : M m_ 32 ≤ k) => ?_) (fun (c21 : ¬ (M m_ 32 ≤ k)) => ?_)
      · show cw_R _ _ 57 [vr m_, vi rd, vi wh, vi 0, w4, w5, w6] [] (M) _
        exact cw_R_mono (by omega) (fun _ _ z => z) (M_settle57 (d := 83) hK a0 a1 hwh h hM (fun t a b => hgt t a (by omega)))
      · show cw_C _ _ [vr m_, vi k] (M) _
        refine M_laysGotM hM.1 (by rw [ek]; exact hK) (by rw [ek]; exact hM.2.2.1.1) (by rw [ek]; omega) (fun (as22 wd22 : Int → Int) (ga22 gb22 gc22 gd22 : Int) => ⟨(g_m_ok hM.1), ?_⟩)
        refine And.intro (show -2147483648 ≤ k + 1 ∧ k + 1 < 2147483648 by omega) ?_
        show cw_R _ _ 36 [vr m_, vi rd, vi wh, vi (k + 1), w4, w5, w6] [] (g_m M as22 wd22 (t_w (M m_got_) (6 * k) 0 6 (G_t (M m_kept_) (M m_kept_ 50) (M m_kept_ 18) (M m_ 38) k)) ga22 gb22 gc22 gd22) _
        refine ih (k + 1) _ (by omega) (by omega) (A_hG hM) (fun t a b p p0 p1 => ?_)
        show t_w (M m_got_) (6 * k) 0 6 (G_t (M m_kept_) (M m_kept_ 50) (M m_kept_ 18) (M m_ 38) k) (6 * t + p) = _
        rw [ek, hM.2.2.2]
        by_cases e : t = k
        · rw [e, t_wi ⟨p0, by omega⟩]; rfl
        · rw [t_wo (by omega)]; exact hgt t a (by omega) p p0 p1
  exact lp 133 0 M (by omega) (by omega) hM (fun t a b => by omega)
theorem M_settle {d : Nat} {m : cw_M} {Q : Option cw_V → cw_M → Prop} (hm : la_ok m) (hc : ∀ j, 0 ≤ j → j < 7 → m m_catalan_ j = t_c j) (hK : K_r (m m_kept_)) {rd wh : Int} (h : ∀ r M, la_ok M → S_f m M → s_R (m m_kept_) rd wh r → Q (some (vi r)) M) : cw_C (d + 87) k_M_settle [vr m_, vi rd, vi wh] m Q := by
  have hn := hK.1
  refine la_go_C hm 21 [36] ?_
  show cw_C _ _ [vr m_] (m) _
  refine M_laysReadings hm hc hK.1 (fun lo hi mk to hL hmk hto => ⟨(r_m_ok hm), ?_⟩)
  show cw_C _ _ [vr m_, vi rd] (r_m m lo hi mk to (t_tm (m m_kept_ 46)) ((R_K (m m_kept_)).length : Int)) _
  refine M_isNumber (r_m_ok hm) (by show 0 ≤ ((R_K (m m_kept_)).length : Int) ∧ ((R_K (m m_kept_)).length : Int) ≤ 132; have rr := (R_Kr hK).1; omega) (fun (a0 : 0 ≤ rd) (a1 : rd < ((R_K (m m_kept_)).length : Int)) => ⟨(r_m_ok hm), ?_⟩) (fun (a0 : ¬ (0 ≤ rd ∧ rd < ((R_K (m m_kept_)).length : Int))) => ⟨(r_m_ok hm), ?_⟩)
  · refine br_f (show ¬ ((1 : Int) = 0) by decide) ?_
    show cw_C _ _ [vr m_] (r_m m lo hi mk to (t_tm (m m_kept_ 46)) ((R_K (m m_kept_)).length : Int)) _
    refine M_joinMany (r_m_ok hm) hK.1 ⟨(r_m_ok hm), ?_⟩
    show cw_C _ _ [vi wh, vi 0, vi (max 0 (m m_kept_ 46 - 1))] (r_m m lo hi mk to (t_tm (m m_kept_ 46)) ((R_K (m m_kept_)).length : Int)) _
    refine M_lies (fun (a21 : 0 ≤ wh) (a22 : wh ≤ max 0 (m m_kept_ 46 - 1)) => ⟨(r_m_ok hm), ?_⟩) (fun (a23 : ¬ (0 ≤ wh ∧ wh ≤ max 0 (m m_kept_ 46 - 1))) => ⟨(r_m_ok hm), ?_⟩)
    · refine br_t (show (1 : Int) ≠ 0 by decide) ?_
      show cw_C _ _ [vr m_] (r_m m lo hi mk to (t_tm (m m_kept_ 46)) ((R_K (m m_kept_)).length : Int)) _
      refine M_fitNowM (r_m_ok hm) hK (fun (as : Int → Int) (ga gb gc gd : Int) => ⟨(g_m_ok (r_m_ok hm)), ?_⟩)
      have hm24 : la_ok (cw_put (g_m (r_m m lo hi mk to (t_tm (m m_kept_ 46)) ((R_K (m m_kept_)).length : Int)) as (m m_would_) (m m_got_) ga gb gc gd) m_ 38 (F_K (m m_kept_))) := la_put (g_m_ok (r_m_ok hm)) (by decide) (Or.inl rfl)
      show cw_R _ _ 36 [vr m_, vi rd, vi wh, vi 0, none, none, none] [] (cw_put (g_m (r_m m lo hi mk to (t_tm (m m_kept_ 46)) ((R_K (m m_kept_)).length : Int)) as (m m_would_) (m m_got_) ga gb gc gd) m_ 38 (F_K (m m_kept_))) _
      have n1 := (r_lg (mk := m m_kept_) hK.1 ⟨a0, a1⟩).2
      exact M_settle36 hK a0 a1 (by omega) h ⟨la_put (g_m_ok (r_m_ok hm)) (by decide) (Or.inl rfl), S_ft (S_ft S_fR S_fG) S_fP, ⟨hL, rfl, rfl, hto⟩, rfl⟩
    · refine br_f (show ¬ ((0 : Int) ≠ 0) by decide) ?_
      show Q (some (vi (-1))) (r_m m lo hi mk to (t_tm (m m_kept_ 46)) ((R_K (m m_kept_)).length : Int))
      refine h (-1) _ (r_m_ok hm) S_fR ?_
      unfold s_R
      rw [if_neg (by omega)]
  · refine br_t (show (0 : Int) = 0 by decide) ?_
    show Q (some (vi (-1))) (r_m m lo hi mk to (t_tm (m m_kept_ 46)) ((R_K (m m_kept_)).length : Int))
    refine h (-1) _ (r_m_ok hm) S_fR ?_
    unfold s_R
    rw [if_neg (by omega)]
