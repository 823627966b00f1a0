/-! All readings laid by the reference (wip/whole/tools/m56.py). -/
def t_tm (n : Int) : Int := if n = 0 then 0 else t_c (n - 1)
theorem t_tmr {n : Int} (h : 0 ≤ n ∧ n ≤ 7) : (n = 0 ∧ t_tm n = 0) ∨ (1 ≤ n ∧ t_tm n = t_c (n - 1) ∧ 0 < t_tm n ∧ t_tm n ≤ 132) := by
  unfold t_tm
  by_cases h0 : n = 0
  · left; rw [if_pos h0]; exact ⟨h0, rfl⟩
  · right; rw [if_neg h0]; have := t_cpos (n := n - 1) (by omega); omega
def t_L (n tm : Int) (lo hi : Int → Int) : Prop := ∀ t x, 0 ≤ t → t < tm → 0 ≤ x → x < n → lo (6 * t + x) = t_lo n t x ∧ hi (6 * t + x) = t_hi n t x
theorem t_lh {n t x : Int} (hn : n ≤ 6) (ht : 0 ≤ t ∧ t < t_c n) (hx : 0 ≤ x ∧ x < n) : (0 ≤ t_lo n t x ∧ t_lo n t x ≤ x) ∧ x < t_hi n t x ∧ t_hi n t x ≤ n := by
  obtain ⟨h1, h2, -, -⟩ := t_q_in 6 (a := 0) (n := n) (k := t) (dp := 0) (ov := -1) (x := x) (by omega) (by omega) ht (by omega)
  exact ⟨h1, h2.1, by have := h2.2; unfold t_hi; omega⟩
theorem t_Lr {n t : Int} {lo hi : Int → Int} (h : t_L (n - 1) (t_tm n) lo hi) (hn : 0 ≤ n ∧ n ≤ 7) (ht : 0 ≤ t ∧ t < t_tm n) : ∀ j, 0 ≤ j → j < n - 1 → 0 ≤ lo (6 * t + j) ∧ lo (6 * t + j) ≤ hi (6 * t + j) ∧ hi (6 * t + j) ≤ 6 := by
  intro j h0 h1
  obtain ⟨e1, e2⟩ := h t j ht.1 ht.2 h0 h1
  rcases t_tmr hn with q | q
  · omega
  · have := t_lh (n := n - 1) (t := t) (x := j) (by omega) (by omega) (by omega)
    rw [e1, e2]; omega
/-- a reading, by the marks -/
def t_R (mk : Int → Int) (n t : Int) : Prop := ∀ j, 0 ≤ j → j < n → ∀ i, t_lo n t j ≤ i → i < t_hi n t j → mk i ≤ mk j
noncomputable def r_l (mk : Int → Int) (n : Int) : List Int := t_rl (t_R mk (n - 1)) (t_tm n).toNat
theorem r_lc {mk mk' : Int → Int} {n : Int} (hn : 0 ≤ n ∧ n ≤ 7) (h : ∀ j, 0 ≤ j → j < 6 → mk j = mk' j) : r_l mk n = r_l mk' n := by
  unfold r_l
  refine t_rlc _ (fun t h0 h1 => ?_)
  rcases t_tmr hn with q | q
  · omega
  · have key : ∀ mk mk' : Int → Int, (∀ j, 0 ≤ j → j < 6 → mk j = mk' j) → t_R mk (n - 1) t → t_R mk' (n - 1) t := by
      intro mk mk' h hR j j0 j1 i i0 i1
      have b := t_lh (n := n - 1) (t := t) (x := j) (by omega) (by omega) (by omega)
      rw [← h i (by omega) (by omega), ← h j (by omega) (by omega)]
      exact hR j j0 j1 i i0 i1
    exact ⟨key mk mk' h, key mk' mk (fun j a b => (h j a b).symm)⟩
theorem t_PR {lo hi mk mk' : Int → Int} {n t : Int} (hn : 0 ≤ n ∧ n ≤ 7) (hL : t_L (n - 1) (t_tm n) lo hi) (h : ∀ j, 0 ≤ j → j < 6 → mk j = mk' j) (ht : 0 ≤ t ∧ t < t_tm n) : t_P lo hi mk (n - 1) t ↔ t_R mk' (n - 1) t := by
  rcases t_tmr hn with q | q
  · omega
  constructor
  · intro hR j j0 j1 i i0 i1
    have b := t_lh (n := n - 1) (t := t) (x := j) (by omega) (by omega) (by omega)
    obtain ⟨e1, e2⟩ := hL t j ht.1 ht.2 j0 j1
    rw [← h i (by omega) (by omega), ← h j (by omega) (by omega)]
    exact hR j j0 j1 i (by omega) (by omega)
  · intro hR j j0 j1 i i0 i1
    have b := t_lh (n := n - 1) (t := t) (x := j) (by omega) (by omega) (by omega)
    obtain ⟨e1, e2⟩ := hL t j ht.1 ht.2 j0 j1
    rw [h i (by omega) (by omega), h j (by omega) (by omega)]
    exact hR j j0 j1 i (by omega) (by omega)
theorem r_ll {mk : Int → Int} {n : Int} (hn : 0 ≤ n ∧ n ≤ 7) : ((r_l mk n).length : Int) ≤ t_tm n ∧ t_tm n ≤ 132 := by
  have := t_rll (P := t_R mk (n - 1)) (t_tm n).toNat
  unfold r_l
  have := t_tmr hn
  omega
theorem r_lg {mk : Int → Int} {n i : Int} (hn : 0 ≤ n ∧ n ≤ 7) (hi : 0 ≤ i ∧ i < (r_l mk n).length) : (0 ≤ t_g (r_l mk n) i ∧ t_g (r_l mk n) i < t_tm n) ∧ 1 ≤ n := by
  have h := (t_rlm _ (t_gm hi)).1
  have := t_tmr hn
  unfold r_l at *
  omega
theorem t_lm_r {m : cw_M} {lo hi mk to : Int → Int} {tm rm : Int} {f : Nat} {t a n k dp ov : Int} : t_lm (r_m m lo hi mk to tm rm) f t a n k dp ov = r_m m (t_w lo (6 * t) a n (fun x => (t_q f a n k dp ov x).1)) (t_w hi (6 * t) a n (fun x => (t_q f a n k dp ov x).2.1)) mk to tm rm := by
  unfold t_lm
  rw [r_m_lo, r_m_hi, r_m_rlo, r_m_rhi]
theorem M_laysTrees {d : Nat} {m : cw_M} {Q : Option cw_V → cw_M → Prop} (hm0 : la_ok m) (hc : ∀ j, 0 ≤ j → j < 7 → m m_catalan_ j = t_c j) (hn : 0 ≤ m m_kept_ 46 ∧ m m_kept_ 46 ≤ 7) {lo hi mk to : Int → Int} {tm rm : Int} (hQ : ∀ lo hi, t_L (m m_kept_ 46 - 1) (t_tm (m m_kept_ 46)) lo hi → Q none (r_m m lo hi mk to (t_tm (m m_kept_ 46)) rm)) : cw_C (d + 7) k_M_laysTrees [vr m_] (r_m m lo hi mk to tm rm) Q := by
  have tq := t_tmr hn
  have lp : ∀ (r : Nat) (k : Int) (lo hi : Int → Int), (t_tm (m m_kept_ 46)) < k + r → (0 ≤ k ∧ k ≤ (t_tm (m m_kept_ 46))) → (t_L (m m_kept_ 46 - 1) k lo hi) → cw_R (d + 7) k_M_laysTrees 28 [vr m_, vi k] [] (r_m m lo hi mk to (t_tm (m m_kept_ 46)) rm) Q := by
    intro r
    induction r with
    | zero =>
      intro k lo hi hr hk hL
      omega
    | succ r ih =>
      intro k lo hi hr hk hL
      have hm : la_ok (r_m m lo hi mk to (t_tm (m m_kept_ 46)) rm) := r_m_ok hm0
      have tq := t_tmr hn
      clear hm
      have hm : la_ok (r_m m lo hi mk to (t_tm (m m_kept_ 46)) rm) := r_m_ok hm0
      refine la_go_R hm 18 [28] ?_
      refine And.intro (fun (c1 : (t_tm (m m_kept_ 46)) ≤ k) => ?_) (fun (c1 : ¬ ((t_tm (m m_kept_ 46)) ≤ k)) => ?_)
      · show Q none (r_m m lo hi mk to (t_tm (m m_kept_ 46)) rm)
        exact hQ lo hi (fun t x t0 t1 => hL t x t0 (by omega))
      · show cw_C _ _ [vr m_] (r_m m lo hi mk to (t_tm (m m_kept_ 46)) rm) _
        refine M_many hm ⟨hm, ?_⟩
        refine And.intro (show -2147483648 ≤ (m m_kept_ 46) - 1 ∧ (m m_kept_ 46) - 1 < 2147483648 by omega) ?_
        show cw_C _ _ [vr m_, vi k, vi 0, vi ((m m_kept_ 46) - 1), vi k] (r_m m lo hi mk to (t_tm (m m_kept_ 46)) rm) _
        have hm2 : la_ok (r_m m (t_w lo (6 * k) 0 (m m_kept_ 46 - 1) (fun x => t_lo (m m_kept_ 46 - 1) k x)) (t_w hi (6 * k) 0 (m m_kept_ 46 - 1) (fun x => t_hi (m m_kept_ 46 - 1) k x)) mk to (t_tm (m m_kept_ 46)) rm) := r_m_ok hm0
        show cw_C _ _ [vr m_, vi k, vi 0, vi (m m_kept_ 46 - 1), vi k] (r_m m lo hi mk to (t_tm (m m_kept_ 46)) rm) _
        refine M_laysTree 6 (n := (m m_kept_ 46 - 1)) (k := k) (dp := 0) (ov := -1) hm hc (by omega) (by omega) (by omega) (by omega) (by omega) (by omega) (by omega) rfl ?_
        rw [t_lm_r]
        refine ⟨hm2, ?_⟩
        refine And.intro (show -2147483648 ≤ k + 1 ∧ k + 1 < 2147483648 by omega) ?_
        show cw_R _ _ 28 [vr m_, vi (k + 1)] [] (r_m m (t_w lo (6 * k) 0 (m m_kept_ 46 - 1) (fun x => t_lo (m m_kept_ 46 - 1) k x)) (t_w hi (6 * k) 0 (m m_kept_ 46 - 1) (fun x => t_hi (m m_kept_ 46 - 1) k x)) mk to (t_tm (m m_kept_ 46)) rm) _
        refine ih (k + 1) _ _ (by omega) (by omega) (fun t x t0 t1 x0 x1 => ?_)
        by_cases e : t = k
        · subst e; rw [t_wi (by omega), t_wi (by omega)]; exact ⟨rfl, rfl⟩
        · rw [t_wo (by omega), t_wo (by omega)]; exact hL t x t0 (by omega) x0 x1
  have hm : la_ok (r_m m lo hi mk to tm rm) := r_m_ok hm0
  refine la_go_C hm 17 [28] ?_
  show cw_C _ _ [vr m_] (r_m m lo hi mk to tm rm) _
  refine M_many hm ⟨hm, ?_⟩
  refine And.intro (fun (c1 : m m_kept_ 46 ≠ 0) => ?_) (fun (c1 : ¬ (m m_kept_ 46 ≠ 0)) => ?_)
  · show cw_C _ _ [vr m_] (r_m m lo hi mk to tm rm) _
    refine M_many hm ⟨hm, ?_⟩
    refine And.intro (show -2147483648 ≤ (m m_kept_ 46) - 1 ∧ (m m_kept_ 46) - 1 < 2147483648 by omega) ?_
    refine And.intro (show 0 ≤ (m m_kept_ 46) - 1 ∧ (m m_kept_ 46) - 1 < 7 by omega) ?_
    have hm2 : la_ok (cw_put (r_m m lo hi mk to tm rm) m_ 32 (m m_catalan_ ((m m_kept_ 46) - 1))) := la_put hm (by decide) (Or.inl rfl)
    show cw_R _ _ 28 [vr m_, vi 0] [] (cw_put (r_m m lo hi mk to tm rm) m_ 32 (m m_catalan_ ((m m_kept_ 46) - 1))) _
    refine la_go_R0 (m' := r_m m lo hi mk to (t_tm (m m_kept_ 46)) rm) (by rw [r_m_ftm, show m m_catalan_ ((m m_kept_ 46) - 1) = (t_tm (m m_kept_ 46)) by rw [hc _ (by omega) (by omega)]; unfold t_tm; rw [if_neg (by omega)]]) ?_
    exact lp (((t_tm (m m_kept_ 46))).toNat + 1) 0 lo hi (by omega) (by omega) (fun t x t0 t1 => by omega)
  · have hm3 : la_ok (cw_put (r_m m lo hi mk to tm rm) m_ 32 0) := la_put hm (by decide) (Or.inl rfl)
    show cw_R _ _ 28 [vr m_, vi 0] [] (cw_put (r_m m lo hi mk to tm rm) m_ 32 0) _
    refine la_go_R0 (m' := r_m m lo hi mk to (t_tm (m m_kept_ 46)) rm) (by rw [r_m_ftm, show 0 = (t_tm (m m_kept_ 46)) by unfold t_tm; rw [if_pos (by omega)]]) ?_
    exact lp (((t_tm (m m_kept_ 46))).toNat + 1) 0 lo hi (by omega) (by omega) (fun t x t0 t1 => by omega)
theorem M_laysReadings0 {d : Nat} {m : cw_M} {Q : Option cw_V → cw_M → Prop} (hm0 : la_ok m) (hc : ∀ j, 0 ≤ j → j < 7 → m m_catalan_ j = t_c j) (hn : 0 ≤ m m_kept_ 46 ∧ m m_kept_ 46 ≤ 7) {lo hi mk to : Int → Int} {tm rm : Int} (hQ : ∀ lo hi mk to, t_L (m m_kept_ 46 - 1) (t_tm (m m_kept_ 46)) lo hi → (∀ j, 0 ≤ j → j < 6 → mk j = m m_kept_ j) → (∀ i, 0 ≤ i → i < ((r_l (m m_kept_) (m m_kept_ 46)).length : Int) → to i = t_g (r_l (m m_kept_) (m m_kept_ 46)) i) → Q none (r_m m lo hi mk to (t_tm (m m_kept_ 46)) ((r_l (m m_kept_) (m m_kept_ 46)).length : Int))) : cw_C (d + 8) k_M_laysReadings [vr m_] (r_m m lo hi mk to tm rm) Q := by
  have tq := t_tmr hn
  have rest : ∀ lo1 hi1, t_L (m m_kept_ 46 - 1) (t_tm (m m_kept_ 46)) lo1 hi1 → cw_R (d + 8) k_M_laysReadings 6 [vr m_, vi 0] [] (r_m m lo1 hi1 mk to (t_tm (m m_kept_ 46)) rm) Q := by
    intro lo1 hi1 hL
    have l39 : ∀ (mk1 : Int → Int), (∀ j, 0 ≤ j → j < 6 → mk1 j = m m_kept_ j) → ∀ (r : Nat) (k : Int) (to : Int → Int), (t_tm (m m_kept_ 46)) < k + r → (0 ≤ k ∧ k ≤ (t_tm (m m_kept_ 46))) → (∀ i, 0 ≤ i → i < ((t_rl (t_P lo1 hi1 mk1 (m m_kept_ 46 - 1)) k.toNat).length : Int) → to i = t_g (t_rl (t_P lo1 hi1 mk1 (m m_kept_ 46 - 1)) k.toNat) i) → cw_R (d + 8) k_M_laysReadings 39 [vr m_, vi k] [] (r_m m lo1 hi1 mk1 to (t_tm (m m_kept_ 46)) ((t_rl (t_P lo1 hi1 mk1 (m m_kept_ 46 - 1)) k.toNat).length : Int)) Q := by
      intro mk1 hmk r
      induction r with
      | zero =>
        intro k to hr hk hT
        omega
      | succ r ih =>
        intro k to hr hk hT
        have hm : la_ok (r_m m lo1 hi1 mk1 to (t_tm (m m_kept_ 46)) ((t_rl (t_P lo1 hi1 mk1 (m m_kept_ 46 - 1)) k.toNat).length : Int)) := r_m_ok hm0
        have tq := t_tmr hn
        have tl := t_rll (P := t_P lo1 hi1 mk1 (m m_kept_ 46 - 1)) k.toNat
        refine la_go_R hm 25 [39] ?_
        refine And.intro (fun (c1 : (t_tm (m m_kept_ 46)) ≤ k) => ?_) (fun (c1 : ¬ ((t_tm (m m_kept_ 46)) ≤ k)) => ?_)
        · show Q none (r_m m lo1 hi1 mk1 to (t_tm (m m_kept_ 46)) ((t_rl (t_P lo1 hi1 mk1 (m m_kept_ 46 - 1)) k.toNat).length : Int))
          have e : t_rl (t_P lo1 hi1 mk1 (m m_kept_ 46 - 1)) k.toNat = r_l (m m_kept_) (m m_kept_ 46) := by
            unfold r_l; rw [show k = (t_tm (m m_kept_ 46)) by omega]
            exact t_rlc _ (fun t t0 t1 => t_PR hn hL hmk (by omega))
          rw [e] at hT ⊢
          exact hQ lo1 hi1 mk1 to hL hmk hT
        · show cw_C _ _ [vr m_, vi k] (r_m m lo1 hi1 mk1 to (t_tm (m m_kept_ 46)) ((t_rl (t_P lo1 hi1 mk1 (m m_kept_ 46 - 1)) k.toNat).length : Int)) _
          refine M_isReading hm hn (by omega) (t_Lr (n := m m_kept_ 46) hL hn (by omega)) (fun a2 => ⟨hm, ?_⟩) (fun a2 => ⟨hm, ?_⟩)
          · refine br_t (by decide) ?_
            refine And.intro (show 0 ≤ ((t_rl (t_P lo1 hi1 mk1 (m m_kept_ 46 - 1)) k.toNat).length : Int) ∧ ((t_rl (t_P lo1 hi1 mk1 (m m_kept_ 46 - 1)) k.toNat).length : Int) < 132 by omega) ?_
            have hm3 : la_ok (cw_put (r_m m lo1 hi1 mk1 to (t_tm (m m_kept_ 46)) ((t_rl (t_P lo1 hi1 mk1 (m m_kept_ 46 - 1)) k.toNat).length : Int)) m_treeOf_ ((t_rl (t_P lo1 hi1 mk1 (m m_kept_ 46 - 1)) k.toNat).length : Int) k) := la_put hm (by decide) (Or.inr (by decide))
            refine And.intro (show -2147483648 ≤ ((t_rl (t_P lo1 hi1 mk1 (m m_kept_ 46 - 1)) k.toNat).length : Int) + 1 ∧ ((t_rl (t_P lo1 hi1 mk1 (m m_kept_ 46 - 1)) k.toNat).length : Int) + 1 < 2147483648 by omega) ?_
            have hm4 : la_ok (cw_put (cw_put (r_m m lo1 hi1 mk1 to (t_tm (m m_kept_ 46)) ((t_rl (t_P lo1 hi1 mk1 (m m_kept_ 46 - 1)) k.toNat).length : Int)) m_treeOf_ ((t_rl (t_P lo1 hi1 mk1 (m m_kept_ 46 - 1)) k.toNat).length : Int) k) m_ 35 (((t_rl (t_P lo1 hi1 mk1 (m m_kept_ 46 - 1)) k.toNat).length : Int) + 1)) := la_put hm3 (by decide) (Or.inl rfl)
            refine And.intro (show -2147483648 ≤ k + 1 ∧ k + 1 < 2147483648 by omega) ?_
            show cw_R _ _ 39 [vr m_, vi (k + 1)] [] (cw_put (cw_put (r_m m lo1 hi1 mk1 to (t_tm (m m_kept_ 46)) ((t_rl (t_P lo1 hi1 mk1 (m m_kept_ 46 - 1)) k.toNat).length : Int)) m_treeOf_ ((t_rl (t_P lo1 hi1 mk1 (m m_kept_ 46 - 1)) k.toNat).length : Int) k) m_ 35 (((t_rl (t_P lo1 hi1 mk1 (m m_kept_ 46 - 1)) k.toNat).length : Int) + 1)) _
            rw [r_m_pto, r_m_frm]
            have e := t_rl1 (P := t_P lo1 hi1 mk1 (m m_kept_ 46 - 1)) (k := k.toNat) (by rw [show ((k.toNat : Nat) : Int) = k by omega]; exact a2)
            rw [show ((t_rl (t_P lo1 hi1 mk1 (m m_kept_ 46 - 1)) k.toNat).length : Int) + 1 = ((t_rl (t_P lo1 hi1 mk1 (m m_kept_ 46 - 1)) (k + 1).toNat).length : Int) by rw [show (k + 1).toNat = k.toNat + 1 by omega, e, List.length_append]; simp]
            refine ih (k + 1) _ (by omega) (by omega) (fun i i0 i1 => ?_)
            rw [show (k + 1).toNat = k.toNat + 1 by omega, e] at i1 ⊢
            rw [List.length_append] at i1
            simp only [List.length_singleton] at i1
            by_cases q : i = ((t_rl (t_P lo1 hi1 mk1 (m m_kept_ 46 - 1)) k.toNat).length : Int)
            · rw [q, cw_up_eq, t_g2]; omega
            · rw [cw_up_ne q, t_g1 (by omega)]; exact hT i i0 (by omega)
          · refine br_f (by decide) ?_
            refine And.intro (show -2147483648 ≤ k + 1 ∧ k + 1 < 2147483648 by omega) ?_
            show cw_R _ _ 39 [vr m_, vi (k + 1)] [] (r_m m lo1 hi1 mk1 to (t_tm (m m_kept_ 46)) ((t_rl (t_P lo1 hi1 mk1 (m m_kept_ 46 - 1)) k.toNat).length : Int)) _
            have e := t_rl0 (P := t_P lo1 hi1 mk1 (m m_kept_ 46 - 1)) (k := k.toNat) (by rw [show ((k.toNat : Nat) : Int) = k by omega]; exact a2)
            rw [← e, ← show (k + 1).toNat = k.toNat + 1 by omega]
            rw [← e, ← show (k + 1).toNat = k.toNat + 1 by omega] at hT
            exact ih (k + 1) _ (by omega) (by omega) hT
    have l6 : ∀ (r : Nat) (i : Int) (mk1 : Int → Int), 6 < i + r → (0 ≤ i ∧ i ≤ 6) → (∀ j, 0 ≤ j → j < i → mk1 j = m m_kept_ j) → cw_R (d + 8) k_M_laysReadings 6 [vr m_, vi i] [] (r_m m lo1 hi1 mk1 to (t_tm (m m_kept_ 46)) rm) Q := by
      intro r
      induction r with
      | zero =>
        intro i mk1 hr hi6 hmk
        omega
      | succ r ih =>
        intro i mk1 hr hi6 hmk
        have hm : la_ok (r_m m lo1 hi1 mk1 to (t_tm (m m_kept_ 46)) rm) := r_m_ok hm0
        refine la_go_R hm 18 [6, 39] ?_
        refine And.intro (fun (c1 : 6 ≤ i) => ?_) (fun (c1 : ¬ (6 ≤ i)) => ?_)
        · have hm2 : la_ok (cw_put (r_m m lo1 hi1 mk1 to (t_tm (m m_kept_ 46)) rm) m_ 35 0) := la_put hm (by decide) (Or.inl rfl)
          show cw_R _ _ 39 [vr m_, vi 0] [] (cw_put (r_m m lo1 hi1 mk1 to (t_tm (m m_kept_ 46)) rm) m_ 35 0) _
          rw [r_m_frm]
          exact l39 mk1 (fun j a b => hmk j a (by omega)) (((t_tm (m m_kept_ 46))).toNat + 1) 0 to (by omega) (by omega) (fun i i0 i1 => by simp [t_rl] at i1; omega)
        · refine And.intro (show -2147483648 ≤ 0 + i ∧ 0 + i < 2147483648 by omega) ?_
          refine And.intro (show 0 ≤ 0 + i ∧ 0 + i < 5658 by omega) ?_
          refine And.intro (show 0 ≤ i ∧ i < 6 by omega) ?_
          have hm3 : la_ok (cw_put (r_m m lo1 hi1 mk1 to (t_tm (m m_kept_ 46)) rm) m_marks_ i (m m_kept_ (0 + i))) := la_put hm (by decide) (Or.inr (by decide))
          refine And.intro (show -2147483648 ≤ i + 1 ∧ i + 1 < 2147483648 by omega) ?_
          show cw_R _ _ 6 [vr m_, vi (i + 1)] [] (cw_put (r_m m lo1 hi1 mk1 to (t_tm (m m_kept_ 46)) rm) m_marks_ i (m m_kept_ (0 + i))) _
          rw [r_m_pmk]
          refine ih (i + 1) _ (by omega) (by omega) (fun j j0 j1 => ?_)
          by_cases e : j = i
          · rw [e, cw_up_eq, show 0 + i = i by omega]
          · rw [cw_up_ne e]; exact hmk j j0 (by omega)
    exact l6 7 0 mk (by omega) (by omega) (fun j a b => by omega)
  have hm : la_ok (r_m m lo hi mk to tm rm) := r_m_ok hm0
  refine la_go_C hm 7 [6] ?_
  show cw_C _ _ [vr m_] (r_m m lo hi mk to tm rm) _
  refine M_laysTrees hm0 hc hn (fun lo1 hi1 hL => ⟨(r_m_ok hm0), ?_⟩)
  show cw_R _ _ 6 [vr m_, vi 0] [] (r_m m lo1 hi1 mk to (t_tm (m m_kept_ 46)) rm) _
  exact rest lo1 hi1 hL
theorem M_laysReadings {d : Nat} {m : cw_M} {Q : Option cw_V → cw_M → Prop} (hm0 : la_ok m) (hc : ∀ j, 0 ≤ j → j < 7 → m m_catalan_ j = t_c j) (hn : 0 ≤ m m_kept_ 46 ∧ m m_kept_ 46 ≤ 7) (hQ : ∀ lo hi mk to, t_L (m m_kept_ 46 - 1) (t_tm (m m_kept_ 46)) lo hi → (∀ j, 0 ≤ j → j < 6 → mk j = m m_kept_ j) → (∀ i, 0 ≤ i → i < ((r_l (m m_kept_) (m m_kept_ 46)).length : Int) → to i = t_g (r_l (m m_kept_) (m m_kept_ 46)) i) → Q none (r_m m lo hi mk to (t_tm (m m_kept_ 46)) ((r_l (m m_kept_) (m m_kept_ 46)).length : Int))) : cw_C (d + 8) k_M_laysReadings [vr m_] m Q := by
  have h := M_laysReadings0 (d := d) (lo := m m_low_) (hi := m m_high_) (mk := m m_marks_) (to := m m_treeOf_) (tm := m m_ 32) (rm := m m_ 35) hm0 hc hn hQ
  rw [r_m_self] at h
  exact h
