/-! More questions, by the reference (wip/whole/tools/m95.py). -/
theorem L_okc {K K' : Int → Int} {i : Int} (h0 : K (51 + i) = K' (51 + i)) (h1 : ∀ k, 0 ≤ k → k < K (51 + i) → K (58 + (400 * i + k)) = K' (58 + (400 * i + k)) ∧ K (2858 + (400 * i + k)) = K' (2858 + (400 * i + k))) (hL : L_ok K i) : L_ok K' i := by
  have e := l_ksc h0 h1
  refine ⟨by rw [← h0]; exact hL.1, fun k a b => ?_, by rw [← e.1, ← e.2.1, ← h0, ← e.2.2]; exact hL.2.2⟩
  rw [← (h1 k a (by rw [h0]; exact b)).2]
  exact hL.2.1 k a (by rw [h0]; exact b)
/-- a change of one thing kept, within bounds -/
theorem K_r50 {K : Int → Int} {fc : Int} (h : K_r K) (hf : -1 ≤ fc ∧ fc < K 49) : K_r (cw_up K 50 fc) := by
  obtain ⟨h1, h2, h3, h4, h5, h6, h7, h8, h9, ha, hb, hc, hd, he, hg, hl⟩ := h
  have n : ∀ i, i ≠ 50 → cw_up K 50 fc i = K i := fun i q => cw_up_ne q
  refine ⟨by rw [n 46 (by decide)]; exact h1, fun i a b => by rw [n _ (by omega)]; exact h2 i a b, fun i a b => by rw [n _ (by omega)]; exact h3 i a b, fun i a b => by rw [n _ (by omega)]; exact h4 i a b, by rw [n 18 (by decide)]; exact h5, fun i a b => by rw [n _ (by omega)]; exact h6 i a b, by rw [n 43 (by decide)]; exact h7, by rw [n 44 (by decide)]; exact h8, by rw [n 45 (by decide)]; exact h9, by rw [n 47 (by decide)]; exact ha, by rw [n 48 (by decide)]; exact hb, by rw [n 49 (by decide)]; exact hc, by rw [n 49 (by decide), cw_up_eq]; exact hf, fun i a b => by rw [n _ (by omega)]; exact he i a b, fun i a b => by rw [n _ (by omega), n _ (by omega)]; exact hg i a b, fun i a b => ?_⟩
  rw [n 49 (by decide)] at b
  have q := hl i a b
  exact L_okc (n _ (by omega)).symm (fun k c d => ⟨(n _ (by omega)).symm, (n _ (by omega)).symm⟩) q
noncomputable def q_cmp (K : Int → Int) (fc rd p : Int) : Int := if -1 ≤ fc ∧ fc < K 49 then q_gets (cw_up K 50 fc) rd p else -1
def d_s (n t j : Int) : Nat → Int
  | 0 => 0
  | k + 1 => d_s n t j k + d_c n t j k
theorem d_s1 {n t j i x : Int} (hi : 0 ≤ i) (hx : x = d_c n t j i) : d_s n t j i.toNat + x = d_s n t j (i + 1).toNat := by
  rw [show (i + 1).toNat = i.toNat + 1 by omega, hx]
  show _ = d_s n t j i.toNat + d_c n t j ((i.toNat : Nat) : Int)
  rw [show ((i.toNat : Nat) : Int) = i by omega]
theorem d_sr {n t j : Int} : ∀ k : Nat, 0 ≤ d_s n t j k ∧ d_s n t j k ≤ k
  | 0 => ⟨Int.le_refl 0, Int.le_refl 0⟩
  | k + 1 => by
    have := d_sr (n := n) (t := t) (j := j) k
    show 0 ≤ d_s n t j k + d_c n t j k ∧ d_s n t j k + d_c n t j k ≤ _
    unfold d_c
    split <;> omega
theorem d_sn {n t j : Int} (hn : 0 ≤ n ∧ n ≤ 6) : d_s n t j n.toNat = d_c n t j 0 + d_c n t j 1 + d_c n t j 2 + d_c n t j 3 + d_c n t j 4 + d_c n t j 5 := by
  have z : ∀ i, n ≤ i → d_c n t j i = 0 := fun i q => by unfold d_c; rw [if_neg (by omega)]
  have e0 : d_s n t j 0 = 0 := rfl
  have e1 : d_s n t j 1 = d_s n t j 0 + d_c n t j 0 := rfl
  have e2 : d_s n t j 2 = d_s n t j 1 + d_c n t j 1 := rfl
  have e3 : d_s n t j 3 = d_s n t j 2 + d_c n t j 2 := rfl
  have e4 : d_s n t j 4 = d_s n t j 3 + d_c n t j 3 := rfl
  have e5 : d_s n t j 5 = d_s n t j 4 + d_c n t j 4 := rfl
  have e6 : d_s n t j 6 = d_s n t j 5 + d_c n t j 5 := rfl
  have z0 := z 0
  have z1 := z 1
  have z2 := z 2
  have z3 := z 3
  have z4 := z 4
  have z5 := z 5
  have hc : n = 0 ∨ n = 1 ∨ n = 2 ∨ n = 3 ∨ n = 4 ∨ n = 5 ∨ n = 6 := by omega
  rcases hc with q | q | q | q | q | q | q
  · rw [show n.toNat = 0 by omega]; omega
  · rw [show n.toNat = 1 by omega]; omega
  · rw [show n.toNat = 2 by omega]; omega
  · rw [show n.toNat = 3 by omega]; omega
  · rw [show n.toNat = 4 by omega]; omega
  · rw [show n.toNat = 5 by omega]; omega
  · rw [show n.toNat = 6 by omega]; omega
noncomputable def q_dep (K : Int → Int) (rd j : Int) : Int := if (0 ≤ rd ∧ rd < ((R_K K).length : Int)) ∧ 0 ≤ j ∧ j < K 46 - 1 then t_dp (K 46 - 1) (t_g (R_K K) rd) j else -1
noncomputable def q_of (K : Int → Int) (p w : Int) : Int := if 0 ≤ p ∧ p ≤ 5 then (if w = 0 then K (12 + p) else if w = 1 then f_cnt (fun i => K (19 + i)) p (K 46).toNat else if w = 2 then (if 0 < l_br K (K 50) (K 18) p then 1 else 0) else -1) else -1
/-- what was told is so -/
def so_K (K : Int → Int) (i : Int) : Prop := ∀ k, 0 ≤ k → k < K 48 → G_R K i (K (31 + 2 * k)) = K (32 + 2 * k)
noncomputable def f_l (K : Int → Int) : List Int := t_rl (so_K K) (R_K K).length
theorem t_rls {P : Int → Prop} {k : Int} (hk : 0 ≤ k) : (P k → t_rl P (k + 1).toNat = t_rl P k.toNat ++ [k]) ∧ (¬ P k → t_rl P (k + 1).toNat = t_rl P k.toNat) := by
  rw [show (k + 1).toNat = k.toNat + 1 by omega]
  constructor
  · intro h
    rw [t_rl1 (by rw [show ((k.toNat : Nat) : Int) = k by omega]; exact h), show ((k.toNat : Nat) : Int) = k by omega]
  · intro h
    rw [t_rl0 (by rw [show ((k.toNat : Nat) : Int) = k by omega]; exact h)]
/-- the first of a longer row are those of the shorter -/
theorem t_rlp {P : Int → Prop} : ∀ (n k : Nat), k ≤ n → ∃ l, t_rl P n = t_rl P k ++ l
  | 0, k, h => ⟨[], by rw [show k = 0 by omega]; rfl⟩
  | n + 1, k, h => by
    by_cases e : k = n + 1
    · exact ⟨[], by rw [e, List.append_nil]⟩
    · obtain ⟨l, hl⟩ := t_rlp (P := P) n k (by omega)
      by_cases q : P n
      · exact ⟨l ++ [(n : Int)], by rw [t_rl1 q, hl, List.append_assoc]⟩
      · exact ⟨l, by rw [t_rl0 q, hl]⟩
theorem t_gap {l l' : List Int} {i : Int} (h : 0 ≤ i ∧ i < l.length) : t_g (l ++ l') i = t_g l i := by
  unfold t_g
  rw [List.getD_eq_getElem?_getD, List.getD_eq_getElem?_getD, List.getElem?_append_left (by omega)]
noncomputable def q_fits (K : Int → Int) (i : Int) : Int := if i = -1 then ((f_l K).length : Int) else if 0 ≤ i ∧ i < ((f_l K).length : Int) then t_g (f_l K) i else -1
theorem M_compare {d : Nat} {m : cw_M} {Q : Option cw_V → cw_M → Prop} (hm : la_ok m) (hc : ∀ j, 0 ≤ j → j < 7 → m m_catalan_ j = t_c j) (hK : K_r (m m_kept_)) {fc rd p : Int} (h : ∀ M, la_ok M → S_f m M → Q (some (vi (q_cmp (m m_kept_) fc rd p))) M) : cw_C (d + 89) k_M_compare [vr m_, vi fc, vi rd, vi p] m Q := by
  refine la_go_C hm 29 [] ?_
  show cw_C _ _ [vr m_, vi fc] (m) _
  refine M_isLaw hm hK.2.2.2.2.2.2.2.2.2.2.2.1 (fun (l0 : -1 ≤ fc) (l1 : fc < m m_kept_ 49) => ⟨hm, ?_⟩) (fun (l0 : ¬ (-1 ≤ fc ∧ fc < m m_kept_ 49)) => ⟨hm, ?_⟩)
  · refine br_t (show (1 : Int) ≠ 0 by decide) ?_
    refine And.intro (show 0 ≤ 50 ∧ 50 < 5658 by omega) ?_
    refine And.intro (show 0 ≤ 50 ∧ 50 < 5658 by omega) ?_
    have hm21 : la_ok (cw_put m m_kept_ 50 fc) := la_put hm (by decide) (Or.inr (by decide))
    show cw_C _ _ [vr m_, vi rd, vi p] (cw_put m m_kept_ 50 fc) _
    refine M_gets hm21 hc (by rw [cw_put_r]; exact K_r50 hK ⟨l0, l1⟩) (fun (M : cw_M) (hM : la_ok M) (hS : S_f (cw_put m m_kept_ 50 fc) M) => ⟨hM, ?_⟩)
    refine And.intro (show 0 ≤ 50 ∧ 50 < 5658 by omega) ?_
    have hm22 : la_ok (cw_put M m_kept_ 50 (m m_kept_ 50)) := la_put hM (by decide) (Or.inr (by decide))
    show Q (some (vi (q_gets (cw_put m m_kept_ 50 fc m_kept_) rd p))) (cw_put M m_kept_ 50 (m m_kept_ 50))
    have e : q_cmp (m m_kept_) fc rd p = q_gets (cw_put m m_kept_ 50 fc m_kept_) rd p := by unfold q_cmp; rw [if_pos ⟨l0, l1⟩, cw_put_r]
    rw [e] at h
    refine h _ hm22 ⟨fun c a1 a2 a3 a4 a5 a6 a7 a8 a9 b1 b2 => ?_, fun j a1 a2 a3 a4 a5 a6 a7 => ?_⟩
    · by_cases e : c = m_kept_
      · rw [e, cw_put_r, S_fk hS, cw_put_r]; funext i
        by_cases q : i = 50
        · rw [q, cw_up_eq]
        · rw [cw_up_ne q, cw_up_ne q]
      · rw [cw_put_ne e, hS.1 c a1 a2 a3 a4 a5 a6 a7 a8 a9 b1 b2, cw_put_ne e]
    · rw [cw_put_ne (by decide), hS.2 j a1 a2 a3 a4 a5 a6 a7, cw_put_ne (by decide)]
  · refine br_f (show ¬ ((0 : Int) ≠ 0) by decide) ?_
    show Q (some (vi (-1))) (m)
    have e : q_cmp (m m_kept_) fc rd p = -1 := by unfold q_cmp; rw [if_neg l0]
    rw [e] at h
    exact h m hm S_fr
theorem M_depth38 {d : Nat} {m : cw_M} {Q : Option cw_V → cw_M → Prop} (hm : la_ok m) (hK : K_r (m m_kept_)) {lo hi mk to : Int → Int} {t j rd : Int} (hL : t_L (m m_kept_ 46 - 1) (t_tm (m m_kept_ 46)) lo hi) (ht : 0 ≤ t ∧ t < t_tm (m m_kept_ 46)) (hj : 0 ≤ j ∧ j < (m m_kept_ 46 - 1)) (h : Q (some (vi (t_dp (m m_kept_ 46 - 1) t j))) (r_m m lo hi mk to (t_tm (m m_kept_ 46)) ((R_K (m m_kept_)).length : Int))) : cw_R (d + 2) k_M_depth 38 [vr m_, vi rd, vi j, vi (6 * t), vi 0, vi 0] [] (r_m m lo hi mk to (t_tm (m m_kept_ 46)) ((R_K (m m_kept_)).length : Int)) Q := by
  have hm2 : la_ok (r_m m lo hi mk to (t_tm (m m_kept_ 46)) ((R_K (m m_kept_)).length : Int)) := r_m_ok hm
  have hn := hK.1
  have tq := t_tmr hn
  have lp : ∀ (r : Nat) (i : Int), (m m_kept_ 46 - 1) < i + r → (0 ≤ i ∧ i ≤ (m m_kept_ 46 - 1)) → cw_R (d + 2) k_M_depth 38 [vr m_, vi rd, vi j, vi (6 * t), vi (d_s (m m_kept_ 46 - 1) t j i.toNat), vi i] [] (r_m m lo hi mk to (t_tm (m m_kept_ 46)) ((R_K (m m_kept_)).length : Int)) Q := by
    intro r
    induction r with
    | zero =>
      intro i hr hi'
      omega
    | succ r ih =>
      intro i hr hi'
      have li : i < (m m_kept_ 46 - 1) → lo (6 * t + i) = t_lo (m m_kept_ 46 - 1) t i ∧ hi (6 * t + i) = t_hi (m m_kept_ 46 - 1) t i := fun q => hL t i (by omega) (by omega) hi'.1 q
      have lj := hL t j (by omega) (by omega) hj.1 hj.2
      have ds := d_sr (n := (m m_kept_ 46 - 1)) (t := t) (j := j) i.toNat
      refine la_go_R hm2 43 [38] ?_
      show cw_C _ _ [vr m_] (r_m m lo hi mk to (t_tm (m m_kept_ 46)) ((R_K (m m_kept_)).length : Int)) _
      refine M_joinMany hm2 hn ⟨hm2, ?_⟩
      refine And.intro (fun (c21 : max 0 (m m_kept_ 46 - 1) ≤ i) => ?_) (fun (c21 : ¬ (max 0 (m m_kept_ 46 - 1) ≤ i)) => ?_)
      · show Q (some (vi (d_s (m m_kept_ 46 - 1) t j i.toNat))) (r_m m lo hi mk to (t_tm (m m_kept_ 46)) ((R_K (m m_kept_)).length : Int))
        rw [show i.toNat = (m m_kept_ 46 - 1).toNat by omega, d_sn (by omega), d_dp (by omega) (by omega) hj]
        exact h
      · refine And.intro (fun (c22 : i = j) => ?_) (fun (c22 : ¬ (i = j)) => ?_)
        · refine And.intro (show -2147483648 ≤ (d_s (m m_kept_ 46 - 1) t j i.toNat) + 0 ∧ (d_s (m m_kept_ 46 - 1) t j i.toNat) + 0 < 2147483648 by omega) ?_
          refine And.intro (show -2147483648 ≤ i + 1 ∧ i + 1 < 2147483648 by omega) ?_
          show cw_R _ _ 38 [vr m_, vi rd, vi j, vi (6 * t), vi ((d_s (m m_kept_ 46 - 1) t j i.toNat) + 0), vi (i + 1)] [] (r_m m lo hi mk to (t_tm (m m_kept_ 46)) ((R_K (m m_kept_)).length : Int)) _
          rw [d_s1 hi'.1 (by unfold d_c; rw [if_neg (by omega)])]
          exact ih (i + 1) (by omega) (by omega)
        · refine And.intro (show -2147483648 ≤ (6 * t) + i ∧ (6 * t) + i < 2147483648 by omega) ?_
          refine And.intro (show 0 ≤ (6 * t) + i ∧ (6 * t) + i < 792 by omega) ?_
          refine And.intro (show -2147483648 ≤ (6 * t) + j ∧ (6 * t) + j < 2147483648 by omega) ?_
          refine And.intro (show 0 ≤ (6 * t) + j ∧ (6 * t) + j < 792 by omega) ?_
          refine And.intro (fun (c23 : lo ((6 * t) + j) < lo ((6 * t) + i)) => ?_) (fun (c23 : ¬ (lo ((6 * t) + j) < lo ((6 * t) + i))) => ?_)
          · refine And.intro (show -2147483648 ≤ (d_s (m m_kept_ 46 - 1) t j i.toNat) + 0 ∧ (d_s (m m_kept_ 46 - 1) t j i.toNat) + 0 < 2147483648 by omega) ?_
            refine And.intro (show -2147483648 ≤ i + 1 ∧ i + 1 < 2147483648 by omega) ?_
            show cw_R _ _ 38 [vr m_, vi rd, vi j, vi (6 * t), vi ((d_s (m m_kept_ 46 - 1) t j i.toNat) + 0), vi (i + 1)] [] (r_m m lo hi mk to (t_tm (m m_kept_ 46)) ((R_K (m m_kept_)).length : Int)) _
            rw [d_s1 hi'.1 (by unfold d_c; rw [if_neg (by omega)])]
            exact ih (i + 1) (by omega) (by omega)
          · refine And.intro (show -2147483648 ≤ (6 * t) + i ∧ (6 * t) + i < 2147483648 by omega) ?_
            refine And.intro (show 0 ≤ (6 * t) + i ∧ (6 * t) + i < 792 by omega) ?_
            refine And.intro (show -2147483648 ≤ (6 * t) + j ∧ (6 * t) + j < 2147483648 by omega) ?_
            refine And.intro (show 0 ≤ (6 * t) + j ∧ (6 * t) + j < 792 by omega) ?_
            refine And.intro (fun (c24 : hi ((6 * t) + i) < hi ((6 * t) + j)) => ?_) (fun (c24 : ¬ (hi ((6 * t) + i) < hi ((6 * t) + j))) => ?_)
            · refine And.intro (show -2147483648 ≤ (d_s (m m_kept_ 46 - 1) t j i.toNat) + 0 ∧ (d_s (m m_kept_ 46 - 1) t j i.toNat) + 0 < 2147483648 by omega) ?_
              refine And.intro (show -2147483648 ≤ i + 1 ∧ i + 1 < 2147483648 by omega) ?_
              show cw_R _ _ 38 [vr m_, vi rd, vi j, vi (6 * t), vi ((d_s (m m_kept_ 46 - 1) t j i.toNat) + 0), vi (i + 1)] [] (r_m m lo hi mk to (t_tm (m m_kept_ 46)) ((R_K (m m_kept_)).length : Int)) _
              rw [d_s1 hi'.1 (by unfold d_c; rw [if_neg (by omega)])]
              exact ih (i + 1) (by omega) (by omega)
            · refine And.intro (show -2147483648 ≤ (d_s (m m_kept_ 46 - 1) t j i.toNat) + 1 ∧ (d_s (m m_kept_ 46 - 1) t j i.toNat) + 1 < 2147483648 by omega) ?_
              refine And.intro (show -2147483648 ≤ i + 1 ∧ i + 1 < 2147483648 by omega) ?_
              show cw_R _ _ 38 [vr m_, vi rd, vi j, vi (6 * t), vi ((d_s (m m_kept_ 46 - 1) t j i.toNat) + 1), vi (i + 1)] [] (r_m m lo hi mk to (t_tm (m m_kept_ 46)) ((R_K (m m_kept_)).length : Int)) _
              rw [d_s1 hi'.1 (by unfold d_c; rw [if_pos (by omega)])]
              exact ih (i + 1) (by omega) (by omega)
  exact lp 7 0 (by omega) (by omega)
theorem M_depth {d : Nat} {m : cw_M} {Q : Option cw_V → cw_M → Prop} (hm : la_ok m) (hc : ∀ j, 0 ≤ j → j < 7 → m m_catalan_ j = t_c j) (hK : K_r (m m_kept_)) {rd j : Int} (h : ∀ M, la_ok M → S_f m M → Q (some (vi (q_dep (m m_kept_) rd j))) M) : cw_C (d + 9) k_M_depth [vr m_, vi rd, vi j] m Q := by
  refine la_go_C hm 24 [38] ?_
  show cw_C _ _ [vr m_] (m) _
  refine M_laysReadings hm hc hK.1 (fun lo hi mk to hL hmk hto => ⟨(r_m_ok hm), ?_⟩)
  show cw_C _ _ [vr m_, vi rd] (r_m m lo hi mk to (t_tm (m m_kept_ 46)) ((R_K (m m_kept_)).length : Int)) _
  refine M_isNumber (r_m_ok hm) (by show 0 ≤ ((R_K (m m_kept_)).length : Int) ∧ ((R_K (m m_kept_)).length : Int) ≤ 132; have rr := (R_Kr hK).1; omega) (fun (a0 : 0 ≤ rd) (a1 : rd < ((R_K (m m_kept_)).length : Int)) => ⟨(r_m_ok hm), ?_⟩) (fun (a0 : ¬ (0 ≤ rd ∧ rd < ((R_K (m m_kept_)).length : Int))) => ⟨(r_m_ok hm), ?_⟩)
  · have r1 := (R_Kr hK).2 rd a0 a1
    have r2 := (R_Kr hK).1
    have et : to rd = t_g (R_K (m m_kept_)) rd := hto rd a0 a1
    refine br_f (show ¬ ((1 : Int) = 0) by decide) ?_
    show cw_C _ _ [vr m_, vi j] (r_m m lo hi mk to (t_tm (m m_kept_ 46)) ((R_K (m m_kept_)).length : Int)) _
    refine M_isJoin (r_m_ok hm) hK.1 (fun (j0 : 0 ≤ j) (j1 : j < m m_kept_ 46 - 1) => ⟨(r_m_ok hm), ?_⟩) (fun (j0 : ¬ (0 ≤ j ∧ j < m m_kept_ 46 - 1)) => ⟨(r_m_ok hm), ?_⟩)
    · refine br_t (show (1 : Int) ≠ 0 by decide) ?_
      refine And.intro (show 0 ≤ rd ∧ rd < 132 by omega) ?_
      refine And.intro (show -2147483648 ≤ 6 * (to rd) ∧ 6 * (to rd) < 2147483648 by have e2 : to rd = t_g (R_K (m m_kept_)) rd := hto rd a0 a1; omega) ?_
      show cw_R _ _ 38 [vr m_, vi rd, vi j, vi (6 * (to rd)), vi 0, vi 0] [] (r_m m lo hi mk to (t_tm (m m_kept_ 46)) ((R_K (m m_kept_)).length : Int)) _
      have e : q_dep (m m_kept_) rd j = t_dp (m m_kept_ 46 - 1) (to rd) j := by unfold q_dep; rw [if_pos (by omega), hto rd a0 a1]; rfl
      rw [e] at h
      have er := hto rd a0 a1
      exact M_depth38 hm hK hL (by rw [er]; exact r1.1) ⟨j0, j1⟩ (h _ (r_m_ok hm) S_fR)
    · refine br_f (show ¬ ((0 : Int) ≠ 0) by decide) ?_
      show Q (some (vi (-1))) (r_m m lo hi mk to (t_tm (m m_kept_ 46)) ((R_K (m m_kept_)).length : Int))
      have e : q_dep (m m_kept_) rd j = -1 := by unfold q_dep; rw [if_neg (by omega)]
      rw [e] at h
      exact h _ (r_m_ok hm) S_fR
  · refine br_t (show (0 : Int) = 0 by decide) ?_
    show Q (some (vi (-1))) (r_m m lo hi mk to (t_tm (m m_kept_ 46)) ((R_K (m m_kept_)).length : Int))
    have e : q_dep (m m_kept_) rd j = -1 := by unfold q_dep; rw [if_neg (by omega)]
    rw [e] at h
    exact h _ (r_m_ok hm) S_fR
theorem M_isBarredM {d : Nat} {m : cw_M} {Q : Option cw_V → cw_M → Prop} (hm : la_ok m) (hK : K_r (m m_kept_)) {p : Int} (h5 : 0 ≤ p ∧ p < 6) (h1 : ∀ M, la_ok M → S_f m M → 0 < l_br (m m_kept_) (m m_kept_ 50) (m m_kept_ 18) p → Q (some (vi 1)) M) (h0 : ∀ M, la_ok M → S_f m M → ¬ 0 < l_br (m m_kept_) (m m_kept_ 50) (m m_kept_ 18) p → Q (some (vi 0)) M) : cw_C (d + 77) k_M_isBarred [vr m_, vi p] m Q := by
  have h := M_isBarred (d := d) (Q := Q) (as := m m_asked_) (wd := m m_would_) (gt := m m_got_) (ga := m m_ 22) (gb := m m_ 23) (gc := m m_ 24) (gd := m m_ 25) hm hK h5 (fun as ga gb gc gd q => h1 _ (g_m_ok hm) S_fG q) (fun as ga gb gc gd q => h0 _ (g_m_ok hm) S_fG q)
  rw [g_m_self] at h
  exact h
theorem M_of {d : Nat} {m : cw_M} {Q : Option cw_V → cw_M → Prop} (hm : la_ok m) (hc : ∀ j, 0 ≤ j → j < 7 → m m_catalan_ j = t_c j) (hK : K_r (m m_kept_)) {p w : Int} (h : ∀ M, la_ok M → S_f m M → Q (some (vi (q_of (m m_kept_) p w))) M) : cw_C (d + 78) k_M_of [vr m_, vi p, vi w] m Q := by
  refine la_go_C hm 8 [10] ?_
  show cw_C _ _ [vi p] (m) _
  refine M_isPerson (fun (p0 : 0 ≤ p) (p1 : p ≤ 5) => ⟨hm, ?_⟩) (fun (p0 : ¬ (0 ≤ p ∧ p ≤ 5)) => ⟨hm, ?_⟩)
  · refine br_t (show (1 : Int) ≠ 0 by decide) ?_
    refine la_ts rfl ?_
    by_cases hx0 : w = 0
    · rw [show cw_ts 10 56 0 2 #[26, 36, 42] w = _ by rw [hx0]]
      show cw_R _ _ 36 _ _ _ _
      refine la_go_R hm 10 [10] ?_
      refine And.intro (show -2147483648 ≤ 12 + p ∧ 12 + p < 2147483648 by omega) ?_
      refine And.intro (show 0 ≤ 12 + p ∧ 12 + p < 5658 by omega) ?_
      show Q (some (vi (m m_kept_ (12 + p)))) (m)
      have e : q_of (m m_kept_) p w = m m_kept_ (12 + p) := by
        unfold q_of
        first | (rw [if_neg (by omega)]) | (rw [if_pos (by omega), if_pos (by omega)]) | (rw [if_pos (by omega), if_neg (by omega), if_pos (by omega)]) | (rw [if_pos (by omega), if_neg (by omega), if_neg (by omega), if_pos (by omega)]; first | rw [if_pos b0] | rw [if_neg b0]) | (rw [if_pos (by omega), if_neg (by omega), if_neg (by omega), if_neg (by omega)])
      rw [e] at h
      exact h m hm S_fr
    by_cases hx1 : w = 1
    · rw [show cw_ts 10 56 0 2 #[26, 36, 42] w = _ by rw [hx1]]
      show cw_R _ _ 46 _ _ _ _
      refine la_go_R hm 7 [10] ?_
      show cw_C _ _ [vr m_, vi p] (m) _
      refine M_timesOf hm hK.1 ⟨hm, ?_⟩
      show Q (some (vi (f_cnt (fun i => m m_kept_ (19 + i)) p (m m_kept_ 46).toNat))) (m)
      have e : q_of (m m_kept_) p w = f_cnt (fun i => m m_kept_ (19 + i)) p (m m_kept_ 46).toNat := by
        unfold q_of
        first | (rw [if_neg (by omega)]) | (rw [if_pos (by omega), if_pos (by omega)]) | (rw [if_pos (by omega), if_neg (by omega), if_pos (by omega)]) | (rw [if_pos (by omega), if_neg (by omega), if_neg (by omega), if_pos (by omega)]; first | rw [if_pos b0] | rw [if_neg b0]) | (rw [if_pos (by omega), if_neg (by omega), if_neg (by omega), if_neg (by omega)])
      rw [e] at h
      exact h m hm S_fr
    by_cases hx2 : w = 2
    · rw [show cw_ts 10 56 0 2 #[26, 36, 42] w = _ by rw [hx2]]
      show cw_R _ _ 52 _ _ _ _
      refine la_go_R hm 10 [10] ?_
      show cw_C _ _ [vr m_, vi p] (m) _
      refine M_isBarredM hm hK (by omega) (fun (M : cw_M) (hM : la_ok M) (hS : S_f m M) (b0 : 0 < l_br (m m_kept_) (m m_kept_ 50) (m m_kept_ 18) p) => ⟨hM, ?_⟩) (fun (M : cw_M) (hM : la_ok M) (hS : S_f m M) (b0 : ¬ 0 < l_br (m m_kept_) (m m_kept_ 50) (m m_kept_ 18) p) => ⟨hM, ?_⟩)
      · refine br_f (show ¬ ((1 : Int) = 0) by decide) ?_
        show Q (some (vi 1)) (M)
        have e : q_of (m m_kept_) p w = 1 := by
          unfold q_of
          first | (rw [if_neg (by omega)]) | (rw [if_pos (by omega), if_pos (by omega)]) | (rw [if_pos (by omega), if_neg (by omega), if_pos (by omega)]) | (rw [if_pos (by omega), if_neg (by omega), if_neg (by omega), if_pos (by omega)]; first | rw [if_pos b0] | rw [if_neg b0]) | (rw [if_pos (by omega), if_neg (by omega), if_neg (by omega), if_neg (by omega)])
        rw [e] at h
        exact h M hM hS
      · refine br_t (show (0 : Int) = 0 by decide) ?_
        show Q (some (vi 0)) (M)
        have e : q_of (m m_kept_) p w = 0 := by
          unfold q_of
          first | (rw [if_neg (by omega)]) | (rw [if_pos (by omega), if_pos (by omega)]) | (rw [if_pos (by omega), if_neg (by omega), if_pos (by omega)]) | (rw [if_pos (by omega), if_neg (by omega), if_neg (by omega), if_pos (by omega)]; first | rw [if_pos b0] | rw [if_neg b0]) | (rw [if_pos (by omega), if_neg (by omega), if_neg (by omega), if_neg (by omega)])
        rw [e] at h
        exact h M hM hS
    rw [la_tsd (by omega)]
    show cw_R _ _ 66 _ _ _ _
    refine la_go_R hm 5 [10] ?_
    show Q (some (vi (-1))) (m)
    have e : q_of (m m_kept_) p w = (-1) := by
      unfold q_of
      first | (rw [if_neg (by omega)]) | (rw [if_pos (by omega), if_pos (by omega)]) | (rw [if_pos (by omega), if_neg (by omega), if_pos (by omega)]) | (rw [if_pos (by omega), if_neg (by omega), if_neg (by omega), if_pos (by omega)]; first | rw [if_pos b0] | rw [if_neg b0]) | (rw [if_pos (by omega), if_neg (by omega), if_neg (by omega), if_neg (by omega)])
    rw [e] at h
    exact h m hm S_fr
  · refine br_f (show ¬ ((0 : Int) ≠ 0) by decide) ?_
    show Q (some (vi (-1))) (m)
    have e : q_of (m m_kept_) p w = (-1) := by
      unfold q_of
      first | (rw [if_neg (by omega)]) | (rw [if_pos (by omega), if_pos (by omega)]) | (rw [if_pos (by omega), if_neg (by omega), if_pos (by omega)]) | (rw [if_pos (by omega), if_neg (by omega), if_neg (by omega), if_pos (by omega)]; first | rw [if_pos b0] | rw [if_neg b0]) | (rw [if_pos (by omega), if_neg (by omega), if_neg (by omega), if_neg (by omega)])
    rw [e] at h
    exact h m hm S_fr
