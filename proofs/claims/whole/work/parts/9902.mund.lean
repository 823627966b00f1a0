/-! What can be undone, images, the tape, by the reference (wip/whole/tools/m102.py). -/
def kp_s (L : Int → Int) (un : Int) : Int → Int := if un = 16 then (fun i => if 0 ≤ i ∧ i < 300 then L (i + 20) else L i) else L
def kp_n (un : Int) : Int := if un = 16 then 15 else un
def kp_l (L : Int → Int) (un : Int) (K : Int → Int) (what : Int) : Int → Int := cw_up (t_w (kp_s L un) (20 * kp_n un) 0 19 K) (20 * kp_n un + 19) what
def kp_m (m : cw_M) (what : Int) : cw_M := cw_put (cw_row m m_left0_ (kp_l (m m_left0_) (m m_ 44) (m m_kept_) what)) m_ 44 (kp_n (m m_ 44) + 1)
theorem kp_ok {m : cw_M} {w : Int} (hm : la_ok m) : la_ok (kp_m m w) := la_put (la_row hm (by decide) (by decide)) (by decide) (Or.inl rfl)
def mk_c (K : Int → Int) (j x : Int) : Int := if ¬ (0 ≤ x ∧ x ≤ 3) then -1 else if ¬ (0 ≤ j ∧ j < K 46 - 1) then -2 else if K j = x then -3 else 0
def tn_c (K : Int → Int) (j x : Int) : Int := if ¬ (0 ≤ x ∧ x ≤ 2) then -1 else if ¬ (0 ≤ j ∧ j < K 46 - 1) then -2 else if K (6 + j) = x then -3 else 0
def di_c (K : Int → Int) (p : Int) : Int := if ¬ (0 ≤ p ∧ p ≤ 5) then -1 else if K (12 + p) = 0 then -3 else 0
def pa_c (K : Int → Int) : Int := if K 18 = 999 then -3 else 0
theorem mk_cr {K : Int → Int} {j x : Int} : -3 ≤ mk_c K j x ∧ mk_c K j x ≤ 0 := by unfold mk_c; (repeat' split) <;> omega
theorem tn_cr {K : Int → Int} {j x : Int} : -3 ≤ tn_c K j x ∧ tn_c K j x ≤ 0 := by unfold tn_c; (repeat' split) <;> omega
theorem di_cr {K : Int → Int} {p : Int} : -3 ≤ di_c K p ∧ di_c K p ≤ 0 := by unfold di_c; (repeat' split) <;> omega
theorem pa_cr {K : Int → Int} : -3 ≤ pa_c K ∧ pa_c K ≤ 0 := by unfold pa_c; split <;> omega
def l_vn (K : Int → Int) : Int := K 12 + K 13 + K 14 + K 15 + K 16 + K 17
def ml_m (m : cw_M) (f : Int → Int) : cw_M := cw_row m m_left0_ f
theorem ml_ok {m : cw_M} {f : Int → Int} (hm : la_ok m) : la_ok (ml_m m f) := la_row hm (by decide) (by decide)
theorem ml_p {m : cw_M} {f : Int → Int} {i v : Int} : cw_put (ml_m m f) m_left0_ i v = ml_m m (cw_up f i v) := cw_row_put
theorem ml_self {m : cw_M} : ml_m m (m m_left0_) = m := cw_row_self
theorem ml_c {m : cw_M} {f : Int → Int} {j v : Int} : cw_put (ml_m m f) m_ j v = ml_m (cw_put m m_ j v) f := cw_put_rowc (by decide)
theorem t_w0s {old g : Int → Int} {k : Int} (hk : 0 ≤ k) : cw_up (t_w old 0 0 k g) k (g k) = t_w old 0 0 (k + 1) g := by
  have e := t_w_s (old := old) (b := 0) (k := k) (g := g) hk
  rw [show (0 : Int) + k = k by omega] at e
  exact e
theorem M_keeps54 {d : Nat} {m : cw_M} {Q : Option cw_V → cw_M → Prop} (hm : la_ok m) {what u : Int} (hu : 0 ≤ u ∧ u ≤ 15) {L : Int → Int} {w3 : cw_V} (h : Q none (ml_m (cw_put m m_ 44 (u + 1)) (cw_up (t_w L (20 * u) 0 19 (m m_kept_)) (20 * u + 19) what))) : cw_R d k_M_keeps 54 [vr m_, vi what, vi 20, vi 0] [] (ml_m (cw_put m m_ 44 u) L) Q := by
  have lp : ∀ (r : Nat) (k : Int), 19 < k + r → (0 ≤ k ∧ k ≤ 19) → cw_R (d) k_M_keeps 54 [vr m_, vi what, vi 20, vi k] [] (ml_m (cw_put m m_ 44 u) (t_w L (20 * u) 0 k (m m_kept_))) Q := by
    intro r
    induction r with
    | zero =>
      intro k hr hk
      omega
    | succ r ih =>
      intro k hr hk
      have hm2 : la_ok (ml_m (cw_put m m_ 44 u) (t_w L (20 * u) 0 k (m m_kept_))) := ml_ok (la_put hm (by decide) (Or.inl rfl))
      refine la_go_R hm2 23 [54] ?_
      refine And.intro (fun (c21 : 19 ≤ k) => ?_) (fun (c21 : ¬ (19 ≤ k)) => ?_)
      · refine And.intro (show -2147483648 ≤ 20 * u ∧ 20 * u < 2147483648 by omega) ?_
        refine And.intro (show -2147483648 ≤ (20 * u) + 19 ∧ (20 * u) + 19 < 2147483648 by omega) ?_
        refine And.intro (show 0 ≤ (20 * u) + 19 ∧ (20 * u) + 19 < 320 by omega) ?_
        have hm22 : la_ok (cw_put (ml_m (cw_put m m_ 44 u) (t_w L (20 * u) 0 k (m m_kept_))) m_left0_ ((20 * u) + 19) what) := la_put hm2 (by decide) (Or.inr (by decide))
        refine And.intro (show -2147483648 ≤ u + 1 ∧ u + 1 < 2147483648 by omega) ?_
        have hm23 : la_ok (cw_put (cw_put (ml_m (cw_put m m_ 44 u) (t_w L (20 * u) 0 k (m m_kept_))) m_left0_ ((20 * u) + 19) what) m_ 44 (u + 1)) := la_put hm22 (by decide) (Or.inl rfl)
        show Q none (cw_put (cw_put (ml_m (cw_put m m_ 44 u) (t_w L (20 * u) 0 k (m m_kept_))) m_left0_ ((20 * u) + 19) what) m_ 44 (u + 1))
        rw [ml_p, ml_c, cw_put_put, show k = 19 by omega]
        exact h
      · refine And.intro (show -2147483648 ≤ 20 * u ∧ 20 * u < 2147483648 by omega) ?_
        refine And.intro (show -2147483648 ≤ (20 * u) + k ∧ (20 * u) + k < 2147483648 by omega) ?_
        refine And.intro (show 0 ≤ k ∧ k < 5658 by omega) ?_
        refine And.intro (show 0 ≤ (20 * u) + k ∧ (20 * u) + k < 320 by omega) ?_
        have hm24 : la_ok (cw_put (ml_m (cw_put m m_ 44 u) (t_w L (20 * u) 0 k (m m_kept_))) m_left0_ ((20 * u) + k) (m m_kept_ k)) := la_put hm2 (by decide) (Or.inr (by decide))
        refine And.intro (show -2147483648 ≤ k + 1 ∧ k + 1 < 2147483648 by omega) ?_
        show cw_R _ _ 54 [vr m_, vi what, vi 20, vi (k + 1)] [] (cw_put (ml_m (cw_put m m_ 44 u) (t_w L (20 * u) 0 k (m m_kept_))) m_left0_ ((20 * u) + k) (m m_kept_ k)) _
        rw [ml_p, t_w_s hk.1]
        exact ih (k + 1) (by omega) (by omega)
  have e : L = t_w L (20 * u) 0 0 (m m_kept_) := t_w0.symm
  rw [e]
  exact lp 20 0 (by omega) (by omega)
theorem M_keeps {d : Nat} {m : cw_M} {Q : Option cw_V → cw_M → Prop} (hm : la_ok m) {what : Int} (hun : 0 ≤ m m_ 44 ∧ m m_ 44 ≤ 16) (h : Q none (kp_m m what)) : cw_C d k_M_keeps [vr m_, vi what] m Q := by
  have lp : m m_ 44 = 16 → ∀ (r : Nat) (k : Int), 300 < k + r → (0 ≤ k ∧ k ≤ 300) → cw_R (d) k_M_keeps 14 [vr m_, vi what, vi 20, vi k] [] (ml_m m (fun i => if 0 ≤ i ∧ i < k then m m_left0_ (i + 20) else m m_left0_ i)) Q := by
    intro hu r
    induction r with
    | zero =>
      intro k hr hk
      omega
    | succ r ih =>
      intro k hr hk
      have hm2 : la_ok (ml_m m (fun i => if 0 ≤ i ∧ i < k then m m_left0_ (i + 20) else m m_left0_ i)) := ml_ok hm
      refine la_go_R hm2 20 [14, 54] ?_
      refine And.intro (show -2147483648 ≤ 300 ∧ 300 < 2147483648 by omega) ?_
      refine And.intro (fun (c21 : 300 ≤ k) => ?_) (fun (c21 : ¬ (300 ≤ k)) => ?_)
      · refine And.intro (show -2147483648 ≤ (m m_ 44) - 1 ∧ (m m_ 44) - 1 < 2147483648 by omega) ?_
        have hm22 : la_ok (cw_put (ml_m m (fun i => if 0 ≤ i ∧ i < k then m m_left0_ (i + 20) else m m_left0_ i)) m_ 44 ((m m_ 44) - 1)) := la_put hm2 (by decide) (Or.inl rfl)
        show cw_R _ _ 54 [vr m_, vi what, vi 20, vi 0] [] (cw_put (ml_m m (fun i => if 0 ≤ i ∧ i < k then m m_left0_ (i + 20) else m m_left0_ i)) m_ 44 ((m m_ 44) - 1)) _
        rw [ml_c, show m m_ 44 - 1 = 15 by omega]
        refine M_keeps54 hm (by decide) (w3 := none) ?_
        have e : kp_m m what = ml_m (cw_put m m_ 44 (15 + 1)) (cw_up (t_w (fun i => if 0 ≤ i ∧ i < k then m m_left0_ (i + 20) else m m_left0_ i) (20 * 15) 0 19 (m m_kept_)) (20 * 15 + 19) what) := by
          have e1 : kp_n (m m_ 44) = 15 := by unfold kp_n; rw [if_pos hu]
          unfold kp_m kp_l kp_s ml_m
          rw [e1, if_pos hu, show k = 300 by omega, cw_put_rowc (by decide)]
        rw [← e]
        exact h
      · refine And.intro (show -2147483648 ≤ k + 20 ∧ k + 20 < 2147483648 by omega) ?_
        refine And.intro (show 0 ≤ k + 20 ∧ k + 20 < 320 by omega) ?_
        refine And.intro (show 0 ≤ k ∧ k < 320 by omega) ?_
        have hm23 : la_ok (cw_put (ml_m m (fun i => if 0 ≤ i ∧ i < k then m m_left0_ (i + 20) else m m_left0_ i)) m_left0_ k ((fun i => if 0 ≤ i ∧ i < k then m m_left0_ (i + 20) else m m_left0_ i) (k + 20))) := la_put hm2 (by decide) (Or.inr (by decide))
        refine And.intro (show -2147483648 ≤ k + 1 ∧ k + 1 < 2147483648 by omega) ?_
        show cw_R _ _ 14 [vr m_, vi what, vi 20, vi (k + 1)] [] (cw_put (ml_m m (fun i => if 0 ≤ i ∧ i < k then m m_left0_ (i + 20) else m m_left0_ i)) m_left0_ k ((fun i => if 0 ≤ i ∧ i < k then m m_left0_ (i + 20) else m m_left0_ i) (k + 20))) _
        have e : (cw_up (fun i => if 0 ≤ i ∧ i < k then m m_left0_ (i + 20) else m m_left0_ i) k (m m_left0_ (k + 20))) = (fun i => if 0 ≤ i ∧ i < (k + 1) then m m_left0_ (i + 20) else m m_left0_ i) := by
          funext i
          by_cases q : i = k
          · rw [q, cw_up_eq, if_pos (by omega)]
          · rw [cw_up_ne q]
            show (if 0 ≤ i ∧ i < k then m m_left0_ (i + 20) else m m_left0_ i) = (if 0 ≤ i ∧ i < k + 1 then m m_left0_ (i + 20) else m m_left0_ i)
            by_cases q2 : 0 ≤ i ∧ i < k
            · rw [if_pos q2, if_pos (by omega)]
            · rw [if_neg q2, if_neg (by omega)]
        have e2 : (fun i => if 0 ≤ i ∧ i < k then m m_left0_ (i + 20) else m m_left0_ i) (k + 20) = m m_left0_ (k + 20) := by
          show (if 0 ≤ k + 20 ∧ k + 20 < k then _ else _) = _
          rw [if_neg (by omega)]
        rw [ml_p, e2, e]
        exact ih (k + 1) (by omega) (by omega)
  refine la_go_C hm 11 [14, 54] ?_
  refine And.intro (fun (c21 : m m_ 44 ≠ 16) => ?_) (fun (c21 : ¬ (m m_ 44 ≠ 16)) => ?_)
  · have hu : m m_ 44 ≠ 16 := c21
    show cw_R _ _ 54 [vr m_, vi what, vi 20, vi 0] [] (m) _
    refine la_go_R0 (m' := ml_m (cw_put m m_ 44 (m m_ 44)) (m m_left0_)) (by rw [cw_put_self rfl, ml_self]) ?_
    refine M_keeps54 hm (by omega) (w3 := none) ?_
    have e : kp_m m what = ml_m (cw_put m m_ 44 (m m_ 44 + 1)) (cw_up (t_w (m m_left0_) (20 * m m_ 44) 0 19 (m m_kept_)) (20 * m m_ 44 + 19) what) := by
      have e1 : kp_n (m m_ 44) = m m_ 44 := by unfold kp_n; rw [if_neg hu]
      unfold kp_m kp_l kp_s ml_m
      rw [e1, if_neg hu, cw_put_rowc (by decide)]
    rw [← e]
    exact h
  · have hu : m m_ 44 = 16 := by omega
    show cw_R _ _ 14 [vr m_, vi what, vi 20, vi 0] [] (m) _
    have e0 : m = ml_m m (fun i => if 0 ≤ i ∧ i < 0 then m m_left0_ (i + 20) else m m_left0_ i) := by
      have e : (fun i => if 0 ≤ i ∧ i < 0 then m m_left0_ (i + 20) else m m_left0_ i) = m m_left0_ := by
        funext i
        show (if 0 ≤ i ∧ i < 0 then _ else _) = _
        rw [if_neg (by omega)]
      rw [e, ml_self]
    refine la_go_R0 e0 ?_
    exact lp hu 301 0 (by omega) (by omega)
theorem kp_k {m : cw_M} {w i v : Int} : cw_put (kp_m m w) m_kept_ i v = kr_m (kp_m m w) (cw_up (m m_kept_) i v) := by rw [kr_p]; rfl
theorem M_readingsS {d : Nat} {m : cw_M} {Q : Option cw_V → cw_M → Prop} (hm : la_ok m) (hc : ∀ j, 0 ≤ j → j < 7 → m m_catalan_ j = t_c j) (hn : 0 ≤ m m_kept_ 46 ∧ m m_kept_ 46 ≤ 7) (h : ∀ M, la_ok M → S_f m M → Q (some (vi ((R_K (m m_kept_)).length : Int))) M) : cw_C (d + 9) k_M_readings [vr m_] m Q := M_readings hm hc hn (fun lo hi mk to _ _ _ => h _ (r_m_ok hm) S_fR)
theorem M_readingsK {d : Nat} {m : cw_M} {Q : Option cw_V → cw_M → Prop} (hm : la_ok m) (hc : ∀ j, 0 ≤ j → j < 7 → m m_catalan_ j = t_c j) (hn : 0 ≤ m m_kept_ 46 ∧ m m_kept_ 46 ≤ 7) {j x : Int} (hj : j ≠ 46) (h : ∀ M, la_ok M → S_f (kr_m (kp_m m 0) (cw_up (m m_kept_) j x)) M → Q (some (vi ((R_K (cw_up (m m_kept_) j x)).length : Int))) M) : cw_C (d + 9) k_M_readings [vr m_] (kr_m (kp_m m 0) (cw_up (m m_kept_) j x)) Q := by
  have ek : (kr_m (kp_m m 0) (cw_up (m m_kept_) j x)) m_kept_ = cw_up (m m_kept_) j x := kr_k
  refine M_readingsS (kr_ok (kp_ok hm)) hc (by rw [ek, cw_up_ne (fun q => hj q.symm)]; exact hn) (fun M a b => ?_)
  rw [ek]; exact h M a b
theorem M_marksKept {d : Nat} {m : cw_M} {Q : Option cw_V → cw_M → Prop} (hm : la_ok m) (hc : ∀ j, 0 ≤ j → j < 7 → m m_catalan_ j = t_c j) (hn : 0 ≤ m m_kept_ 46 ∧ m m_kept_ 46 ≤ 7) (hun : 0 ≤ m m_ 44 ∧ m m_ 44 ≤ 16) {j x : Int} (h1 : mk_c (m m_kept_) j x = 0 → ∀ M, la_ok M → S_f (kr_m (kp_m m 0) (cw_up (m m_kept_) j x)) M → Q (some (vi ((R_K (cw_up (m m_kept_) j x)).length : Int))) M) (h0 : mk_c (m m_kept_) j x < 0 → Q (some (vi (mk_c (m m_kept_) j x))) m) : cw_C (d + 10) k_M_marksKept [vr m_, vi j, vi x] m Q := by
  refine la_go_C hm 33 [] ?_
  show cw_C _ _ [vi x, vi 0, vi 3] (m) _
  refine M_lies (fun (a21 : 0 ≤ x) (a22 : x ≤ 3) => ⟨hm, ?_⟩) (fun (a23 : ¬ (0 ≤ x ∧ x ≤ 3)) => ⟨hm, ?_⟩)
  · refine br_t (show (1 : Int) ≠ 0 by decide) ?_
    show cw_C _ _ [vr m_, vi j] (m) _
    refine M_isJoin hm hn (fun (j0 : 0 ≤ j) (j1 : j < m m_kept_ 46 - 1) => ⟨hm, ?_⟩) (fun (j0 : ¬ (0 ≤ j ∧ j < m m_kept_ 46 - 1)) => ⟨hm, ?_⟩)
    · refine br_t (show (1 : Int) ≠ 0 by decide) ?_
      refine And.intro (show -2147483648 ≤ 0 + j ∧ 0 + j < 2147483648 by omega) ?_
      refine And.intro (show 0 ≤ 0 + j ∧ 0 + j < 5658 by omega) ?_
      refine And.intro (fun (c24 : m m_kept_ (0 + j) ≠ x) => ?_) (fun (c24 : ¬ (m m_kept_ (0 + j) ≠ x)) => ?_)
      · show cw_C _ _ [vr m_, vi 0] (m) _
        refine M_keeps hm hun ⟨(kp_ok hm), ?_⟩
        refine And.intro (show -2147483648 ≤ 0 + j ∧ 0 + j < 2147483648 by omega) ?_
        refine And.intro (show 0 ≤ 0 + j ∧ 0 + j < 5658 by omega) ?_
        have hm25 : la_ok (cw_put (kp_m m 0) m_kept_ (0 + j) x) := la_put (kp_ok hm) (by decide) (Or.inr (by decide))
        show cw_C _ _ [vr m_] (cw_put (kp_m m 0) m_kept_ (0 + j) x) _
        rw [show (0 : Int) + j = j by omega, kp_k]
        refine M_readingsK hm hc hn (by omega) (fun (M : cw_M) (hM : la_ok M) (hS : S_f (kr_m (kp_m m 0) (cw_up (m m_kept_) j x)) M) => ⟨hM, ?_⟩)
        show Q (some (vi ((R_K (cw_up (m m_kept_) j x)).length : Int))) (M)
        have e : mk_c (m m_kept_) j x = 0 := by unfold mk_c; rw [if_neg (by omega), if_neg (by omega), if_neg (by rw [← show 0 + j = j by omega]; omega)]
        exact h1 e M hM hS
      · show Q (some (vi (-3))) (m)
        have e : mk_c (m m_kept_) j x = -3 := by unfold mk_c; rw [if_neg (by omega), if_neg (by omega), if_pos (by rw [← show 0 + j = j by omega]; omega)]
        rw [← e]
        exact h0 (by omega)
    · refine br_f (show ¬ ((0 : Int) ≠ 0) by decide) ?_
      show Q (some (vi (-2))) (m)
      have e : mk_c (m m_kept_) j x = -2 := by unfold mk_c; rw [if_neg (by omega), if_pos (by omega)]
      rw [← e]
      exact h0 (by omega)
  · refine br_f (show ¬ ((0 : Int) ≠ 0) by decide) ?_
    show Q (some (vi (-1))) (m)
    have e : mk_c (m m_kept_) j x = -1 := by unfold mk_c; rw [if_pos (by omega)]
    rw [← e]
    exact h0 (by omega)
theorem M_turnsKept {d : Nat} {m : cw_M} {Q : Option cw_V → cw_M → Prop} (hm : la_ok m) (hn : 0 ≤ m m_kept_ 46 ∧ m m_kept_ 46 ≤ 7) (hun : 0 ≤ m m_ 44 ∧ m m_ 44 ≤ 16) {j x : Int} (h1 : tn_c (m m_kept_) j x = 0 → Q (some (vi (m m_kept_ (6 + j)))) (kr_m (kp_m m 1) (cw_up (m m_kept_) (6 + j) x))) (h0 : tn_c (m m_kept_) j x < 0 → Q (some (vi (tn_c (m m_kept_) j x))) m) : cw_C (d + 3) k_M_turnsKept [vr m_, vi j, vi x] m Q := by
  refine la_go_C hm 34 [] ?_
  show cw_C _ _ [vi x, vi 0, vi 2] (m) _
  refine M_lies (fun (a21 : 0 ≤ x) (a22 : x ≤ 2) => ⟨hm, ?_⟩) (fun (a23 : ¬ (0 ≤ x ∧ x ≤ 2)) => ⟨hm, ?_⟩)
  · refine br_t (show (1 : Int) ≠ 0 by decide) ?_
    show cw_C _ _ [vr m_, vi j] (m) _
    refine M_isJoin hm hn (fun (j0 : 0 ≤ j) (j1 : j < m m_kept_ 46 - 1) => ⟨hm, ?_⟩) (fun (j0 : ¬ (0 ≤ j ∧ j < m m_kept_ 46 - 1)) => ⟨hm, ?_⟩)
    · refine br_t (show (1 : Int) ≠ 0 by decide) ?_
      refine And.intro (show -2147483648 ≤ 6 + j ∧ 6 + j < 2147483648 by omega) ?_
      refine And.intro (show 0 ≤ 6 + j ∧ 6 + j < 5658 by omega) ?_
      refine And.intro (fun (c24 : m m_kept_ (6 + j) ≠ x) => ?_) (fun (c24 : ¬ (m m_kept_ (6 + j) ≠ x)) => ?_)
      · show cw_C _ _ [vr m_, vi 1] (m) _
        refine M_keeps hm hun ⟨(kp_ok hm), ?_⟩
        refine And.intro (show -2147483648 ≤ 6 + j ∧ 6 + j < 2147483648 by omega) ?_
        refine And.intro (show 0 ≤ 6 + j ∧ 6 + j < 5658 by omega) ?_
        have hm25 : la_ok (cw_put (kp_m m 1) m_kept_ (6 + j) x) := la_put (kp_ok hm) (by decide) (Or.inr (by decide))
        show Q (some (vi (m m_kept_ (6 + j)))) (cw_put (kp_m m 1) m_kept_ (6 + j) x)
        have e : tn_c (m m_kept_) j x = 0 := by unfold tn_c; rw [if_neg (by omega), if_neg (by omega), if_neg (by omega)]
        rw [kp_k]
        exact h1 e
      · show Q (some (vi (-3))) (m)
        have e : tn_c (m m_kept_) j x = -3 := by unfold tn_c; rw [if_neg (by omega), if_neg (by omega), if_pos (by omega)]
        rw [← e]
        exact h0 (by omega)
    · refine br_f (show ¬ ((0 : Int) ≠ 0) by decide) ?_
      show Q (some (vi (-2))) (m)
      have e : tn_c (m m_kept_) j x = -2 := by unfold tn_c; rw [if_neg (by omega), if_pos (by omega)]
      rw [← e]
      exact h0 (by omega)
  · refine br_f (show ¬ ((0 : Int) ≠ 0) by decide) ?_
    show Q (some (vi (-1))) (m)
    have e : tn_c (m m_kept_) j x = -1 := by unfold tn_c; rw [if_pos (by omega)]
    rw [← e]
    exact h0 (by omega)
theorem M_livingK {d : Nat} {m : cw_M} {Q : Option cw_V → cw_M → Prop} (hm : la_ok m) (hlv : ∀ p, 0 ≤ p → p < 6 → m m_kept_ (12 + p) = 0 ∨ m m_kept_ (12 + p) = 1) {p : Int} (h : Q (some (vi (l_vn (cw_up (m m_kept_) (12 + p) 0)))) (kr_m (kp_m m 2) (cw_up (m m_kept_) (12 + p) 0))) : cw_C d k_M_livingMany [vr m_] (kr_m (kp_m m 2) (cw_up (m m_kept_) (12 + p) 0)) Q := by
  have ek : (kr_m (kp_m m 2) (cw_up (m m_kept_) (12 + p) 0)) m_kept_ = (cw_up (m m_kept_) (12 + p) 0) := kr_k
  refine M_livingMany (kr_ok (kp_ok hm)) (fun q a b => ?_) ?_
  · rw [ek]
    by_cases e : 12 + q = 12 + p
    · rw [e, cw_up_eq]; exact Or.inl rfl
    · rw [cw_up_ne e]; exact hlv q a b
  · rw [ek]; exact h
theorem M_diesKept {d : Nat} {m : cw_M} {Q : Option cw_V → cw_M → Prop} (hm : la_ok m) (hun : 0 ≤ m m_ 44 ∧ m m_ 44 ≤ 16) (hlv : ∀ p, 0 ≤ p → p < 6 → m m_kept_ (12 + p) = 0 ∨ m m_kept_ (12 + p) = 1) {p : Int} (h1 : di_c (m m_kept_) p = 0 → Q (some (vi (l_vn (cw_up (m m_kept_) (12 + p) 0)))) (kr_m (kp_m m 2) (cw_up (m m_kept_) (12 + p) 0))) (h0 : di_c (m m_kept_) p < 0 → Q (some (vi (di_c (m m_kept_) p))) m) : cw_C (d + 2) k_M_diesKept [vr m_, vi p] m Q := by
  refine la_go_C hm 26 [] ?_
  show cw_C _ _ [vi p] (m) _
  refine M_isPerson (fun (p0 : 0 ≤ p) (p1 : p ≤ 5) => ⟨hm, ?_⟩) (fun (p0 : ¬ (0 ≤ p ∧ p ≤ 5)) => ⟨hm, ?_⟩)
  · refine br_t (show (1 : Int) ≠ 0 by decide) ?_
    refine And.intro (show -2147483648 ≤ 12 + p ∧ 12 + p < 2147483648 by omega) ?_
    refine And.intro (show 0 ≤ 12 + p ∧ 12 + p < 5658 by omega) ?_
    refine And.intro (fun (c21 : m m_kept_ (12 + p) ≠ 0) => ?_) (fun (c21 : ¬ (m m_kept_ (12 + p) ≠ 0)) => ?_)
    · show cw_C _ _ [vr m_, vi 2] (m) _
      refine M_keeps hm hun ⟨(kp_ok hm), ?_⟩
      refine And.intro (show -2147483648 ≤ 12 + p ∧ 12 + p < 2147483648 by omega) ?_
      refine And.intro (show 0 ≤ 12 + p ∧ 12 + p < 5658 by omega) ?_
      have hm22 : la_ok (cw_put (kp_m m 2) m_kept_ (12 + p) 0) := la_put (kp_ok hm) (by decide) (Or.inr (by decide))
      show cw_C _ _ [vr m_] (cw_put (kp_m m 2) m_kept_ (12 + p) 0) _
      rw [kp_k]
      refine M_livingK hm hlv ⟨(kr_ok (kp_ok hm)), ?_⟩
      show Q (some (vi (l_vn (cw_up (m m_kept_) (12 + p) 0)))) (kr_m (kp_m m 2) (cw_up (m m_kept_) (12 + p) 0))
      have e : di_c (m m_kept_) p = 0 := by unfold di_c; rw [if_neg (by omega), if_neg (by omega)]
      exact h1 e
    · show Q (some (vi (-3))) (m)
      have e : di_c (m m_kept_) p = -3 := by unfold di_c; rw [if_neg (by omega), if_pos (by omega)]
      rw [← e]
      exact h0 (by omega)
  · refine br_f (show ¬ ((0 : Int) ≠ 0) by decide) ?_
    show Q (some (vi (-1))) (m)
    have e : di_c (m m_kept_) p = -1 := by unfold di_c; rw [if_pos (by omega)]
    rw [← e]
    exact h0 (by omega)
theorem M_passesKept {d : Nat} {m : cw_M} {Q : Option cw_V → cw_M → Prop} (hm : la_ok m) (hun : 0 ≤ m m_ 44 ∧ m m_ 44 ≤ 16) (hy : 0 ≤ m m_kept_ 18 ∧ m m_kept_ 18 ≤ 999) (h1 : pa_c (m m_kept_) = 0 → Q (some (vi (m m_kept_ 18 + 1))) (kr_m (kp_m m 3) (cw_up (m m_kept_) 18 (m m_kept_ 18 + 1)))) (h0 : pa_c (m m_kept_) < 0 → Q (some (vi (pa_c (m m_kept_)))) m) : cw_C (d + 1) k_M_passesKept [vr m_] m Q := by
  refine la_go_C hm 25 [] ?_
  refine And.intro (show 0 ≤ 18 ∧ 18 < 5658 by omega) ?_
  refine And.intro (fun (c21 : m m_kept_ 18 ≠ 999) => ?_) (fun (c21 : ¬ (m m_kept_ 18 ≠ 999)) => ?_)
  · show cw_C _ _ [vr m_, vi 3] (m) _
    refine M_keeps hm hun ⟨(kp_ok hm), ?_⟩
    refine And.intro (show 0 ≤ 18 ∧ 18 < 5658 by omega) ?_
    refine And.intro (show -2147483648 ≤ (m m_kept_ 18) + 1 ∧ (m m_kept_ 18) + 1 < 2147483648 by omega) ?_
    refine And.intro (show 0 ≤ 18 ∧ 18 < 5658 by omega) ?_
    have hm22 : la_ok (cw_put (kp_m m 3) m_kept_ 18 ((m m_kept_ 18) + 1)) := la_put (kp_ok hm) (by decide) (Or.inr (by decide))
    refine And.intro (show 0 ≤ 18 ∧ 18 < 5658 by omega) ?_
    show Q (some (vi ((m m_kept_ 18) + 1))) (cw_put (kp_m m 3) m_kept_ 18 ((m m_kept_ 18) + 1))
    have e : pa_c (m m_kept_) = 0 := by unfold pa_c; rw [if_neg (by omega)]
    rw [kp_k]
    exact h1 e
  · show Q (some (vi (-3))) (m)
    have e : pa_c (m m_kept_) = -3 := by unfold pa_c; rw [if_pos (by omega)]
    rw [← e]
    exact h0 (by omega)
