/-! Small changes, by the reference (wip/whole/tools/m101.py). -/
def rf_m (m : cw_M) (k : Int) : cw_M := cw_put (cw_put m m_ 0 k) m_refused_ (-k) (m m_refused_ (-k) + 1)
def gd_m (m : cw_M) : cw_M := cw_put m m_ 0 0
def sd_m (m : cw_M) : cw_M := cw_put (cw_put m m_ 44 0) m_ 0 0
theorem rf_ok {m : cw_M} {k : Int} (hm : la_ok m) : la_ok (rf_m m k) := la_put (la_put hm (by decide) (Or.inl rfl)) (by decide) (Or.inr (by decide))
theorem gd_ok {m : cw_M} (hm : la_ok m) : la_ok (gd_m m) := la_put hm (by decide) (Or.inl rfl)
theorem sd_ok {m : cw_M} (hm : la_ok m) : la_ok (sd_m m) := la_put (la_put hm (by decide) (Or.inl rfl)) (by decide) (Or.inl rfl)
/-- so far so few were refused -/
def r_fb (m : cw_M) : Prop := ∀ k, 0 ≤ k → k < 7 → 0 ≤ m m_refused_ k ∧ m m_refused_ k < 1000
def kr_m (m : cw_M) (K : Int → Int) : cw_M := cw_row m m_kept_ K
theorem kr_ok {m : cw_M} {K : Int → Int} (hm : la_ok m) : la_ok (kr_m m K) := la_row hm (by decide) (by decide)
def c_be (K : Int → Int) (k j p : Int) : Prop := (0 ≤ p ∧ p ≤ 5) ∧ (0 ≤ k ∧ k ≤ 2) ∧ (0 ≤ j ∧ j ≤ 3) ∧ (0 < K 46 ∨ k = 0 ∧ j = 0)
def k_add (K : Int → Int) (k j p : Int) : Int → Int := cw_up (if 0 < K 46 then cw_up (cw_up (cw_up K (19 + K 46) p) (5 + K 46) k) (K 46 - 1) j else cw_up K (19 + K 46) p) 46 (K 46 + 1)
theorem k_add46 {K : Int → Int} {k j p : Int} : k_add K k j p 46 = K 46 + 1 := cw_up_eq
theorem M_addsR {d : Nat} {m : cw_M} {Q : Option cw_V → cw_M → Prop} (hm : la_ok m) (hn : 0 ≤ m m_kept_ 46 ∧ m m_kept_ 46 < 7) {k j p : Int} (h : Q none (kr_m m (k_add (m m_kept_) k j p))) : cw_C (d + 1) k_M_adds [vr m_, vi k, vi j, vi p] m Q := by
  refine M_adds hm hn (fun a => ?_) (fun a => ?_)
  · have e : kr_m m (k_add (m m_kept_) k j p) = cw_put (cw_put m m_kept_ (19 + (m m_kept_ 46)) p) m_kept_ 46 ((m m_kept_ 46) + 1) := by
      unfold kr_m k_add; rw [if_neg (by omega), cw_put_row (i := 19 + m m_kept_ 46), cw_row_put]
    rw [← e]; exact h
  · have e : kr_m m (k_add (m m_kept_) k j p) = cw_put (cw_put (cw_put (cw_put m m_kept_ (19 + (m m_kept_ 46)) p) m_kept_ ((6 + (m m_kept_ 46)) - 1) k) m_kept_ ((0 + (m m_kept_ 46)) - 1) j) m_kept_ 46 ((m m_kept_ 46) + 1) := by
      unfold kr_m k_add
      rw [if_pos a, cw_put_row (i := 19 + m m_kept_ 46), cw_row_put, cw_row_put, cw_row_put, show 6 + m m_kept_ 46 - 1 = 5 + m m_kept_ 46 by omega, show 0 + m m_kept_ 46 - 1 = m m_kept_ 46 - 1 by omega]
    rw [← e]; exact h
theorem M_name {d : Nat} {m : cw_M} {Q : Option cw_V → cw_M → Prop} (hm : la_ok m) (hn : 0 ≤ m m_kept_ 46 ∧ m m_kept_ 46 ≤ 7) (hr : r_fb m) {k j p : Int} (h1 : c_be (m m_kept_) k j p → m m_kept_ 46 < 7 → Q (some (vi (m m_kept_ 46))) (sd_m (kr_m m (k_add (m m_kept_) k j p)))) (h5 : c_be (m m_kept_) k j p → m m_kept_ 46 = 7 → Q (some (vi (-5))) (rf_m m (-5))) (h0 : ¬ c_be (m m_kept_) k j p → Q (some (vi (-1))) (rf_m m (-1))) : cw_C (d + 3) k_M_name [vr m_, vi k, vi j, vi p] m Q := by
  refine la_go_C hm 25 [] ?_
  show cw_C _ _ [vr m_, vi k, vi j, vi p] (m) _
  refine M_canBe hm (fun (b1 : 0 ≤ p ∧ p ≤ 5) (b2 : 0 ≤ k ∧ k ≤ 2) (b3 : 0 ≤ j ∧ j ≤ 3) (b4 : 0 < m m_kept_ 46 ∨ k = 0 ∧ j = 0) => ⟨hm, ?_⟩) (fun (b0 : ¬ ((0 ≤ p ∧ p ≤ 5) ∧ (0 ≤ k ∧ k ≤ 2) ∧ (0 ≤ j ∧ j ≤ 3) ∧ (0 < m m_kept_ 46 ∨ k = 0 ∧ j = 0))) => ⟨hm, ?_⟩)
  · refine br_t (show (1 : Int) ≠ 0 by decide) ?_
    show cw_C _ _ [vr m_] (m) _
    refine M_many hm ⟨hm, ?_⟩
    refine And.intro (fun (c21 : m m_kept_ 46 ≠ 7) => ?_) (fun (c21 : ¬ (m m_kept_ 46 ≠ 7)) => ?_)
    · show cw_C _ _ [vr m_, vi k, vi j, vi p] (m) _
      refine M_addsR hm (by omega) ⟨(kr_ok hm), ?_⟩
      show cw_C _ _ [vr m_] (kr_m m (k_add (m m_kept_) k j p)) _
      refine M_many (kr_ok hm) ⟨(kr_ok hm), ?_⟩
      have ka := k_add46 (K := m m_kept_) (k := k) (j := j) (p := p)
      refine And.intro (show -2147483648 ≤ ((k_add (m m_kept_) k j p) 46) - 1 ∧ ((k_add (m m_kept_) k j p) 46) - 1 < 2147483648 by omega) ?_
      show cw_C _ _ [vr m_, vi (((k_add (m m_kept_) k j p) 46) - 1)] (kr_m m (k_add (m m_kept_) k j p)) _
      refine M_settled (kr_ok hm) ⟨(sd_ok (kr_ok hm)), ?_⟩
      show Q (some (vi (((k_add (m m_kept_) k j p) 46) - 1))) (sd_m (kr_m m (k_add (m m_kept_) k j p)))
      rw [show ((k_add (m m_kept_) k j p) 46) - 1 = m m_kept_ 46 by omega]
      exact h1 ⟨b1, b2, b3, b4⟩ (by omega)
    · show cw_C _ _ [vr m_, vi (-5)] (m) _
      refine M_refuses hm (by decide) (hr 5 (by decide) (by decide)) ⟨(rf_ok hm), ?_⟩
      show Q (some (vi (-5))) (rf_m m (-5))
      first | exact h5 ⟨b1, b2, b3, b4⟩ (by omega) | exact h0 b0
  · refine br_f (show ¬ ((0 : Int) ≠ 0) by decide) ?_
    show cw_C _ _ [vr m_, vi (-1)] (m) _
    refine M_refuses hm (by decide) (hr 1 (by decide) (by decide)) ⟨(rf_ok hm), ?_⟩
    show Q (some (vi (-1))) (rf_m m (-1))
    first | exact h5 ⟨b1, b2, b3, b4⟩ (by omega) | exact h0 b0
theorem kr_p {m : cw_M} {i v : Int} : cw_put m m_kept_ i v = kr_m m (cw_up (m m_kept_) i v) := cw_put_row
theorem kr_p2 {m : cw_M} {f : Int → Int} {i v : Int} : cw_put (kr_m m f) m_kept_ i v = kr_m m (cw_up f i v) := cw_row_put
theorem kr_pp {m : cw_M} {i v j w : Int} : cw_put (cw_put m m_kept_ i v) m_kept_ j w = kr_m m (cw_up (cw_up (m m_kept_) i v) j w) := by rw [kr_p (m := m), kr_p2]
theorem kr_ppp {m : cw_M} {i v j w k x : Int} : cw_put (cw_put (cw_put m m_kept_ i v) m_kept_ j w) m_kept_ k x = kr_m m (cw_up (cw_up (cw_up (m m_kept_) i v) j w) k x) := by rw [kr_pp (m := m), kr_p2]
theorem kr_k {m : cw_M} {f : Int → Int} : kr_m m f m_kept_ = f := cw_row_eq
theorem M_terms {d : Nat} {m : cw_M} {Q : Option cw_V → cw_M → Prop} (hm : la_ok m) (hr : r_fb m) {w v : Int} (h1 : 0 ≤ w ∧ w ≤ 3 → 0 ≤ v ∧ v ≤ la_tm w → Q (some (vi (m m_kept_ (la_ta w)))) (sd_m (kr_m m (cw_up (m m_kept_) (la_ta w) v)))) (h0 : ¬ ((0 ≤ w ∧ w ≤ 3) ∧ 0 ≤ v ∧ v ≤ la_tm w) → Q (some (vi (-1))) (rf_m m (-1))) : cw_C (d + 2) k_M_terms [vr m_, vi w, vi v] m Q := by
  refine la_go_C hm 23 [] ?_
  show cw_C _ _ [vi w, vi v] (m) _
  refine M_isTerm hm (fun (b1 : 0 ≤ w ∧ w ≤ 3) (b2 : 0 ≤ v ∧ v ≤ la_tm w) => ⟨hm, ?_⟩) (fun (b0 : ¬ ((0 ≤ w ∧ w ≤ 3) ∧ 0 ≤ v ∧ v ≤ la_tm w)) => ⟨hm, ?_⟩)
  · refine br_t (show (1 : Int) ≠ 0 by decide) ?_
    show cw_C _ _ [vi w] (m) _
    refine M_termAt hm ⟨hm, ?_⟩
    have tr := la_ta_r b1
    refine And.intro (show 0 ≤ la_ta w ∧ la_ta w < 5658 by omega) ?_
    show cw_C _ _ [vi w] (m) _
    refine M_termAt hm ⟨hm, ?_⟩
    have tr := la_ta_r b1
    refine And.intro (show 0 ≤ la_ta w ∧ la_ta w < 5658 by omega) ?_
    have hm21 : la_ok (cw_put m m_kept_ (la_ta w) v) := la_put hm (by decide) (Or.inr (by decide))
    show cw_C _ _ [vr m_, vi (m m_kept_ (la_ta w))] (cw_put m m_kept_ (la_ta w) v) _
    refine M_settled hm21 ⟨(sd_ok hm21), ?_⟩
    show Q (some (vi (m m_kept_ (la_ta w)))) (sd_m (cw_put m m_kept_ (la_ta w) v))
    rw [kr_p]
    exact h1 b1 b2
  · refine br_f (show ¬ ((0 : Int) ≠ 0) by decide) ?_
    show cw_C _ _ [vr m_, vi (-1)] (m) _
    refine M_refuses hm (by decide) (hr 1 (by decide) (by decide)) ⟨(rf_ok hm), ?_⟩
    show Q (some (vi (-1))) (rf_m m (-1))
    exact h0 b0
theorem M_force {d : Nat} {m : cw_M} {Q : Option cw_V → cw_M → Prop} (hm : la_ok m) (hr : r_fb m) (hl : 0 ≤ m m_kept_ 49 ∧ m m_kept_ 49 ≤ 6) {v : Int} (h1 : -1 ≤ v → v < m m_kept_ 49 → Q (some (vi (m m_kept_ 50))) (gd_m (kr_m m (cw_up (m m_kept_) 50 v)))) (h0 : ¬ (-1 ≤ v ∧ v < m m_kept_ 49) → Q (some (vi (-2))) (rf_m m (-2))) : cw_C (d + 2) k_M_force [vr m_, vi v] m Q := by
  refine la_go_C hm 21 [] ?_
  show cw_C _ _ [vr m_, vi v] (m) _
  refine M_isLaw hm hl (fun (b1 : -1 ≤ v) (b2 : v < m m_kept_ 49) => ⟨hm, ?_⟩) (fun (b0 : ¬ (-1 ≤ v ∧ v < m m_kept_ 49)) => ⟨hm, ?_⟩)
  · refine br_t (show (1 : Int) ≠ 0 by decide) ?_
    refine And.intro (show 0 ≤ 50 ∧ 50 < 5658 by omega) ?_
    refine And.intro (show 0 ≤ 50 ∧ 50 < 5658 by omega) ?_
    have hm21 : la_ok (cw_put m m_kept_ 50 v) := la_put hm (by decide) (Or.inr (by decide))
    show cw_C _ _ [vr m_, vi (m m_kept_ 50)] (cw_put m m_kept_ 50 v) _
    refine M_good hm21 ⟨(gd_ok hm21), ?_⟩
    show Q (some (vi (m m_kept_ 50))) (gd_m (cw_put m m_kept_ 50 v))
    rw [kr_p]
    exact h1 b1 b2
  · refine br_f (show ¬ ((0 : Int) ≠ 0) by decide) ?_
    show cw_C _ _ [vr m_, vi (-2)] (m) _
    refine M_refuses hm (by decide) (hr 2 (by decide) (by decide)) ⟨(rf_ok hm), ?_⟩
    show Q (some (vi (-2))) (rf_m m (-2))
    exact h0 b0
theorem M_told {d : Nat} {m : cw_M} {Q : Option cw_V → cw_M → Prop} (hm : la_ok m) (hr : r_fb m) (hl : 0 ≤ m m_kept_ 48 ∧ m m_kept_ 48 ≤ 6) {p v : Int} (h1 : 0 ≤ p ∧ p ≤ 5 → 0 ≤ v ∧ v ≤ 9999 → m m_kept_ 48 < 6 → Q (some (vi (m m_kept_ 48 + 1))) (gd_m (kr_m m (cw_up (cw_up (cw_up (m m_kept_) (31 + 2 * m m_kept_ 48) p) (31 + 2 * m m_kept_ 48 + 1) v) 48 (m m_kept_ 48 + 1))))) (h5 : 0 ≤ p ∧ p ≤ 5 → 0 ≤ v ∧ v ≤ 9999 → m m_kept_ 48 = 6 → Q (some (vi (-5))) (rf_m m (-5))) (h0 : ¬ ((0 ≤ p ∧ p ≤ 5) ∧ 0 ≤ v ∧ v ≤ 9999) → Q (some (vi (-1))) (rf_m m (-1))) : cw_C (d + 2) k_M_told [vr m_, vi p, vi v] m Q := by
  refine la_go_C hm 53 [] ?_
  show cw_C _ _ [vi p] (m) _
  refine M_isPerson (fun (p0 : 0 ≤ p) (p1 : p ≤ 5) => ⟨hm, ?_⟩) (fun (p0 : ¬ (0 ≤ p ∧ p ≤ 5)) => ⟨hm, ?_⟩)
  · refine br_f (show ¬ ((1 : Int) = 0) by decide) ?_
    show cw_C _ _ [vi v, vi 0, vi 9999] (m) _
    refine M_lies (fun (a21 : 0 ≤ v) (a22 : v ≤ 9999) => ⟨hm, ?_⟩) (fun (a23 : ¬ (0 ≤ v ∧ v ≤ 9999)) => ⟨hm, ?_⟩)
    · refine br_t (show (1 : Int) ≠ 0 by decide) ?_
      refine And.intro (show 0 ≤ 48 ∧ 48 < 5658 by omega) ?_
      refine And.intro (fun (c24 : m m_kept_ 48 ≠ 6) => ?_) (fun (c24 : ¬ (m m_kept_ 48 ≠ 6)) => ?_)
      · refine And.intro (show -2147483648 ≤ 2 * (m m_kept_ 48) ∧ 2 * (m m_kept_ 48) < 2147483648 by omega) ?_
        refine And.intro (show -2147483648 ≤ 31 + (2 * (m m_kept_ 48)) ∧ 31 + (2 * (m m_kept_ 48)) < 2147483648 by omega) ?_
        refine And.intro (show 0 ≤ 31 + (2 * (m m_kept_ 48)) ∧ 31 + (2 * (m m_kept_ 48)) < 5658 by omega) ?_
        have hm25 : la_ok (cw_put m m_kept_ (31 + (2 * (m m_kept_ 48))) p) := la_put hm (by decide) (Or.inr (by decide))
        refine And.intro (show -2147483648 ≤ 2 * (m m_kept_ 48) ∧ 2 * (m m_kept_ 48) < 2147483648 by omega) ?_
        refine And.intro (show -2147483648 ≤ 31 + (2 * (m m_kept_ 48)) ∧ 31 + (2 * (m m_kept_ 48)) < 2147483648 by omega) ?_
        refine And.intro (show -2147483648 ≤ (31 + (2 * (m m_kept_ 48))) + 1 ∧ (31 + (2 * (m m_kept_ 48))) + 1 < 2147483648 by omega) ?_
        refine And.intro (show 0 ≤ (31 + (2 * (m m_kept_ 48))) + 1 ∧ (31 + (2 * (m m_kept_ 48))) + 1 < 5658 by omega) ?_
        have hm26 : la_ok (cw_put (cw_put m m_kept_ (31 + (2 * (m m_kept_ 48))) p) m_kept_ ((31 + (2 * (m m_kept_ 48))) + 1) v) := la_put hm25 (by decide) (Or.inr (by decide))
        refine And.intro (show 0 ≤ 48 ∧ 48 < 5658 by omega) ?_
        have e27 : (cw_put m m_kept_ (31 + (2 * (m m_kept_ 48))) p) m_kept_ 48 = m m_kept_ 48 := cw_put_off (by omega)
        have e28 : (cw_put (cw_put m m_kept_ (31 + (2 * (m m_kept_ 48))) p) m_kept_ ((31 + (2 * (m m_kept_ 48))) + 1) v) m_kept_ 48 = (cw_put m m_kept_ (31 + (2 * (m m_kept_ 48))) p) m_kept_ 48 := cw_put_off (by omega)
        refine And.intro (show -2147483648 ≤ ((cw_put (cw_put m m_kept_ (31 + (2 * (m m_kept_ 48))) p) m_kept_ ((31 + (2 * (m m_kept_ 48))) + 1) v) m_kept_ 48) + 1 ∧ ((cw_put (cw_put m m_kept_ (31 + (2 * (m m_kept_ 48))) p) m_kept_ ((31 + (2 * (m m_kept_ 48))) + 1) v) m_kept_ 48) + 1 < 2147483648 by omega) ?_
        refine And.intro (show 0 ≤ 48 ∧ 48 < 5658 by omega) ?_
        have hm29 : la_ok (cw_put (cw_put (cw_put m m_kept_ (31 + (2 * (m m_kept_ 48))) p) m_kept_ ((31 + (2 * (m m_kept_ 48))) + 1) v) m_kept_ 48 (((cw_put (cw_put m m_kept_ (31 + (2 * (m m_kept_ 48))) p) m_kept_ ((31 + (2 * (m m_kept_ 48))) + 1) v) m_kept_ 48) + 1)) := la_put hm26 (by decide) (Or.inr (by decide))
        refine And.intro (show -2147483648 ≤ (m m_kept_ 48) + 1 ∧ (m m_kept_ 48) + 1 < 2147483648 by omega) ?_
        show cw_C _ _ [vr m_, vi ((m m_kept_ 48) + 1)] (cw_put (cw_put (cw_put m m_kept_ (31 + (2 * (m m_kept_ 48))) p) m_kept_ ((31 + (2 * (m m_kept_ 48))) + 1) v) m_kept_ 48 (((cw_put (cw_put m m_kept_ (31 + (2 * (m m_kept_ 48))) p) m_kept_ ((31 + (2 * (m m_kept_ 48))) + 1) v) m_kept_ 48) + 1)) _
        refine M_good hm29 ⟨(gd_ok hm29), ?_⟩
        show Q (some (vi ((m m_kept_ 48) + 1))) (gd_m (cw_put (cw_put (cw_put m m_kept_ (31 + (2 * (m m_kept_ 48))) p) m_kept_ ((31 + (2 * (m m_kept_ 48))) + 1) v) m_kept_ 48 (((cw_put (cw_put m m_kept_ (31 + (2 * (m m_kept_ 48))) p) m_kept_ ((31 + (2 * (m m_kept_ 48))) + 1) v) m_kept_ 48) + 1)))
        have ex : (cw_put (cw_put (cw_put m m_kept_ (31 + (2 * (m m_kept_ 48))) p) m_kept_ ((31 + (2 * (m m_kept_ 48))) + 1) v) m_kept_ 48 (((cw_put (cw_put m m_kept_ (31 + (2 * (m m_kept_ 48))) p) m_kept_ ((31 + (2 * (m m_kept_ 48))) + 1) v) m_kept_ 48) + 1)) = kr_m m (cw_up (cw_up (cw_up (m m_kept_) (31 + 2 * m m_kept_ 48) p) (31 + 2 * m m_kept_ 48 + 1) v) 48 (m m_kept_ 48 + 1)) := by
          rw [e28, e27]
          rw [kr_ppp]
        rw [ex]
        exact h1 (by omega) (by omega) (by omega)
      · show cw_C _ _ [vr m_, vi (-5)] (m) _
        refine M_refuses hm (by decide) (hr 5 (by decide) (by decide)) ⟨(rf_ok hm), ?_⟩
        show Q (some (vi (-5))) (rf_m m (-5))
        first | exact h5 (by omega) (by omega) (by omega) | exact h0 (by omega)
    · refine br_f (show ¬ ((0 : Int) ≠ 0) by decide) ?_
      show cw_C _ _ [vr m_, vi (-1)] (m) _
      refine M_refuses hm (by decide) (hr 1 (by decide) (by decide)) ⟨(rf_ok hm), ?_⟩
      show Q (some (vi (-1))) (rf_m m (-1))
      first | exact h5 (by omega) (by omega) (by omega) | exact h0 (by omega)
  · refine br_t (show (0 : Int) = 0 by decide) ?_
    show cw_C _ _ [vr m_, vi (-1)] (m) _
    refine M_refuses hm (by decide) (hr 1 (by decide) (by decide)) ⟨(rf_ok hm), ?_⟩
    show Q (some (vi (-1))) (rf_m m (-1))
    first | exact h5 (by omega) (by omega) (by omega) | exact h0 (by omega)
theorem M_judge {d : Nat} {m : cw_M} {Q : Option cw_V → cw_M → Prop} (hm : la_ok m) (hr : r_fb m) (hl : 0 ≤ m m_kept_ 47 ∧ m m_kept_ 47 ≤ 5) {v : Int} (h1 : 0 ≤ v ∧ v ≤ 131 → m m_kept_ 47 < 5 → Q (some (vi (m m_kept_ 47 + 1))) (gd_m (kr_m m (cw_up (cw_up (m m_kept_) (26 + m m_kept_ 47) v) 47 (m m_kept_ 47 + 1))))) (h5 : 0 ≤ v ∧ v ≤ 131 → m m_kept_ 47 = 5 → Q (some (vi (-5))) (rf_m m (-5))) (h0 : ¬ (0 ≤ v ∧ v ≤ 131) → Q (some (vi (-1))) (rf_m m (-1))) : cw_C (d + 1) k_M_judge [vr m_, vi v] m Q := by
  refine la_go_C hm 37 [] ?_
  show cw_C _ _ [vi v, vi 0, vi 131] (m) _
  refine M_lies (fun (a21 : 0 ≤ v) (a22 : v ≤ 131) => ⟨hm, ?_⟩) (fun (a23 : ¬ (0 ≤ v ∧ v ≤ 131)) => ⟨hm, ?_⟩)
  · refine br_t (show (1 : Int) ≠ 0 by decide) ?_
    refine And.intro (show 0 ≤ 47 ∧ 47 < 5658 by omega) ?_
    refine And.intro (fun (c24 : m m_kept_ 47 ≠ 5) => ?_) (fun (c24 : ¬ (m m_kept_ 47 ≠ 5)) => ?_)
    · refine And.intro (show -2147483648 ≤ 26 + (m m_kept_ 47) ∧ 26 + (m m_kept_ 47) < 2147483648 by omega) ?_
      refine And.intro (show 0 ≤ 26 + (m m_kept_ 47) ∧ 26 + (m m_kept_ 47) < 5658 by omega) ?_
      have hm25 : la_ok (cw_put m m_kept_ (26 + (m m_kept_ 47)) v) := la_put hm (by decide) (Or.inr (by decide))
      refine And.intro (show 0 ≤ 47 ∧ 47 < 5658 by omega) ?_
      have e26 : (cw_put m m_kept_ (26 + (m m_kept_ 47)) v) m_kept_ 47 = m m_kept_ 47 := cw_put_off (by omega)
      refine And.intro (show -2147483648 ≤ ((cw_put m m_kept_ (26 + (m m_kept_ 47)) v) m_kept_ 47) + 1 ∧ ((cw_put m m_kept_ (26 + (m m_kept_ 47)) v) m_kept_ 47) + 1 < 2147483648 by omega) ?_
      refine And.intro (show 0 ≤ 47 ∧ 47 < 5658 by omega) ?_
      have hm27 : la_ok (cw_put (cw_put m m_kept_ (26 + (m m_kept_ 47)) v) m_kept_ 47 (((cw_put m m_kept_ (26 + (m m_kept_ 47)) v) m_kept_ 47) + 1)) := la_put hm25 (by decide) (Or.inr (by decide))
      refine And.intro (show -2147483648 ≤ (m m_kept_ 47) + 1 ∧ (m m_kept_ 47) + 1 < 2147483648 by omega) ?_
      show cw_C _ _ [vr m_, vi ((m m_kept_ 47) + 1)] (cw_put (cw_put m m_kept_ (26 + (m m_kept_ 47)) v) m_kept_ 47 (((cw_put m m_kept_ (26 + (m m_kept_ 47)) v) m_kept_ 47) + 1)) _
      refine M_good hm27 ⟨(gd_ok hm27), ?_⟩
      show Q (some (vi ((m m_kept_ 47) + 1))) (gd_m (cw_put (cw_put m m_kept_ (26 + (m m_kept_ 47)) v) m_kept_ 47 (((cw_put m m_kept_ (26 + (m m_kept_ 47)) v) m_kept_ 47) + 1)))
      have ex : (cw_put (cw_put m m_kept_ (26 + (m m_kept_ 47)) v) m_kept_ 47 (((cw_put m m_kept_ (26 + (m m_kept_ 47)) v) m_kept_ 47) + 1)) = kr_m m (cw_up (cw_up (m m_kept_) (26 + m m_kept_ 47) v) 47 (m m_kept_ 47 + 1)) := by
        rw [e26]
        rw [kr_pp]
      rw [ex]
      exact h1 (by omega) (by omega)
    · show cw_C _ _ [vr m_, vi (-5)] (m) _
      refine M_refuses hm (by decide) (hr 5 (by decide) (by decide)) ⟨(rf_ok hm), ?_⟩
      show Q (some (vi (-5))) (rf_m m (-5))
      first | exact h5 (by omega) (by omega) | exact h0 (by omega)
  · refine br_f (show ¬ ((0 : Int) ≠ 0) by decide) ?_
    show cw_C _ _ [vr m_, vi (-1)] (m) _
    refine M_refuses hm (by decide) (hr 1 (by decide) (by decide)) ⟨(rf_ok hm), ?_⟩
    show Q (some (vi (-1))) (rf_m m (-1))
    first | exact h5 (by omega) (by omega) | exact h0 (by omega)
theorem M_forget {d : Nat} {m : cw_M} {Q : Option cw_V → cw_M → Prop} (hm : la_ok m) (h7 : 0 ≤ m m_kept_ 47 ∧ m m_kept_ 47 ≤ 5) (h8 : 0 ≤ m m_kept_ 48 ∧ m m_kept_ 48 ≤ 6) (h : Q (some (vi (m m_kept_ 48 + m m_kept_ 47))) (kr_m m (cw_up (cw_up (m m_kept_) 48 0) 47 0))) : cw_C d k_M_forget [vr m_] m Q := by
  refine la_go_C hm 25 [] ?_
  refine And.intro (show 0 ≤ 48 ∧ 48 < 5658 by omega) ?_
  refine And.intro (show 0 ≤ 47 ∧ 47 < 5658 by omega) ?_
  refine And.intro (show -2147483648 ≤ (m m_kept_ 48) + (m m_kept_ 47) ∧ (m m_kept_ 48) + (m m_kept_ 47) < 2147483648 by omega) ?_
  refine And.intro (show 0 ≤ 48 ∧ 48 < 5658 by omega) ?_
  have hm21 : la_ok (cw_put m m_kept_ 48 0) := la_put hm (by decide) (Or.inr (by decide))
  refine And.intro (show 0 ≤ 47 ∧ 47 < 5658 by omega) ?_
  have hm22 : la_ok (cw_put (cw_put m m_kept_ 48 0) m_kept_ 47 0) := la_put hm21 (by decide) (Or.inr (by decide))
  show Q (some (vi ((m m_kept_ 48) + (m m_kept_ 47)))) (cw_put (cw_put m m_kept_ 48 0) m_kept_ 47 0)
  rw [kr_pp]
  exact h
def q_cnt (m : cw_M) (w : Int) : Int := (if w = 0 then m m_kept_ 46 else if w = 1 then m m_kept_ 12 + m m_kept_ 13 + m m_kept_ 14 + m m_kept_ 15 + m m_kept_ 16 + m m_kept_ 17 else if w = 2 then m m_kept_ 48 else if w = 3 then m m_kept_ 47 else if w = 4 then m m_kept_ 49 else if w = 5 then m m_ 44 else if w = 6 then m m_ 13 else if w = 7 then m m_refused_ 1 else if w = 8 then m m_refused_ 2 else if w = 9 then m m_refused_ 3 else if w = 10 then m m_refused_ 5 else if w = 11 then m m_refused_ 6 else if w = 12 then m m_kept_ 50 else if w = 13 then m m_kept_ 18 else if w = 14 then m m_kept_ 43 else if w = 15 then m m_kept_ 44 else if w = 16 then m m_kept_ 45 else -1)
theorem M_count {d : Nat} {m : cw_M} {Q : Option cw_V → cw_M → Prop} (hm : la_ok m) (hlv : ∀ p, 0 ≤ p → p < 6 → m m_kept_ (12 + p) = 0 ∨ m m_kept_ (12 + p) = 1) {w : Int} (h : Q (some (vi (q_cnt m w))) m) : cw_C (d + 1) k_M_count [vr m_, vi w] m Q := by
  refine la_go_C hm 5 [1] ?_
  refine la_ts rfl ?_
  by_cases hx0 : w = 0
  · rw [show cw_ts 1 173 0 16 #[83, 88, 93, 101, 109, 117, 122, 127, 127, 127, 137, 144, 152, 160, 160, 160, 160] w = _ by rw [hx0]]
    show cw_R _ _ 84 _ _ _ _
    refine la_go_R hm 6 [1] ?_
    show cw_C _ _ [vr m_] (m) _
    refine M_many hm ⟨hm, ?_⟩
    show Q (some (vi (m m_kept_ 46))) (m)
    have e : q_cnt m w = m m_kept_ 46 := by
      unfold q_cnt
      first | (rw [if_pos (by omega)]; done) | (rw [if_pos (by omega)]; rw [hx0]; rfl)
    rw [e] at h
    exact h
  by_cases hx1 : w = 1
  · rw [show cw_ts 1 173 0 16 #[83, 88, 93, 101, 109, 117, 122, 127, 127, 127, 137, 144, 152, 160, 160, 160, 160] w = _ by rw [hx1]]
    show cw_R _ _ 89 _ _ _ _
    refine la_go_R hm 6 [1] ?_
    show cw_C _ _ [vr m_] (m) _
    refine M_livingMany hm hlv ⟨hm, ?_⟩
    show Q (some (vi (m m_kept_ 12 + m m_kept_ 13 + m m_kept_ 14 + m m_kept_ 15 + m m_kept_ 16 + m m_kept_ 17))) (m)
    have e : q_cnt m w = m m_kept_ 12 + m m_kept_ 13 + m m_kept_ 14 + m m_kept_ 15 + m m_kept_ 16 + m m_kept_ 17 := by
      unfold q_cnt
      first | (rw [if_neg (by omega), if_pos (by omega)]; done) | (rw [if_neg (by omega), if_pos (by omega)]; rw [hx1]; rfl)
    rw [e] at h
    exact h
  by_cases hx2 : w = 2
  · rw [show cw_ts 1 173 0 16 #[83, 88, 93, 101, 109, 117, 122, 127, 127, 127, 137, 144, 152, 160, 160, 160, 160] w = _ by rw [hx2]]
    show cw_R _ _ 94 _ _ _ _
    refine la_go_R hm 8 [1] ?_
    refine And.intro (show 0 ≤ 48 ∧ 48 < 5658 by omega) ?_
    show Q (some (vi (m m_kept_ 48))) (m)
    have e : q_cnt m w = m m_kept_ 48 := by
      unfold q_cnt
      first | (rw [if_neg (by omega), if_neg (by omega), if_pos (by omega)]; done) | (rw [if_neg (by omega), if_neg (by omega), if_pos (by omega)]; rw [hx2]; rfl)
    rw [e] at h
    exact h
  by_cases hx3 : w = 3
  · rw [show cw_ts 1 173 0 16 #[83, 88, 93, 101, 109, 117, 122, 127, 127, 127, 137, 144, 152, 160, 160, 160, 160] w = _ by rw [hx3]]
    show cw_R _ _ 102 _ _ _ _
    refine la_go_R hm 8 [1] ?_
    refine And.intro (show 0 ≤ 47 ∧ 47 < 5658 by omega) ?_
    show Q (some (vi (m m_kept_ 47))) (m)
    have e : q_cnt m w = m m_kept_ 47 := by
      unfold q_cnt
      first | (rw [if_neg (by omega), if_neg (by omega), if_neg (by omega), if_pos (by omega)]; done) | (rw [if_neg (by omega), if_neg (by omega), if_neg (by omega), if_pos (by omega)]; rw [hx3]; rfl)
    rw [e] at h
    exact h
  by_cases hx4 : w = 4
  · rw [show cw_ts 1 173 0 16 #[83, 88, 93, 101, 109, 117, 122, 127, 127, 127, 137, 144, 152, 160, 160, 160, 160] w = _ by rw [hx4]]
    show cw_R _ _ 110 _ _ _ _
    refine la_go_R hm 8 [1] ?_
    refine And.intro (show 0 ≤ 49 ∧ 49 < 5658 by omega) ?_
    show Q (some (vi (m m_kept_ 49))) (m)
    have e : q_cnt m w = m m_kept_ 49 := by
      unfold q_cnt
      first | (rw [if_neg (by omega), if_neg (by omega), if_neg (by omega), if_neg (by omega), if_pos (by omega)]; done) | (rw [if_neg (by omega), if_neg (by omega), if_neg (by omega), if_neg (by omega), if_pos (by omega)]; rw [hx4]; rfl)
    rw [e] at h
    exact h
  by_cases hx5 : w = 5
  · rw [show cw_ts 1 173 0 16 #[83, 88, 93, 101, 109, 117, 122, 127, 127, 127, 137, 144, 152, 160, 160, 160, 160] w = _ by rw [hx5]]
    show cw_R _ _ 118 _ _ _ _
    refine la_go_R hm 6 [1] ?_
    show Q (some (vi (m m_ 44))) (m)
    have e : q_cnt m w = m m_ 44 := by
      unfold q_cnt
      first | (rw [if_neg (by omega), if_neg (by omega), if_neg (by omega), if_neg (by omega), if_neg (by omega), if_pos (by omega)]; done) | (rw [if_neg (by omega), if_neg (by omega), if_neg (by omega), if_neg (by omega), if_neg (by omega), if_pos (by omega)]; rw [hx5]; rfl)
    rw [e] at h
    exact h
  by_cases hx6 : w = 6
  · rw [show cw_ts 1 173 0 16 #[83, 88, 93, 101, 109, 117, 122, 127, 127, 127, 137, 144, 152, 160, 160, 160, 160] w = _ by rw [hx6]]
    show cw_R _ _ 123 _ _ _ _
    refine la_go_R hm 6 [1] ?_
    show Q (some (vi (m m_ 13))) (m)
    have e : q_cnt m w = m m_ 13 := by
      unfold q_cnt
      first | (rw [if_neg (by omega), if_neg (by omega), if_neg (by omega), if_neg (by omega), if_neg (by omega), if_neg (by omega), if_pos (by omega)]; done) | (rw [if_neg (by omega), if_neg (by omega), if_neg (by omega), if_neg (by omega), if_neg (by omega), if_neg (by omega), if_pos (by omega)]; rw [hx6]; rfl)
    rw [e] at h
    exact h
  by_cases hx7 : w = 7
  · rw [show cw_ts 1 173 0 16 #[83, 88, 93, 101, 109, 117, 122, 127, 127, 127, 137, 144, 152, 160, 160, 160, 160] w = _ by rw [hx7]]
    show cw_R _ _ 128 _ _ _ _
    refine la_go_R hm 10 [1] ?_
    refine And.intro (show -2147483648 ≤ w - 6 ∧ w - 6 < 2147483648 by omega) ?_
    refine And.intro (show 0 ≤ w - 6 ∧ w - 6 < 7 by omega) ?_
    show Q (some (vi (m m_refused_ (w - 6)))) (m)
    have e : q_cnt m w = m m_refused_ (w - 6) := by
      unfold q_cnt
      first | (rw [if_neg (by omega), if_neg (by omega), if_neg (by omega), if_neg (by omega), if_neg (by omega), if_neg (by omega), if_neg (by omega), if_pos (by omega)]; done) | (rw [if_neg (by omega), if_neg (by omega), if_neg (by omega), if_neg (by omega), if_neg (by omega), if_neg (by omega), if_neg (by omega), if_pos (by omega)]; rw [hx7]; rfl)
    rw [e] at h
    exact h
  by_cases hx8 : w = 8
  · rw [show cw_ts 1 173 0 16 #[83, 88, 93, 101, 109, 117, 122, 127, 127, 127, 137, 144, 152, 160, 160, 160, 160] w = _ by rw [hx8]]
    show cw_R _ _ 128 _ _ _ _
    refine la_go_R hm 10 [1] ?_
    refine And.intro (show -2147483648 ≤ w - 6 ∧ w - 6 < 2147483648 by omega) ?_
    refine And.intro (show 0 ≤ w - 6 ∧ w - 6 < 7 by omega) ?_
    show Q (some (vi (m m_refused_ (w - 6)))) (m)
    have e : q_cnt m w = m m_refused_ (w - 6) := by
      unfold q_cnt
      first | (rw [if_neg (by omega), if_neg (by omega), if_neg (by omega), if_neg (by omega), if_neg (by omega), if_neg (by omega), if_neg (by omega), if_neg (by omega), if_pos (by omega)]; done) | (rw [if_neg (by omega), if_neg (by omega), if_neg (by omega), if_neg (by omega), if_neg (by omega), if_neg (by omega), if_neg (by omega), if_neg (by omega), if_pos (by omega)]; rw [hx8]; rfl)
    rw [e] at h
    exact h
  by_cases hx9 : w = 9
  · rw [show cw_ts 1 173 0 16 #[83, 88, 93, 101, 109, 117, 122, 127, 127, 127, 137, 144, 152, 160, 160, 160, 160] w = _ by rw [hx9]]
    show cw_R _ _ 128 _ _ _ _
    refine la_go_R hm 10 [1] ?_
    refine And.intro (show -2147483648 ≤ w - 6 ∧ w - 6 < 2147483648 by omega) ?_
    refine And.intro (show 0 ≤ w - 6 ∧ w - 6 < 7 by omega) ?_
    show Q (some (vi (m m_refused_ (w - 6)))) (m)
    have e : q_cnt m w = m m_refused_ (w - 6) := by
      unfold q_cnt
      first | (rw [if_neg (by omega), if_neg (by omega), if_neg (by omega), if_neg (by omega), if_neg (by omega), if_neg (by omega), if_neg (by omega), if_neg (by omega), if_neg (by omega), if_pos (by omega)]; done) | (rw [if_neg (by omega), if_neg (by omega), if_neg (by omega), if_neg (by omega), if_neg (by omega), if_neg (by omega), if_neg (by omega), if_neg (by omega), if_neg (by omega), if_pos (by omega)]; rw [hx9]; rfl)
    rw [e] at h
    exact h
  by_cases hx10 : w = 10
  · rw [show cw_ts 1 173 0 16 #[83, 88, 93, 101, 109, 117, 122, 127, 127, 127, 137, 144, 152, 160, 160, 160, 160] w = _ by rw [hx10]]
    show cw_R _ _ 138 _ _ _ _
    refine la_go_R hm 8 [1] ?_
    refine And.intro (show 0 ≤ 5 ∧ 5 < 7 by omega) ?_
    show Q (some (vi (m m_refused_ 5))) (m)
    have e : q_cnt m w = m m_refused_ 5 := by
      unfold q_cnt
      first | (rw [if_neg (by omega), if_neg (by omega), if_neg (by omega), if_neg (by omega), if_neg (by omega), if_neg (by omega), if_neg (by omega), if_neg (by omega), if_neg (by omega), if_neg (by omega), if_pos (by omega)]; done) | (rw [if_neg (by omega), if_neg (by omega), if_neg (by omega), if_neg (by omega), if_neg (by omega), if_neg (by omega), if_neg (by omega), if_neg (by omega), if_neg (by omega), if_neg (by omega), if_pos (by omega)]; rw [hx10]; rfl)
    rw [e] at h
    exact h
  by_cases hx11 : w = 11
  · rw [show cw_ts 1 173 0 16 #[83, 88, 93, 101, 109, 117, 122, 127, 127, 127, 137, 144, 152, 160, 160, 160, 160] w = _ by rw [hx11]]
    show cw_R _ _ 145 _ _ _ _
    refine la_go_R hm 8 [1] ?_
    refine And.intro (show 0 ≤ 6 ∧ 6 < 7 by omega) ?_
    show Q (some (vi (m m_refused_ 6))) (m)
    have e : q_cnt m w = m m_refused_ 6 := by
      unfold q_cnt
      first | (rw [if_neg (by omega), if_neg (by omega), if_neg (by omega), if_neg (by omega), if_neg (by omega), if_neg (by omega), if_neg (by omega), if_neg (by omega), if_neg (by omega), if_neg (by omega), if_neg (by omega), if_pos (by omega)]; done) | (rw [if_neg (by omega), if_neg (by omega), if_neg (by omega), if_neg (by omega), if_neg (by omega), if_neg (by omega), if_neg (by omega), if_neg (by omega), if_neg (by omega), if_neg (by omega), if_neg (by omega), if_pos (by omega)]; rw [hx11]; rfl)
    rw [e] at h
    exact h
  by_cases hx12 : w = 12
  · rw [show cw_ts 1 173 0 16 #[83, 88, 93, 101, 109, 117, 122, 127, 127, 127, 137, 144, 152, 160, 160, 160, 160] w = _ by rw [hx12]]
    show cw_R _ _ 153 _ _ _ _
    refine la_go_R hm 8 [1] ?_
    refine And.intro (show 0 ≤ 50 ∧ 50 < 5658 by omega) ?_
    show Q (some (vi (m m_kept_ 50))) (m)
    have e : q_cnt m w = m m_kept_ 50 := by
      unfold q_cnt
      first | (rw [if_neg (by omega), if_neg (by omega), if_neg (by omega), if_neg (by omega), if_neg (by omega), if_neg (by omega), if_neg (by omega), if_neg (by omega), if_neg (by omega), if_neg (by omega), if_neg (by omega), if_neg (by omega), if_pos (by omega)]; done) | (rw [if_neg (by omega), if_neg (by omega), if_neg (by omega), if_neg (by omega), if_neg (by omega), if_neg (by omega), if_neg (by omega), if_neg (by omega), if_neg (by omega), if_neg (by omega), if_neg (by omega), if_neg (by omega), if_pos (by omega)]; rw [hx12]; rfl)
    rw [e] at h
    exact h
  by_cases hx13 : w = 13
  · rw [show cw_ts 1 173 0 16 #[83, 88, 93, 101, 109, 117, 122, 127, 127, 127, 137, 144, 152, 160, 160, 160, 160] w = _ by rw [hx13]]
    show cw_R _ _ 161 _ _ _ _
    refine la_go_R hm 11 [1] ?_
    refine And.intro (show -2147483648 ≤ w - 13 ∧ w - 13 < 2147483648 by omega) ?_
    show cw_C _ _ [vi (w - 13)] (m) _
    refine M_termAt hm ⟨hm, ?_⟩
    have tr := la_ta_r (w := w - 13) (by omega)
    refine And.intro (show 0 ≤ la_ta (w - 13) ∧ la_ta (w - 13) < 5658 by omega) ?_
    show Q (some (vi (m m_kept_ (la_ta (w - 13))))) (m)
    have e : q_cnt m w = m m_kept_ (la_ta (w - 13)) := by
      unfold q_cnt
      first | (rw [if_neg (by omega), if_neg (by omega), if_neg (by omega), if_neg (by omega), if_neg (by omega), if_neg (by omega), if_neg (by omega), if_neg (by omega), if_neg (by omega), if_neg (by omega), if_neg (by omega), if_neg (by omega), if_neg (by omega), if_pos (by omega)]; done) | (rw [if_neg (by omega), if_neg (by omega), if_neg (by omega), if_neg (by omega), if_neg (by omega), if_neg (by omega), if_neg (by omega), if_neg (by omega), if_neg (by omega), if_neg (by omega), if_neg (by omega), if_neg (by omega), if_neg (by omega), if_pos (by omega)]; rw [hx13]; rfl)
    rw [e] at h
    exact h
  by_cases hx14 : w = 14
  · rw [show cw_ts 1 173 0 16 #[83, 88, 93, 101, 109, 117, 122, 127, 127, 127, 137, 144, 152, 160, 160, 160, 160] w = _ by rw [hx14]]
    show cw_R _ _ 161 _ _ _ _
    refine la_go_R hm 11 [1] ?_
    refine And.intro (show -2147483648 ≤ w - 13 ∧ w - 13 < 2147483648 by omega) ?_
    show cw_C _ _ [vi (w - 13)] (m) _
    refine M_termAt hm ⟨hm, ?_⟩
    have tr := la_ta_r (w := w - 13) (by omega)
    refine And.intro (show 0 ≤ la_ta (w - 13) ∧ la_ta (w - 13) < 5658 by omega) ?_
    show Q (some (vi (m m_kept_ (la_ta (w - 13))))) (m)
    have e : q_cnt m w = m m_kept_ (la_ta (w - 13)) := by
      unfold q_cnt
      first | (rw [if_neg (by omega), if_neg (by omega), if_neg (by omega), if_neg (by omega), if_neg (by omega), if_neg (by omega), if_neg (by omega), if_neg (by omega), if_neg (by omega), if_neg (by omega), if_neg (by omega), if_neg (by omega), if_neg (by omega), if_neg (by omega), if_pos (by omega)]; done) | (rw [if_neg (by omega), if_neg (by omega), if_neg (by omega), if_neg (by omega), if_neg (by omega), if_neg (by omega), if_neg (by omega), if_neg (by omega), if_neg (by omega), if_neg (by omega), if_neg (by omega), if_neg (by omega), if_neg (by omega), if_neg (by omega), if_pos (by omega)]; rw [hx14]; rfl)
    rw [e] at h
    exact h
  by_cases hx15 : w = 15
  · rw [show cw_ts 1 173 0 16 #[83, 88, 93, 101, 109, 117, 122, 127, 127, 127, 137, 144, 152, 160, 160, 160, 160] w = _ by rw [hx15]]
    show cw_R _ _ 161 _ _ _ _
    refine la_go_R hm 11 [1] ?_
    refine And.intro (show -2147483648 ≤ w - 13 ∧ w - 13 < 2147483648 by omega) ?_
    show cw_C _ _ [vi (w - 13)] (m) _
    refine M_termAt hm ⟨hm, ?_⟩
    have tr := la_ta_r (w := w - 13) (by omega)
    refine And.intro (show 0 ≤ la_ta (w - 13) ∧ la_ta (w - 13) < 5658 by omega) ?_
    show Q (some (vi (m m_kept_ (la_ta (w - 13))))) (m)
    have e : q_cnt m w = m m_kept_ (la_ta (w - 13)) := by
      unfold q_cnt
      first | (rw [if_neg (by omega), if_neg (by omega), if_neg (by omega), if_neg (by omega), if_neg (by omega), if_neg (by omega), if_neg (by omega), if_neg (by omega), if_neg (by omega), if_neg (by omega), if_neg (by omega), if_neg (by omega), if_neg (by omega), if_neg (by omega), if_neg (by omega), if_pos (by omega)]; done) | (rw [if_neg (by omega), if_neg (by omega), if_neg (by omega), if_neg (by omega), if_neg (by omega), if_neg (by omega), if_neg (by omega), if_neg (by omega), if_neg (by omega), if_neg (by omega), if_neg (by omega), if_neg (by omega), if_neg (by omega), if_neg (by omega), if_neg (by omega), if_pos (by omega)]; rw [hx15]; rfl)
    rw [e] at h
    exact h
  by_cases hx16 : w = 16
  · rw [show cw_ts 1 173 0 16 #[83, 88, 93, 101, 109, 117, 122, 127, 127, 127, 137, 144, 152, 160, 160, 160, 160] w = _ by rw [hx16]]
    show cw_R _ _ 161 _ _ _ _
    refine la_go_R hm 11 [1] ?_
    refine And.intro (show -2147483648 ≤ w - 13 ∧ w - 13 < 2147483648 by omega) ?_
    show cw_C _ _ [vi (w - 13)] (m) _
    refine M_termAt hm ⟨hm, ?_⟩
    have tr := la_ta_r (w := w - 13) (by omega)
    refine And.intro (show 0 ≤ la_ta (w - 13) ∧ la_ta (w - 13) < 5658 by omega) ?_
    show Q (some (vi (m m_kept_ (la_ta (w - 13))))) (m)
    have e : q_cnt m w = m m_kept_ (la_ta (w - 13)) := by
      unfold q_cnt
      first | (rw [if_neg (by omega), if_neg (by omega), if_neg (by omega), if_neg (by omega), if_neg (by omega), if_neg (by omega), if_neg (by omega), if_neg (by omega), if_neg (by omega), if_neg (by omega), if_neg (by omega), if_neg (by omega), if_neg (by omega), if_neg (by omega), if_neg (by omega), if_neg (by omega), if_pos (by omega)]; done) | (rw [if_neg (by omega), if_neg (by omega), if_neg (by omega), if_neg (by omega), if_neg (by omega), if_neg (by omega), if_neg (by omega), if_neg (by omega), if_neg (by omega), if_neg (by omega), if_neg (by omega), if_neg (by omega), if_neg (by omega), if_neg (by omega), if_neg (by omega), if_neg (by omega), if_pos (by omega)]; rw [hx16]; rfl)
    rw [e] at h
    exact h
  rw [la_tsd (by omega)]
  show cw_R _ _ 174 _ _ _ _
  refine la_go_R hm 5 [1] ?_
  show Q (some (vi (-1))) (m)
  have e : q_cnt m w = (-1) := by
    unfold q_cnt
    rw [if_neg (by omega), if_neg (by omega), if_neg (by omega), if_neg (by omega), if_neg (by omega), if_neg (by omega), if_neg (by omega), if_neg (by omega), if_neg (by omega), if_neg (by omega), if_neg (by omega), if_neg (by omega), if_neg (by omega), if_neg (by omega), if_neg (by omega), if_neg (by omega), if_neg (by omega)]
  rw [e] at h
  exact h
def q_drw (m : cw_M) (p : Int) : Int := if m m_ 53 ≠ 0 ∧ 0 ≤ p ∧ p ≤ 5 then m m_drawnMoved_ (12 + p) else -1
theorem M_drawn {d : Nat} {m : cw_M} {Q : Option cw_V → cw_M → Prop} (hm : la_ok m) {p : Int} (h : Q (some (vi (q_drw m p))) m) : cw_C (d + 2) k_M_drawn [vr m_, vi p] m Q := by
  refine la_go_C hm 17 [] ?_
  refine And.intro (fun (c21 : m m_ 53 = 0) => ?_) (fun (c21 : ¬ (m m_ 53 = 0)) => ?_)
  · show Q (some (vi (-1))) (m)
    have e : q_drw m p = (-1) := by unfold q_drw; rw [if_neg (by omega)]
    rw [e] at h
    exact h
  · show cw_C _ _ [vi p] (m) _
    refine M_isPerson (fun (p0 : 0 ≤ p) (p1 : p ≤ 5) => ⟨hm, ?_⟩) (fun (p0 : ¬ (0 ≤ p ∧ p ≤ 5)) => ⟨hm, ?_⟩)
    · refine br_f (show ¬ ((1 : Int) = 0) by decide) ?_
      refine And.intro (show -2147483648 ≤ 12 + p ∧ 12 + p < 2147483648 by omega) ?_
      refine And.intro (show 0 ≤ 12 + p ∧ 12 + p < 19 by omega) ?_
      show Q (some (vi (m m_drawnMoved_ (12 + p)))) (m)
      have e : q_drw m p = m m_drawnMoved_ (12 + p) := by unfold q_drw; rw [if_pos (by omega)]
      rw [e] at h
      exact h
    · refine br_t (show (0 : Int) = 0 by decide) ?_
      show Q (some (vi (-1))) (m)
      have e : q_drw m p = (-1) := by unfold q_drw; rw [if_neg (by omega)]
      rw [e] at h
      exact h
