/-! Methods of the reference, by program (wip/whole/tools/m52.py). -/
theorem M_who {d : Nat} {m : cw_M} {Q : Option cw_V → cw_M → Prop} (hm : la_ok m) (hn : 0 ≤ m m_kept_ 46 ∧ m m_kept_ 46 ≤ 7) {n : Int} (h1 : 0 ≤ n → n < m m_kept_ 46 → Q (some (vi (m m_kept_ (19 + n)))) m) (h0 : ¬ (0 ≤ n ∧ n < m m_kept_ 46) → Q (some (vi (-1))) m) : cw_C (d + 1) k_M_who [vr m_, vi n] m Q := by
  refine la_go_C hm 19 [] ?_
  show cw_C _ _ [vr m_] (m) _
  refine M_many hm ⟨hm, ?_⟩
  refine And.intro (show -2147483648 ≤ (m m_kept_ 46) - 1 ∧ (m m_kept_ 46) - 1 < 2147483648 by omega) ?_
  show cw_C _ _ [vi n, vi 0, vi ((m m_kept_ 46) - 1)] (m) _
  refine M_lies (fun (a1 : 0 ≤ n) (a2 : n ≤ (m m_kept_ 46) - 1) => ⟨hm, ?_⟩) (fun (a3 : ¬ (0 ≤ n ∧ n ≤ (m m_kept_ 46) - 1)) => ⟨hm, ?_⟩)
  · refine br_f (by decide) ?_
    refine And.intro (show -2147483648 ≤ 19 + n ∧ 19 + n < 2147483648 by omega) ?_
    refine And.intro (show 0 ≤ 19 + n ∧ 19 + n < 5658 by omega) ?_
    show Q (some (vi (m m_kept_ (19 + n)))) (m)
    first | exact h1 (by omega) (by omega) | exact h0 (by omega)
  · refine br_t (by decide) ?_
    show Q (some (vi (-1))) (m)
    first | exact h1 (by omega) (by omega) | exact h0 (by omega)
theorem M_end {d : Nat} {m : cw_M} {Q : Option cw_V → cw_M → Prop} (hm : la_ok m) {n : Int} (h1 : 0 ≤ n → n ≤ m m_ 13 → Q (some (vi n)) (cw_put m m_ 13 n)) (h0 : ¬ (0 ≤ n ∧ n ≤ m m_ 13) → Q (some (vi (-1))) m) : cw_C (d + 1) k_M_end [vr m_, vi n] m Q := by
  refine la_go_C hm 14 [] ?_
  show cw_C _ _ [vi n, vi 0, vi (m m_ 13)] (m) _
  refine M_lies (fun (a1 : 0 ≤ n) (a2 : n ≤ m m_ 13) => ⟨hm, ?_⟩) (fun (a3 : ¬ (0 ≤ n ∧ n ≤ m m_ 13)) => ⟨hm, ?_⟩)
  · refine br_t (by decide) ?_
    have hm4 : la_ok (cw_put m m_ 13 n) := la_put hm (by decide) (Or.inl rfl)
    show Q (some (vi n)) (cw_put m m_ 13 n)
    first | exact h1 (by omega) (by omega) | exact h0 (by omega)
  · refine br_f (by decide) ?_
    show Q (some (vi (-1))) (m)
    first | exact h1 (by omega) (by omega) | exact h0 (by omega)
theorem M_blots {d : Nat} {m : cw_M} {Q : Option cw_V → cw_M → Prop} (hm : la_ok m) (h : Q (some (vi (m m_ 6))) m) : cw_C d k_M_blots [vr m_] m Q := by
  refine la_go_C hm 6 [] ?_
  show Q (some (vi (m m_ 6))) (m)
  first | exact h
theorem M_fault {d : Nat} {m : cw_M} {Q : Option cw_V → cw_M → Prop} (hm : la_ok m) (h : Q (some (vi (m m_ 14))) m) : cw_C d k_M_fault [vr m_] m Q := by
  refine la_go_C hm 6 [] ?_
  show Q (some (vi (m m_ 14))) (m)
  first | exact h
theorem M_stopped {d : Nat} {m : cw_M} {Q : Option cw_V → cw_M → Prop} (hm : la_ok m) (h : Q (some (vi (m m_ 45))) m) : cw_C d k_M_stopped [vr m_] m Q := by
  refine la_go_C hm 6 [] ?_
  show Q (some (vi (m m_ 45))) (m)
  first | exact h
theorem M_status {d : Nat} {m : cw_M} {Q : Option cw_V → cw_M → Prop} (hm : la_ok m) (h : Q (some (vi (m m_ 0))) m) : cw_C d k_M_status [vr m_] m Q := by
  refine la_go_C hm 6 [] ?_
  show Q (some (vi (m m_ 0))) (m)
  first | exact h
theorem M_adds {d : Nat} {m : cw_M} {Q : Option cw_V → cw_M → Prop} (hm : la_ok m) (hn : 0 ≤ m m_kept_ 46 ∧ m m_kept_ 46 < 7) {k j p : Int} (h0 : m m_kept_ 46 = 0 → Q none (cw_put (cw_put m m_kept_ (19 + (m m_kept_ 46)) p) m_kept_ 46 ((m m_kept_ 46) + 1))) (h1 : 0 < m m_kept_ 46 → Q none (cw_put (cw_put (cw_put (cw_put m m_kept_ (19 + (m m_kept_ 46)) p) m_kept_ ((6 + (m m_kept_ 46)) - 1) k) m_kept_ ((0 + (m m_kept_ 46)) - 1) j) m_kept_ 46 ((m m_kept_ 46) + 1))) : cw_C (d + 1) k_M_adds [vr m_, vi k, vi j, vi p] m Q := by
  refine la_go_C hm 42 [] ?_
  show cw_C _ _ [vr m_] (m) _
  refine M_many hm ⟨hm, ?_⟩
  refine And.intro (show -2147483648 ≤ 19 + (m m_kept_ 46) ∧ 19 + (m m_kept_ 46) < 2147483648 by omega) ?_
  refine And.intro (show 0 ≤ 19 + (m m_kept_ 46) ∧ 19 + (m m_kept_ 46) < 5658 by omega) ?_
  have hm1 : la_ok (cw_put m m_kept_ (19 + (m m_kept_ 46)) p) := la_put hm (by decide) (Or.inr (by decide))
  refine And.intro (fun (c2 : m m_kept_ 46 ≤ 0) => ?_) (fun (c2 : ¬ (m m_kept_ 46 ≤ 0)) => ?_)
  · refine And.intro (show 0 ≤ 46 ∧ 46 < 5658 by omega) ?_
    have e3 : (cw_put m m_kept_ (19 + (m m_kept_ 46)) p) m_kept_ 46 = m m_kept_ 46 := cw_put_off (by omega)
    refine And.intro (show -2147483648 ≤ ((cw_put m m_kept_ (19 + (m m_kept_ 46)) p) m_kept_ 46) + 1 ∧ ((cw_put m m_kept_ (19 + (m m_kept_ 46)) p) m_kept_ 46) + 1 < 2147483648 by omega) ?_
    refine And.intro (show 0 ≤ 46 ∧ 46 < 5658 by omega) ?_
    have hm4 : la_ok (cw_put (cw_put m m_kept_ (19 + (m m_kept_ 46)) p) m_kept_ 46 (((cw_put m m_kept_ (19 + (m m_kept_ 46)) p) m_kept_ 46) + 1)) := la_put hm1 (by decide) (Or.inr (by decide))
    show Q none (cw_put (cw_put m m_kept_ (19 + (m m_kept_ 46)) p) m_kept_ 46 (((cw_put m m_kept_ (19 + (m m_kept_ 46)) p) m_kept_ 46) + 1))
    try simp only [e3]
    first | exact h0 (by omega) | exact h1 (by omega)
  · refine And.intro (show -2147483648 ≤ 6 + (m m_kept_ 46) ∧ 6 + (m m_kept_ 46) < 2147483648 by omega) ?_
    refine And.intro (show -2147483648 ≤ (6 + (m m_kept_ 46)) - 1 ∧ (6 + (m m_kept_ 46)) - 1 < 2147483648 by omega) ?_
    refine And.intro (show 0 ≤ (6 + (m m_kept_ 46)) - 1 ∧ (6 + (m m_kept_ 46)) - 1 < 5658 by omega) ?_
    have hm5 : la_ok (cw_put (cw_put m m_kept_ (19 + (m m_kept_ 46)) p) m_kept_ ((6 + (m m_kept_ 46)) - 1) k) := la_put hm1 (by decide) (Or.inr (by decide))
    refine And.intro (show -2147483648 ≤ 0 + (m m_kept_ 46) ∧ 0 + (m m_kept_ 46) < 2147483648 by omega) ?_
    refine And.intro (show -2147483648 ≤ (0 + (m m_kept_ 46)) - 1 ∧ (0 + (m m_kept_ 46)) - 1 < 2147483648 by omega) ?_
    refine And.intro (show 0 ≤ (0 + (m m_kept_ 46)) - 1 ∧ (0 + (m m_kept_ 46)) - 1 < 5658 by omega) ?_
    have hm6 : la_ok (cw_put (cw_put (cw_put m m_kept_ (19 + (m m_kept_ 46)) p) m_kept_ ((6 + (m m_kept_ 46)) - 1) k) m_kept_ ((0 + (m m_kept_ 46)) - 1) j) := la_put hm5 (by decide) (Or.inr (by decide))
    refine And.intro (show 0 ≤ 46 ∧ 46 < 5658 by omega) ?_
    have e7 : (cw_put m m_kept_ (19 + (m m_kept_ 46)) p) m_kept_ 46 = m m_kept_ 46 := cw_put_off (by omega)
    have e8 : (cw_put (cw_put m m_kept_ (19 + (m m_kept_ 46)) p) m_kept_ ((6 + (m m_kept_ 46)) - 1) k) m_kept_ 46 = (cw_put m m_kept_ (19 + (m m_kept_ 46)) p) m_kept_ 46 := cw_put_off (by omega)
    have e9 : (cw_put (cw_put (cw_put m m_kept_ (19 + (m m_kept_ 46)) p) m_kept_ ((6 + (m m_kept_ 46)) - 1) k) m_kept_ ((0 + (m m_kept_ 46)) - 1) j) m_kept_ 46 = (cw_put (cw_put m m_kept_ (19 + (m m_kept_ 46)) p) m_kept_ ((6 + (m m_kept_ 46)) - 1) k) m_kept_ 46 := cw_put_off (by omega)
    refine And.intro (show -2147483648 ≤ ((cw_put (cw_put (cw_put m m_kept_ (19 + (m m_kept_ 46)) p) m_kept_ ((6 + (m m_kept_ 46)) - 1) k) m_kept_ ((0 + (m m_kept_ 46)) - 1) j) m_kept_ 46) + 1 ∧ ((cw_put (cw_put (cw_put m m_kept_ (19 + (m m_kept_ 46)) p) m_kept_ ((6 + (m m_kept_ 46)) - 1) k) m_kept_ ((0 + (m m_kept_ 46)) - 1) j) m_kept_ 46) + 1 < 2147483648 by omega) ?_
    refine And.intro (show 0 ≤ 46 ∧ 46 < 5658 by omega) ?_
    have hm10 : la_ok (cw_put (cw_put (cw_put (cw_put m m_kept_ (19 + (m m_kept_ 46)) p) m_kept_ ((6 + (m m_kept_ 46)) - 1) k) m_kept_ ((0 + (m m_kept_ 46)) - 1) j) m_kept_ 46 (((cw_put (cw_put (cw_put m m_kept_ (19 + (m m_kept_ 46)) p) m_kept_ ((6 + (m m_kept_ 46)) - 1) k) m_kept_ ((0 + (m m_kept_ 46)) - 1) j) m_kept_ 46) + 1)) := la_put hm6 (by decide) (Or.inr (by decide))
    show Q none (cw_put (cw_put (cw_put (cw_put m m_kept_ (19 + (m m_kept_ 46)) p) m_kept_ ((6 + (m m_kept_ 46)) - 1) k) m_kept_ ((0 + (m m_kept_ 46)) - 1) j) m_kept_ 46 (((cw_put (cw_put (cw_put m m_kept_ (19 + (m m_kept_ 46)) p) m_kept_ ((6 + (m m_kept_ 46)) - 1) k) m_kept_ ((0 + (m m_kept_ 46)) - 1) j) m_kept_ 46) + 1))
    try simp only [e9, e8, e7]
    first | exact h0 (by omega) | exact h1 (by omega)
def la_ta (w : Int) : Int := if w = 0 then 18 else if w = 1 then 43 else if w = 2 then 44 else 45
def la_tm (w : Int) : Int := if w = 0 then 999 else if w = 1 then 9999 else if w = 2 then 9 else 10
theorem la_ta_r {w : Int} (h : 0 ≤ w ∧ w ≤ 3) : (w = 0 ∧ la_ta w = 18 ∧ la_tm w = 999) ∨ (w = 1 ∧ la_ta w = 43 ∧ la_tm w = 9999) ∨ (w = 2 ∧ la_ta w = 44 ∧ la_tm w = 9) ∨ (w = 3 ∧ la_ta w = 45 ∧ la_tm w = 10) := by
  unfold la_ta la_tm
  rcases (by omega : w = 0 ∨ w = 1 ∨ w = 2 ∨ w = 3) with h | h | h | h <;> subst h <;> simp
theorem M_join {d : Nat} {m : cw_M} {Q : Option cw_V → cw_M → Prop} (hm : la_ok m) (hn : 0 ≤ m m_kept_ 46 ∧ m m_kept_ 46 ≤ 7) {j w : Int} (h1 : 0 ≤ j → j < m m_kept_ 46 - 1 → w = 0 → Q (some (vi (m m_kept_ (6 + j)))) m) (h2 : 0 ≤ j → j < m m_kept_ 46 - 1 → w = 1 → Q (some (vi (m m_kept_ (0 + j)))) m) (h0 : ¬ ((0 ≤ j ∧ j < m m_kept_ 46 - 1) ∧ (w = 0 ∨ w = 1)) → Q (some (vi (-1))) m) : cw_C (d + 3) k_M_join [vr m_, vi j, vi w] m Q := by
  refine la_go_C hm 9 [11] ?_
  show cw_C _ _ [vr m_, vi j] (m) _
  refine M_isJoin hm hn (fun (a1 : 0 ≤ j) (a2 : j < m m_kept_ 46 - 1) => ⟨hm, ?_⟩) (fun (a3 : ¬ (0 ≤ j ∧ j < m m_kept_ 46 - 1)) => ⟨hm, ?_⟩)
  · refine br_t (by decide) ?_
    refine la_lks rfl ?_
    by_cases k4 : w = 0
    · rw [k4]
      show cw_R _ _ 36 _ _ _ _
      refine la_go_R hm 10 [11] ?_
      refine And.intro (show -2147483648 ≤ 6 + j ∧ 6 + j < 2147483648 by omega) ?_
      refine And.intro (show 0 ≤ 6 + j ∧ 6 + j < 5658 by omega) ?_
      show Q (some (vi (m m_kept_ (6 + j)))) (m)
      first | exact h1 (by omega) (by omega) (by omega) | exact h2 (by omega) (by omega) (by omega) | exact h0 (by omega)
    by_cases k5 : w = 1
    · rw [k5]
      show cw_R _ _ 46 _ _ _ _
      refine la_go_R hm 10 [11] ?_
      refine And.intro (show -2147483648 ≤ 0 + j ∧ 0 + j < 2147483648 by omega) ?_
      refine And.intro (show 0 ≤ 0 + j ∧ 0 + j < 5658 by omega) ?_
      show Q (some (vi (m m_kept_ (0 + j)))) (m)
      first | exact h1 (by omega) (by omega) (by omega) | exact h2 (by omega) (by omega) (by omega) | exact h0 (by omega)
    rw [la_lkd (by simp; omega)]
    show cw_R _ _ 55 _ _ _ _
    refine la_go_R hm 5 [11] ?_
    show Q (some (vi (-1))) (m)
    first | exact h1 (by omega) (by omega) (by omega) | exact h2 (by omega) (by omega) (by omega) | exact h0 (by omega)
  · refine br_f (by decide) ?_
    show Q (some (vi (-1))) (m)
    first | exact h1 (by omega) (by omega) (by omega) | exact h2 (by omega) (by omega) (by omega) | exact h0 (by omega)
theorem M_termAt {d : Nat} {m : cw_M} {Q : Option cw_V → cw_M → Prop} (hm : la_ok m) {w : Int} (h : Q (some (vi (la_ta w))) m) : cw_C d k_M_termAt [vi w] m Q := by
  refine la_go_C hm 14 [] ?_
  refine And.intro (fun (c1 : w ≠ 0) => ?_) (fun (c1 : ¬ (w ≠ 0)) => ?_)
  · refine And.intro (fun (c2 : w ≠ 1) => ?_) (fun (c2 : ¬ (w ≠ 1)) => ?_)
    · refine And.intro (fun (c3 : w ≠ 2) => ?_) (fun (c3 : ¬ (w ≠ 2)) => ?_)
      · show Q (some (vi 45)) (m)
        rw [show la_ta w = 45 from by unfold la_ta; repeat' split <;> omega] at h
        exact h
      · show Q (some (vi 44)) (m)
        rw [show la_ta w = 44 from by unfold la_ta; repeat' split <;> omega] at h
        exact h
    · show Q (some (vi 43)) (m)
      rw [show la_ta w = 43 from by unfold la_ta; repeat' split <;> omega] at h
      exact h
  · show Q (some (vi 18)) (m)
    rw [show la_ta w = 18 from by unfold la_ta; repeat' split <;> omega] at h
    exact h
theorem M_isTerm {d : Nat} {m : cw_M} {Q : Option cw_V → cw_M → Prop} (hm : la_ok m) {w v : Int} (h1 : 0 ≤ w ∧ w ≤ 3 → 0 ≤ v ∧ v ≤ la_tm w → Q (some (vi 1)) m) (h0 : ¬ ((0 ≤ w ∧ w ≤ 3) ∧ 0 ≤ v ∧ v ≤ la_tm w) → Q (some (vi 0)) m) : cw_C (d + 1) k_M_isTerm [vi w, vi v] m Q := by
  refine la_go_C hm 5 [1] ?_
  refine la_ts rfl ?_
  by_cases k1 : w = 0
  · rw [k1]
    show cw_R _ _ 32 _ _ _ _
    refine la_go_R hm 8 [1] ?_
    show cw_C _ _ [vi v, vi 0, vi 999] (m) _
    refine M_lies (fun (a2 : 0 ≤ v) (a3 : v ≤ 999) => ⟨hm, ?_⟩) (fun (a4 : ¬ (0 ≤ v ∧ v ≤ 999)) => ⟨hm, ?_⟩)
    · refine And.intro (Or.inr rfl) ?_
      show Q (some (vi 1)) (m)
      unfold la_tm at h1 h0
      exact h1 (by omega) (by repeat' split <;> omega)
    · refine And.intro (Or.inl rfl) ?_
      show Q (some (vi 0)) (m)
      unfold la_tm at h1 h0
      exact h0 (by repeat' split <;> omega)
  by_cases k5 : w = 1
  · rw [k5]
    show cw_R _ _ 41 _ _ _ _
    refine la_go_R hm 8 [1] ?_
    show cw_C _ _ [vi v, vi 0, vi 9999] (m) _
    refine M_lies (fun (a6 : 0 ≤ v) (a7 : v ≤ 9999) => ⟨hm, ?_⟩) (fun (a8 : ¬ (0 ≤ v ∧ v ≤ 9999)) => ⟨hm, ?_⟩)
    · refine And.intro (Or.inr rfl) ?_
      show Q (some (vi 1)) (m)
      unfold la_tm at h1 h0
      exact h1 (by omega) (by repeat' split <;> omega)
    · refine And.intro (Or.inl rfl) ?_
      show Q (some (vi 0)) (m)
      unfold la_tm at h1 h0
      exact h0 (by repeat' split <;> omega)
  by_cases k9 : w = 2
  · rw [k9]
    show cw_R _ _ 50 _ _ _ _
    refine la_go_R hm 8 [1] ?_
    show cw_C _ _ [vi v, vi 0, vi 9] (m) _
    refine M_lies (fun (a10 : 0 ≤ v) (a11 : v ≤ 9) => ⟨hm, ?_⟩) (fun (a12 : ¬ (0 ≤ v ∧ v ≤ 9)) => ⟨hm, ?_⟩)
    · refine And.intro (Or.inr rfl) ?_
      show Q (some (vi 1)) (m)
      unfold la_tm at h1 h0
      exact h1 (by omega) (by repeat' split <;> omega)
    · refine And.intro (Or.inl rfl) ?_
      show Q (some (vi 0)) (m)
      unfold la_tm at h1 h0
      exact h0 (by repeat' split <;> omega)
  by_cases k13 : w = 3
  · rw [k13]
    show cw_R _ _ 58 _ _ _ _
    refine la_go_R hm 8 [1] ?_
    show cw_C _ _ [vi v, vi 0, vi 10] (m) _
    refine M_lies (fun (a14 : 0 ≤ v) (a15 : v ≤ 10) => ⟨hm, ?_⟩) (fun (a16 : ¬ (0 ≤ v ∧ v ≤ 10)) => ⟨hm, ?_⟩)
    · refine And.intro (Or.inr rfl) ?_
      show Q (some (vi 1)) (m)
      unfold la_tm at h1 h0
      exact h1 (by omega) (by repeat' split <;> omega)
    · refine And.intro (Or.inl rfl) ?_
      show Q (some (vi 0)) (m)
      unfold la_tm at h1 h0
      exact h0 (by repeat' split <;> omega)
  rw [la_tsd (by omega)]
  show cw_R _ _ 66 _ _ _ _
  refine la_go_R hm 5 [1] ?_
  refine And.intro (Or.inl rfl) ?_
  show Q (some (vi 0)) (m)
  unfold la_tm at h1 h0
  exact h0 (by repeat' split <;> omega)
