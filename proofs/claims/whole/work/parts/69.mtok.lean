/-! The reference reads: what it does with one token (wip/whole/tools/m69.py). -/
def y_m (m : cw_M) (tk lv bd : Int) : cw_M := fun c => if c = m_ then (fun j => if j = 19 then tk else if j = 20 then lv else if j = 21 then bd else m m_ j) else m c
theorem y_m_ne {m : cw_M} {tk lv bd : Int} {c : Int} (h0 : c ≠ m_) : y_m m tk lv bd c = m c := by
  unfold y_m; rw [if_neg h0]
theorem y_m_om_ {m : cw_M} {tk lv bd : Int} {j : Int} (h0 : j ≠ 19) (h1 : j ≠ 20) (h2 : j ≠ 21) : y_m m tk lv bd m_ j = m m_ j := by
  show (if j = 19 then tk else if j = 20 then lv else if j = 21 then bd else m m_ j) = _
  rw [if_neg h0, if_neg h1, if_neg h2]
theorem y_m_ok {m : cw_M} {tk lv bd : Int} (hm : la_ok m) : la_ok (y_m m tk lv bd) := by
  refine ⟨by rw [y_m_ne (by decide)]; exact hm.1, fun e he => ?_⟩
  obtain ⟨z1, h2, -, z4⟩ := la_lok e he
  by_cases q0 : e.1 = m_
  · rw [q0, y_m_om_ (fun q => by rw [q0, q] at z4; cases z4) (fun q => by rw [q0, q] at z4; cases z4) (fun q => by rw [q0, q] at z4; cases z4), ← q0]; exact hm.2 e he
  rw [y_m_ne  q0]; exact hm.2 e he
theorem y_m_x {m M : cw_M} {tk lv bd : Int}  (f0 : M m_ 19 = tk) (f1 : M m_ 20 = lv) (f2 : M m_ 21 = bd) (o0 : ∀ j, j ≠ 19 → j ≠ 20 → j ≠ 21 → M m_ j = m m_ j) (h : ∀ c, c ≠ m_ → M c = m c) : M = y_m m tk lv bd := by
  funext c
  by_cases h0 : c = m_
  · funext j
    rw [h0]
    by_cases z0 : j = 19
    · rw [z0, f0]; rfl
    by_cases z1 : j = 20
    · rw [z1, f1]; rfl
    by_cases z2 : j = 21
    · rw [z2, f2]; rfl
    rw [o0 j z0 z1 z2, y_m_om_ z0 z1 z2]
  rw [h c h0, y_m_ne h0]
theorem y_m_ftk {m : cw_M} {tk lv bd : Int} {v : Int} : cw_put (y_m m tk lv bd) m_ 19 v = y_m m v lv bd := by
  refine y_m_x rfl rfl rfl (fun j z0 z1 z2 => by rw [cw_put_off z0, y_m_om_ z0 z1 z2]) (fun c h0 => by rw [cw_put_ne h0, y_m_ne h0])
theorem y_m_flv {m : cw_M} {tk lv bd : Int} {v : Int} : cw_put (y_m m tk lv bd) m_ 20 v = y_m m tk v bd := by
  refine y_m_x rfl rfl rfl (fun j z0 z1 z2 => by rw [cw_put_off z1, y_m_om_ z0 z1 z2]) (fun c h0 => by rw [cw_put_ne h0, y_m_ne h0])
theorem y_m_fbd {m : cw_M} {tk lv bd : Int} {v : Int} : cw_put (y_m m tk lv bd) m_ 21 v = y_m m tk lv v := by
  refine y_m_x rfl rfl rfl (fun j z0 z1 z2 => by rw [cw_put_off z2, y_m_om_ z0 z1 z2]) (fun c h0 => by rw [cw_put_ne h0, y_m_ne h0])
theorem y_m_2 {m : cw_M} {tk lv bd : Int} {tk' lv' bd' : Int} : y_m (y_m m tk lv bd) tk' lv' bd' = y_m m tk' lv' bd' := by
  refine y_m_x rfl rfl rfl (fun j z0 z1 z2 => by rw [y_m_om_ z0 z1 z2, y_m_om_ z0 z1 z2]) (fun c h0 => by rw [y_m_ne h0, y_m_ne h0])
theorem y_m_self {m : cw_M} : y_m m  (m m_ 19) (m m_ 20) (m m_ 21) = m := by
  refine (y_m_x rfl rfl rfl (fun _ _ _ _ => rfl) (fun _ _ => rfl)).symm
def Y_h (m : cw_M) (c v pl : Int → Int) (o : Bool) (n : Int) : Prop := (0 ≤ n ∧ n ≤ 400) ∧ c n = 0 ∧ (∀ i, 0 ≤ i → i ≤ n → m m_code_ i = c i ∧ m m_value_ i = v i ∧ m m_placed_ i = pl i ∧ 0 ≤ pl i ∧ 0 ≤ v i) ∧ (m m_ 10 = if o = true then 1 else 0) ∧ m m_ 8 = p_fw o ∧ m m_ 9 = p_la o
theorem M_fine1 {d : Nat} {m : cw_M} {Q : Option cw_V → cw_M → Prop} {tk lv : Int} (hm0 : la_ok m) (h : Q (some (vi 1)) (y_m m tk lv (-1))) : cw_C d k_M_fine [vr m_] (y_m m tk lv (-1)) Q := by
  have hm : la_ok (y_m m tk lv (-1)) := y_m_ok hm0
  refine la_go_C hm 10 [] ?_
  refine br_f (show ¬ ((-1 : Int) ≠ (-1)) by decide) ?_
  refine And.intro (Or.inr rfl) ?_
  show Q (some (vi 1)) (y_m m tk lv (-1))
  exact h
theorem M_fine0 {d : Nat} {m : cw_M} {Q : Option cw_V → cw_M → Prop} {tk lv bd : Int} (hm0 : la_ok m) (hbd : 0 ≤ bd) (h : Q (some (vi 0)) (y_m m tk lv bd)) : cw_C d k_M_fine [vr m_] (y_m m tk lv bd) Q := by
  have hm : la_ok (y_m m tk lv bd) := y_m_ok hm0
  refine la_go_C hm 9 [] ?_
  refine br_t (show bd ≠ (-1) by omega) ?_
  refine And.intro (Or.inl rfl) ?_
  show Q (some (vi 0)) (y_m m tk lv bd)
  exact h
theorem M_faults1 {d : Nat} {m : cw_M} {Q : Option cw_V → cw_M → Prop} {c v pl : Int → Int} {o : Bool} {n : Int} (hm0 : la_ok m) (hY : Y_h m c v pl o n) {tk lv : Int} (h0 : 0 ≤ tk) (h1 : tk ≤ n) (k : ∀ bd, bd = pl tk → 0 ≤ bd → Q none (y_m m tk lv bd)) : cw_C (d + 1) k_M_faults [vr m_] (y_m m tk lv (-1)) Q := by
  have hm : la_ok (y_m m tk lv (-1)) := y_m_ok hm0
  have yn := hY.1
  have y := hY.2.2.1 tk h0 h1
  refine la_go_C hm 14 [] ?_
  show cw_C _ _ [vr m_] (y_m m tk lv (-1)) _
  refine M_fine1 hm0 ⟨hm, ?_⟩
  refine br_f (show ¬ ((1 : Int) = 0) by decide) ?_
  refine And.intro (show 0 ≤ tk ∧ tk < 401 by omega) ?_
  have hm1 : la_ok (cw_put (y_m m tk lv (-1)) m_ 21 (m m_placed_ tk)) := la_put hm (by decide) (Or.inl rfl)
  show Q none (cw_put (y_m m tk lv (-1)) m_ 21 (m m_placed_ tk))
  rw [y_m_fbd]
  have hm2 : la_ok (y_m m tk lv (m m_placed_ tk)) := y_m_ok hm0
  rw [y.2.2.1]
  exact k _ rfl y.2.2.2.1
theorem M_faults0 {d : Nat} {m : cw_M} {Q : Option cw_V → cw_M → Prop} {tk lv bd : Int} (hm0 : la_ok m) (hbd : 0 ≤ bd) (h : Q none (y_m m tk lv bd)) : cw_C (d + 1) k_M_faults [vr m_] (y_m m tk lv bd) Q := by
  have hm : la_ok (y_m m tk lv bd) := y_m_ok hm0
  refine la_go_C hm 7 [] ?_
  show cw_C _ _ [vr m_] (y_m m tk lv bd) _
  refine M_fine0 hm0 (by omega) ⟨hm, ?_⟩
  refine br_t (show (0 : Int) = 0 by decide) ?_
  show Q none (y_m m tk lv bd)
  exact h
theorem M_takes01 {d : Nat} {m : cw_M} {Q : Option cw_V → cw_M → Prop} {c v pl : Int → Int} {o : Bool} {n : Int} (hm0 : la_ok m) (hY : Y_h m c v pl o n) {tk lv : Int} (h0 : 0 ≤ tk) (h1 : tk ≤ n) {ch : Int} (k1 : c tk = ch → Q (some (vi 1)) (y_m m (tk + 1) lv (-1))) (k0 : c tk ≠ ch → Q (some (vi 0)) (y_m m tk lv (-1))) : cw_C (d + 1) k_M_takes0 [vr m_, vi ch] (y_m m tk lv (-1)) Q := by
  have hm : la_ok (y_m m tk lv (-1)) := y_m_ok hm0
  have yn := hY.1
  have y := hY.2.2.1 tk h0 h1
  refine la_go_C hm 26 [] ?_
  show cw_C _ _ [vr m_] (y_m m tk lv (-1)) _
  refine M_fine1 hm0 ⟨hm, ?_⟩
  refine br_f (show ¬ ((1 : Int) = 0) by decide) ?_
  refine And.intro (show 0 ≤ tk ∧ tk < 401 by omega) ?_
  refine And.intro (fun (c1 : m m_code_ tk ≠ ch) => ?_) (fun (c1 : ¬ (m m_code_ tk ≠ ch)) => ?_)
  · refine br_t (show (0 : Int) = 0 by decide) ?_
    refine And.intro (Or.inl rfl) ?_
    show Q (some (vi 0)) (y_m m tk lv (-1))
    exact k0 (by omega)
  · refine br_f (show ¬ ((1 : Int) = 0) by decide) ?_
    refine And.intro (show -2147483648 ≤ tk + 1 ∧ tk + 1 < 2147483648 by omega) ?_
    have hm2 : la_ok (cw_put (y_m m tk lv (-1)) m_ 19 (tk + 1)) := la_put hm (by decide) (Or.inl rfl)
    refine And.intro (Or.inr rfl) ?_
    show Q (some (vi 1)) (cw_put (y_m m tk lv (-1)) m_ 19 (tk + 1))
    rw [y_m_ftk]
    have hm3 : la_ok (y_m m (tk + 1) lv (-1)) := y_m_ok hm0
    exact k1 (by omega)
theorem M_takes00 {d : Nat} {m : cw_M} {Q : Option cw_V → cw_M → Prop} {tk lv bd ch : Int} (hm0 : la_ok m) (hbd : 0 ≤ bd) (h : Q (some (vi 0)) (y_m m tk lv bd)) : cw_C (d + 1) k_M_takes0 [vr m_, vi ch] (y_m m tk lv bd) Q := by
  have hm : la_ok (y_m m tk lv bd) := y_m_ok hm0
  refine la_go_C hm 12 [] ?_
  show cw_C _ _ [vr m_] (y_m m tk lv bd) _
  refine M_fine0 hm0 (by omega) ⟨hm, ?_⟩
  refine br_t (show (0 : Int) = 0 by decide) ?_
  refine br_t (show (0 : Int) = 0 by decide) ?_
  refine And.intro (Or.inl rfl) ?_
  show Q (some (vi 0)) (y_m m tk lv bd)
  exact h
theorem M_must1 {d : Nat} {m : cw_M} {Q : Option cw_V → cw_M → Prop} {c v pl : Int → Int} {o : Bool} {n : Int} (hm0 : la_ok m) (hY : Y_h m c v pl o n) {tk lv : Int} (h0 : 0 ≤ tk) (h1 : tk ≤ n) {ch : Int} (k1 : c tk = ch → Q none (y_m m (tk + 1) lv (-1))) (k0 : c tk ≠ ch → ∀ bd, bd = pl tk → 0 ≤ bd → Q none (y_m m tk lv bd)) : cw_C (d + 2) k_M_must [vr m_, vi ch] (y_m m tk lv (-1)) Q := by
  have hm : la_ok (y_m m tk lv (-1)) := y_m_ok hm0
  have yn := hY.1
  have y := hY.2.2.1 tk h0 h1
  refine la_go_C hm 10 [] ?_
  show cw_C _ _ [vr m_, vi ch] (y_m m tk lv (-1)) _
  refine M_takes01 hm0 hY (by omega) (by omega) (fun (a1 : c tk = ch) => ⟨(y_m_ok hm0), ?_⟩) (fun (a1 : c tk ≠ ch) => ⟨hm, ?_⟩)
  · refine br_t (show (1 : Int) ≠ 0 by decide) ?_
    show Q none (y_m m (tk + 1) lv (-1))
    exact k1 (by omega)
  · refine br_f (show ¬ ((0 : Int) ≠ 0) by decide) ?_
    show cw_C _ _ [vr m_] (y_m m tk lv (-1)) _
    refine M_faults1 hm0 hY (by omega) (by omega) (fun (b2 : Int) (eb2 : b2 = pl tk) (nb2 : 0 ≤ b2) => ⟨(y_m_ok hm0), ?_⟩)
    show Q none (y_m m tk lv b2)
    exact k0 (by omega) _ eb2 nb2
theorem M_must0 {d : Nat} {m : cw_M} {Q : Option cw_V → cw_M → Prop} {tk lv bd ch : Int} (hm0 : la_ok m) (hbd : 0 ≤ bd) (h : Q none (y_m m tk lv bd)) : cw_C (d + 2) k_M_must [vr m_, vi ch] (y_m m tk lv bd) Q := by
  have hm : la_ok (y_m m tk lv bd) := y_m_ok hm0
  refine la_go_C hm 10 [] ?_
  show cw_C _ _ [vr m_, vi ch] (y_m m tk lv bd) _
  refine M_takes00 hm0 (by omega) ⟨hm, ?_⟩
  refine br_f (show ¬ ((0 : Int) ≠ 0) by decide) ?_
  show cw_C _ _ [vr m_] (y_m m tk lv bd) _
  refine M_faults0 hm0 (by omega) ⟨hm, ?_⟩
  show Q none (y_m m tk lv bd)
  exact h
theorem M_leaf1 {d : Nat} {m : cw_M} {Q : Option cw_V → cw_M → Prop} {c v pl : Int → Int} {o : Bool} {n : Int} (hm0 : la_ok m) (hY : Y_h m c v pl o n) {tk lv : Int} (h0 : 0 ≤ tk) (h1 : tk ≤ n) (hl : 0 ≤ lv ∧ lv ≤ 50) (k1 : lv ≠ 50 → Q none (y_m m (tk + 1) (lv + 1) (-1))) (k0 : lv = 50 → ∀ bd, bd = pl tk → 0 ≤ bd → Q none (y_m m tk (lv + 1) bd)) : cw_C (d + 2) k_M_leaf [vr m_] (y_m m tk lv (-1)) Q := by
  have hm : la_ok (y_m m tk lv (-1)) := y_m_ok hm0
  have yn := hY.1
  have y := hY.2.2.1 tk h0 h1
  refine la_go_C hm 23 [] ?_
  refine And.intro (fun (c1 : lv ≠ 50) => ?_) (fun (c1 : ¬ (lv ≠ 50)) => ?_)
  · refine And.intro (show -2147483648 ≤ lv + 1 ∧ lv + 1 < 2147483648 by omega) ?_
    have hm2 : la_ok (cw_put (y_m m tk lv (-1)) m_ 20 (lv + 1)) := la_put hm (by decide) (Or.inl rfl)
    show cw_C _ _ [vr m_] (cw_put (y_m m tk lv (-1)) m_ 20 (lv + 1)) _
    rw [y_m_flv]
    have hm3 : la_ok (y_m m tk (lv + 1) (-1)) := y_m_ok hm0
    refine M_fine1 hm0 ⟨hm3, ?_⟩
    refine br_f (show ¬ ((1 : Int) = 0) by decide) ?_
    refine And.intro (show -2147483648 ≤ tk + 1 ∧ tk + 1 < 2147483648 by omega) ?_
    have hm4 : la_ok (cw_put (y_m m tk (lv + 1) (-1)) m_ 19 (tk + 1)) := la_put hm3 (by decide) (Or.inl rfl)
    show Q none (cw_put (y_m m tk (lv + 1) (-1)) m_ 19 (tk + 1))
    rw [y_m_ftk]
    have hm5 : la_ok (y_m m (tk + 1) (lv + 1) (-1)) := y_m_ok hm0
    exact k1 (by omega)
  · show cw_C _ _ [vr m_] (y_m m tk lv (-1)) _
    refine M_faults1 hm0 hY (by omega) (by omega) (fun (b6 : Int) (eb6 : b6 = pl tk) (nb6 : 0 ≤ b6) => ⟨(y_m_ok hm0), ?_⟩)
    refine And.intro (show -2147483648 ≤ lv + 1 ∧ lv + 1 < 2147483648 by omega) ?_
    have hm7 : la_ok (cw_put (y_m m tk lv b6) m_ 20 (lv + 1)) := la_put (y_m_ok hm0) (by decide) (Or.inl rfl)
    show cw_C _ _ [vr m_] (cw_put (y_m m tk lv b6) m_ 20 (lv + 1)) _
    rw [y_m_flv]
    have hm8 : la_ok (y_m m tk (lv + 1) b6) := y_m_ok hm0
    refine M_fine0 hm0 (by omega) ⟨hm8, ?_⟩
    refine br_t (show (0 : Int) = 0 by decide) ?_
    show Q none (y_m m tk (lv + 1) b6)
    exact k0 (by omega) _ eb6 nb6
theorem M_sign {d : Nat} {m : cw_M} {a r : Int} {Q : Option cw_V → cw_M → Prop} (h0 : 0 ≤ a ∧ a < 1000) (hr : 100 + a = r) (h : Q (some (vi r)) m) : cw_C d k_M_sign [vi a] m Q := by
  refine cw_go_C 12 [] ?_
  show Q (some (vi (cw_w (100 + a)))) m
  have e : cw_w (100 + a) = 100 + a := cw_w_id (by unfold cw_r; omega)
  rw [e, hr]; exact h
theorem M_mustNumber1 {d : Nat} {m : cw_M} {Q : Option cw_V → cw_M → Prop} {c v pl : Int → Int} {o : Bool} {n : Int} (hm0 : la_ok m) (hY : Y_h m c v pl o n) {tk lv : Int} (h0 : 0 ≤ tk) (h1 : tk ≤ n) {lo hi : Int} (k1 : c tk = 50 → lo ≤ v tk → v tk ≤ hi → Q none (y_m m (tk + 1) lv (-1))) (k0 : ¬ (c tk = 50 ∧ lo ≤ v tk ∧ v tk ≤ hi) → ∀ bd, bd = pl tk → 0 ≤ bd → Q none (y_m m tk lv bd)) : cw_C (d + 2) k_M_mustNumber [vr m_, vi lo, vi hi] (y_m m tk lv (-1)) Q := by
  have hm : la_ok (y_m m tk lv (-1)) := y_m_ok hm0
  have yn := hY.1
  have y := hY.2.2.1 tk h0 h1
  refine la_go_C hm 32 [] ?_
  show cw_C _ _ [vr m_] (y_m m tk lv (-1)) _
  refine M_fine1 hm0 ⟨hm, ?_⟩
  refine br_f (show ¬ ((1 : Int) = 0) by decide) ?_
  refine And.intro (show 0 ≤ tk ∧ tk < 401 by omega) ?_
  refine And.intro (fun (c1 : m m_code_ tk ≠ 50) => ?_) (fun (c1 : ¬ (m m_code_ tk ≠ 50)) => ?_)
  · show cw_C _ _ [vr m_] (y_m m tk lv (-1)) _
    refine M_faults1 hm0 hY (by omega) (by omega) (fun (b2 : Int) (eb2 : b2 = pl tk) (nb2 : 0 ≤ b2) => ⟨(y_m_ok hm0), ?_⟩)
    show cw_C _ _ [vr m_] (y_m m tk lv b2) _
    refine M_fine0 hm0 (by omega) ⟨(y_m_ok hm0), ?_⟩
    refine br_t (show (0 : Int) = 0 by decide) ?_
    show Q none (y_m m tk lv b2)
    exact k0 (by omega) _ eb2 nb2
  · refine And.intro (show 0 ≤ tk ∧ tk < 401 by omega) ?_
    show cw_C _ _ [vi (m m_value_ tk), vi lo, vi hi] (y_m m tk lv (-1)) _
    refine M_lies (fun (a3 : lo ≤ m m_value_ tk) (a4 : m m_value_ tk ≤ hi) => ⟨hm, ?_⟩) (fun (a5 : ¬ (lo ≤ m m_value_ tk ∧ m m_value_ tk ≤ hi)) => ⟨hm, ?_⟩)
    · refine br_t (show (1 : Int) ≠ 0 by decide) ?_
      show cw_C _ _ [vr m_] (y_m m tk lv (-1)) _
      refine M_fine1 hm0 ⟨hm, ?_⟩
      refine br_f (show ¬ ((1 : Int) = 0) by decide) ?_
      refine And.intro (show -2147483648 ≤ tk + 1 ∧ tk + 1 < 2147483648 by omega) ?_
      have hm6 : la_ok (cw_put (y_m m tk lv (-1)) m_ 19 (tk + 1)) := la_put hm (by decide) (Or.inl rfl)
      show Q none (cw_put (y_m m tk lv (-1)) m_ 19 (tk + 1))
      rw [y_m_ftk]
      have hm7 : la_ok (y_m m (tk + 1) lv (-1)) := y_m_ok hm0
      exact k1 (by omega) (by omega) (by omega)
    · refine br_f (show ¬ ((0 : Int) ≠ 0) by decide) ?_
      show cw_C _ _ [vr m_] (y_m m tk lv (-1)) _
      refine M_faults1 hm0 hY (by omega) (by omega) (fun (b8 : Int) (eb8 : b8 = pl tk) (nb8 : 0 ≤ b8) => ⟨(y_m_ok hm0), ?_⟩)
      show cw_C _ _ [vr m_] (y_m m tk lv b8) _
      refine M_fine0 hm0 (by omega) ⟨(y_m_ok hm0), ?_⟩
      refine br_t (show (0 : Int) = 0 by decide) ?_
      show Q none (y_m m tk lv b8)
      exact k0 (by omega) _ eb8 nb8
theorem M_mustNumber0 {d : Nat} {m : cw_M} {Q : Option cw_V → cw_M → Prop} {tk lv bd lo hi : Int} (hm0 : la_ok m) (hbd : 0 ≤ bd) (h : Q none (y_m m tk lv bd)) : cw_C (d + 1) k_M_mustNumber [vr m_, vi lo, vi hi] (y_m m tk lv bd) Q := by
  have hm : la_ok (y_m m tk lv bd) := y_m_ok hm0
  refine la_go_C hm 10 [] ?_
  show cw_C _ _ [vr m_] (y_m m tk lv bd) _
  refine M_fine0 hm0 (by omega) ⟨hm, ?_⟩
  refine br_t (show (0 : Int) = 0 by decide) ?_
  show cw_C _ _ [vr m_] (y_m m tk lv bd) _
  refine M_fine0 hm0 (by omega) ⟨hm, ?_⟩
  refine br_t (show (0 : Int) = 0 by decide) ?_
  show Q none (y_m m tk lv bd)
  exact h
theorem M_readPart0 {d : Nat} {m : cw_M} {Q : Option cw_V → cw_M → Prop} {tk lv bd dp : Int} (hm0 : la_ok m) (hbd : 0 ≤ bd) (h : Q none (y_m m tk lv bd)) : cw_C (d + 1) k_M_readPart [vr m_, vi dp] (y_m m tk lv bd) Q := by
  have hm : la_ok (y_m m tk lv bd) := y_m_ok hm0
  refine la_go_C hm 7 [] ?_
  show cw_C _ _ [vr m_] (y_m m tk lv bd) _
  refine M_fine0 hm0 (by omega) ⟨hm, ?_⟩
  refine br_f (show ¬ ((0 : Int) ≠ 0) by decide) ?_
  show Q none (y_m m tk lv bd)
  exact h
theorem M_readTerm0 {d : Nat} {m : cw_M} {Q : Option cw_V → cw_M → Prop} {tk lv bd dp : Int} (hm0 : la_ok m) (hbd : 0 ≤ bd) (h : Q none (y_m m tk lv bd)) : cw_C (d + 2) k_M_readTerm [vr m_, vi dp] (y_m m tk lv bd) Q := by
  have hm : la_ok (y_m m tk lv bd) := y_m_ok hm0
  refine la_go_C hm 22 [] ?_
  show cw_C _ _ [vr m_, vi dp] (y_m m tk lv bd) _
  refine M_readPart0 hm0 (by omega) ⟨hm, ?_⟩
  show cw_C _ _ [vi 42] (y_m m tk lv bd) _
  refine M_sign (by decide) rfl ⟨hm, ?_⟩
  show cw_C _ _ [vr m_, vi 142] (y_m m tk lv bd) _
  refine M_takes00 hm0 (by omega) ⟨hm, ?_⟩
  refine br_f (show ¬ ((0 : Int) ≠ 0) by decide) ?_
  show cw_C _ _ [vi 47] (y_m m tk lv bd) _
  refine M_sign (by decide) rfl ⟨hm, ?_⟩
  show cw_C _ _ [vr m_, vi 147] (y_m m tk lv bd) _
  refine M_takes00 hm0 (by omega) ⟨hm, ?_⟩
  refine br_f (show ¬ ((0 : Int) ≠ 0) by decide) ?_
  show cw_C _ _ [vi 37] (y_m m tk lv bd) _
  refine M_sign (by decide) rfl ⟨hm, ?_⟩
  show cw_C _ _ [vr m_, vi 137] (y_m m tk lv bd) _
  refine M_takes00 hm0 (by omega) ⟨hm, ?_⟩
  refine br_t (show (0 : Int) = 0 by decide) ?_
  show Q none (y_m m tk lv bd)
  exact h
theorem M_readSum0 {d : Nat} {m : cw_M} {Q : Option cw_V → cw_M → Prop} {tk lv bd dp : Int} (hm0 : la_ok m) (hbd : 0 ≤ bd) (h : Q none (y_m m tk lv bd)) : cw_C (d + 3) k_M_readSum [vr m_, vi dp] (y_m m tk lv bd) Q := by
  have hm : la_ok (y_m m tk lv bd) := y_m_ok hm0
  refine la_go_C hm 17 [] ?_
  show cw_C _ _ [vr m_, vi dp] (y_m m tk lv bd) _
  refine M_readTerm0 hm0 (by omega) ⟨hm, ?_⟩
  show cw_C _ _ [vi 43] (y_m m tk lv bd) _
  refine M_sign (by decide) rfl ⟨hm, ?_⟩
  show cw_C _ _ [vr m_, vi 143] (y_m m tk lv bd) _
  refine M_takes00 hm0 (by omega) ⟨hm, ?_⟩
  refine br_f (show ¬ ((0 : Int) ≠ 0) by decide) ?_
  show cw_C _ _ [vi 45] (y_m m tk lv bd) _
  refine M_sign (by decide) rfl ⟨hm, ?_⟩
  show cw_C _ _ [vr m_, vi 145] (y_m m tk lv bd) _
  refine M_takes00 hm0 (by omega) ⟨hm, ?_⟩
  refine br_t (show (0 : Int) = 0 by decide) ?_
  show Q none (y_m m tk lv bd)
  exact h
theorem M_readPlain0 {d : Nat} {m : cw_M} {Q : Option cw_V → cw_M → Prop} {tk lv bd dp : Int} (hm0 : la_ok m) (hbd : 0 ≤ bd) (h : Q none (y_m m tk lv bd)) : cw_C (d + 2) k_M_readPlain [vr m_, vi dp] (y_m m tk lv bd) Q := by
  have hm : la_ok (y_m m tk lv bd) := y_m_ok hm0
  refine la_go_C hm 18 [] ?_
  refine br_f (show ¬ ((1 : Int) = 0) by decide) ?_
  show cw_C _ _ [vr m_, vi 7] (y_m m tk lv bd) _
  refine M_takes00 hm0 (by omega) ⟨hm, ?_⟩
  refine br_t (show (0 : Int) = 0 by decide) ?_
  show cw_C _ _ [vr m_] (y_m m tk lv bd) _
  refine M_fine0 hm0 (by omega) ⟨hm, ?_⟩
  refine br_f (show ¬ ((0 : Int) ≠ 0) by decide) ?_
  show Q none (y_m m tk lv bd)
  exact h
theorem M_readBoth0 {d : Nat} {m : cw_M} {Q : Option cw_V → cw_M → Prop} {tk lv bd dp : Int} (hm0 : la_ok m) (hbd : 0 ≤ bd) (h : Q none (y_m m tk lv bd)) : cw_C (d + 3) k_M_readBoth [vr m_, vi dp] (y_m m tk lv bd) Q := by
  have hm : la_ok (y_m m tk lv bd) := y_m_ok hm0
  refine la_go_C hm 11 [] ?_
  show cw_C _ _ [vr m_, vi dp] (y_m m tk lv bd) _
  refine M_readPlain0 hm0 (by omega) ⟨hm, ?_⟩
  show cw_C _ _ [vr m_, vi 6] (y_m m tk lv bd) _
  refine M_takes00 hm0 (by omega) ⟨hm, ?_⟩
  refine br_t (show (0 : Int) = 0 by decide) ?_
  show Q none (y_m m tk lv bd)
  exact h
theorem M_readTest0 {d : Nat} {m : cw_M} {Q : Option cw_V → cw_M → Prop} {tk lv bd dp : Int} (hm0 : la_ok m) (hbd : 0 ≤ bd) (h : Q none (y_m m tk lv bd)) : cw_C (d + 4) k_M_readTest [vr m_, vi dp] (y_m m tk lv bd) Q := by
  have hm : la_ok (y_m m tk lv bd) := y_m_ok hm0
  refine la_go_C hm 11 [] ?_
  show cw_C _ _ [vr m_, vi dp] (y_m m tk lv bd) _
  refine M_readBoth0 hm0 (by omega) ⟨hm, ?_⟩
  show cw_C _ _ [vr m_, vi 5] (y_m m tk lv bd) _
  refine M_takes00 hm0 (by omega) ⟨hm, ?_⟩
  refine br_t (show (0 : Int) = 0 by decide) ?_
  show Q none (y_m m tk lv bd)
  exact h
