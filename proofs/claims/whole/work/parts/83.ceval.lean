/-! The class runs its code (wip/whole/tools/m83.py). -/
theorem e_mul {x y : Int} (hx : -2000000000 ≤ x ∧ x ≤ 2000000000) (hy : -2000000000 ≤ y ∧ y ≤ 2000000000) : -9223372036854775808 ≤ x * y ∧ x * y < 9223372036854775808 := by
  have h1 : (x * y).natAbs = x.natAbs * y.natAbs := Int.natAbs_mul x y
  have h2 : x.natAbs * y.natAbs ≤ 2000000000 * 2000000000 := Nat.mul_le_mul (by omega) (by omega)
  omega
theorem e_tdv {x y : Int} (hx : -2000000000 ≤ x ∧ x ≤ 2000000000) : -9223372036854775808 ≤ Int.tdiv x y ∧ Int.tdiv x y < 9223372036854775808 := by
  have h1 : (x.tdiv y).natAbs ≤ x.natAbs := by rw [Int.natAbs_tdiv]; exact Nat.div_le_self _ _
  omega
theorem e_cb13 {op x y : Int} (h : ¬ (op = 6 ∨ op = 7 ∨ op = 8 ∨ op = 9 ∨ op = 10 ∨ op = 11 ∨ op = 12)) : e_cb op x y = if x = y then 1 else 0 := by
  unfold e_cb
  rw [if_neg (by omega), if_neg (by omega), if_neg (by omega), if_neg (by omega), if_neg (by omega), if_neg (by omega), if_neg (by omega)]
theorem Su_combine {d : Nat} {m : cw_M} {Q : Option cw_V → cw_M → Prop} (hm : la_ok m) {op a b : Int} (ha : -2000000000 ≤ a ∧ a ≤ 2000000000) (hb : -2000000000 ≤ b ∧ b ≤ 2000000000) (h : Q (some (vl (e_cb op a b))) m) : cw_C d k_Su_combine [vi op, vl a, vl b] m Q := by
  refine la_go_C hm 5 [1] ?_
  refine la_ts rfl ?_
  by_cases hk : op = 6
  · rw [show cw_ts 1 111 6 12 #[43, 47, 51, 55, 71, 87, 99] op = _ by rw [hk]]
    show cw_R _ _ 44 _ _ _ _
    refine la_go_R hm 7 [1] ?_
    refine And.intro (show -9223372036854775808 ≤ a + b ∧ a + b < 9223372036854775808 by omega) ?_
    show Q (some (vl (a + b))) (m)
    have z : e_cb op a b = a + b := by first | (rw [hk]; rfl) | (rw [hk]; show (if b = 0 then _ else _) = _; first | rw [if_pos (by have := (lc_eq (x := b) (y := 0)).mp (by omega); omega)] | rw [if_neg (fun q => by have := (lc_eq (x := b) (y := 0)).mpr q; omega)]) | (rw [hk]; show (if a < b then _ else _) = _; first | rw [if_pos (by have := lc_lt (x := a) (y := b); omega)] | rw [if_neg (by have := lc_lt (x := a) (y := b); omega)]) | (rw [hk]; show (if b < a then _ else _) = _; first | rw [if_pos (by have := lc_le (x := a) (y := b); omega)] | rw [if_neg (by have := lc_le (x := a) (y := b); omega)]) | (rw [e_cb13 (by omega)]; first | rw [if_pos (by have := lc_eq (x := a) (y := b); omega)] | rw [if_neg (by have := lc_eq (x := a) (y := b); omega)])
    rw [z] at h
    exact h
  by_cases hk : op = 7
  · rw [show cw_ts 1 111 6 12 #[43, 47, 51, 55, 71, 87, 99] op = _ by rw [hk]]
    show cw_R _ _ 48 _ _ _ _
    refine la_go_R hm 7 [1] ?_
    refine And.intro (show -9223372036854775808 ≤ a - b ∧ a - b < 9223372036854775808 by omega) ?_
    show Q (some (vl (a - b))) (m)
    have z : e_cb op a b = a - b := by first | (rw [hk]; rfl) | (rw [hk]; show (if b = 0 then _ else _) = _; first | rw [if_pos (by have := (lc_eq (x := b) (y := 0)).mp (by omega); omega)] | rw [if_neg (fun q => by have := (lc_eq (x := b) (y := 0)).mpr q; omega)]) | (rw [hk]; show (if a < b then _ else _) = _; first | rw [if_pos (by have := lc_lt (x := a) (y := b); omega)] | rw [if_neg (by have := lc_lt (x := a) (y := b); omega)]) | (rw [hk]; show (if b < a then _ else _) = _; first | rw [if_pos (by have := lc_le (x := a) (y := b); omega)] | rw [if_neg (by have := lc_le (x := a) (y := b); omega)]) | (rw [e_cb13 (by omega)]; first | rw [if_pos (by have := lc_eq (x := a) (y := b); omega)] | rw [if_neg (by have := lc_eq (x := a) (y := b); omega)])
    rw [z] at h
    exact h
  by_cases hk : op = 8
  · rw [show cw_ts 1 111 6 12 #[43, 47, 51, 55, 71, 87, 99] op = _ by rw [hk]]
    show cw_R _ _ 52 _ _ _ _
    refine la_go_R hm 7 [1] ?_
    refine And.intro (show -9223372036854775808 ≤ a * b ∧ a * b < 9223372036854775808 by exact e_mul ha hb) ?_
    show Q (some (vl (a * b))) (m)
    have z : e_cb op a b = a * b := by first | (rw [hk]; rfl) | (rw [hk]; show (if b = 0 then _ else _) = _; first | rw [if_pos (by have := (lc_eq (x := b) (y := 0)).mp (by omega); omega)] | rw [if_neg (fun q => by have := (lc_eq (x := b) (y := 0)).mpr q; omega)]) | (rw [hk]; show (if a < b then _ else _) = _; first | rw [if_pos (by have := lc_lt (x := a) (y := b); omega)] | rw [if_neg (by have := lc_lt (x := a) (y := b); omega)]) | (rw [hk]; show (if b < a then _ else _) = _; first | rw [if_pos (by have := lc_le (x := a) (y := b); omega)] | rw [if_neg (by have := lc_le (x := a) (y := b); omega)]) | (rw [e_cb13 (by omega)]; first | rw [if_pos (by have := lc_eq (x := a) (y := b); omega)] | rw [if_neg (by have := lc_eq (x := a) (y := b); omega)])
    rw [z] at h
    exact h
  by_cases hk : op = 9
  · rw [show cw_ts 1 111 6 12 #[43, 47, 51, 55, 71, 87, 99] op = _ by rw [hk]]
    show cw_R _ _ 56 _ _ _ _
    refine la_go_R hm 11 [1] ?_
    refine And.intro (fun (c5 : cw_lc b 0 ≠ 0) => ?_) (fun (c5 : ¬ (cw_lc b 0 ≠ 0)) => ?_)
    · refine And.intro (show b ≠ 0 ∧ -9223372036854775808 ≤ Int.tdiv a b ∧ Int.tdiv a b < 9223372036854775808 by exact ⟨fun q => by have := (lc_eq (x := b) (y := 0)).mpr q; omega, e_tdv ha⟩) ?_
      show Q (some (vl (Int.tdiv a b))) (m)
      have z : e_cb op a b = Int.tdiv a b := by first | (rw [hk]; rfl) | (rw [hk]; show (if b = 0 then _ else _) = _; first | rw [if_pos (by have := (lc_eq (x := b) (y := 0)).mp (by omega); omega)] | rw [if_neg (fun q => by have := (lc_eq (x := b) (y := 0)).mpr q; omega)]) | (rw [hk]; show (if a < b then _ else _) = _; first | rw [if_pos (by have := lc_lt (x := a) (y := b); omega)] | rw [if_neg (by have := lc_lt (x := a) (y := b); omega)]) | (rw [hk]; show (if b < a then _ else _) = _; first | rw [if_pos (by have := lc_le (x := a) (y := b); omega)] | rw [if_neg (by have := lc_le (x := a) (y := b); omega)]) | (rw [e_cb13 (by omega)]; first | rw [if_pos (by have := lc_eq (x := a) (y := b); omega)] | rw [if_neg (by have := lc_eq (x := a) (y := b); omega)])
      rw [z] at h
      exact h
    · show Q (some (vl (-2000000000))) (m)
      have z : e_cb op a b = (-2000000000) := by first | (rw [hk]; rfl) | (rw [hk]; show (if b = 0 then _ else _) = _; first | rw [if_pos (by have := (lc_eq (x := b) (y := 0)).mp (by omega); omega)] | rw [if_neg (fun q => by have := (lc_eq (x := b) (y := 0)).mpr q; omega)]) | (rw [hk]; show (if a < b then _ else _) = _; first | rw [if_pos (by have := lc_lt (x := a) (y := b); omega)] | rw [if_neg (by have := lc_lt (x := a) (y := b); omega)]) | (rw [hk]; show (if b < a then _ else _) = _; first | rw [if_pos (by have := lc_le (x := a) (y := b); omega)] | rw [if_neg (by have := lc_le (x := a) (y := b); omega)]) | (rw [e_cb13 (by omega)]; first | rw [if_pos (by have := lc_eq (x := a) (y := b); omega)] | rw [if_neg (by have := lc_eq (x := a) (y := b); omega)])
      rw [z] at h
      exact h
  by_cases hk : op = 10
  · rw [show cw_ts 1 111 6 12 #[43, 47, 51, 55, 71, 87, 99] op = _ by rw [hk]]
    show cw_R _ _ 72 _ _ _ _
    refine la_go_R hm 11 [1] ?_
    refine And.intro (fun (c7 : cw_lc b 0 ≠ 0) => ?_) (fun (c7 : ¬ (cw_lc b 0 ≠ 0)) => ?_)
    · refine And.intro (show b ≠ 0 by exact fun q => by have := (lc_eq (x := b) (y := 0)).mpr q; omega) ?_
      show Q (some (vl (Int.tmod a b))) (m)
      have z : e_cb op a b = Int.tmod a b := by first | (rw [hk]; rfl) | (rw [hk]; show (if b = 0 then _ else _) = _; first | rw [if_pos (by have := (lc_eq (x := b) (y := 0)).mp (by omega); omega)] | rw [if_neg (fun q => by have := (lc_eq (x := b) (y := 0)).mpr q; omega)]) | (rw [hk]; show (if a < b then _ else _) = _; first | rw [if_pos (by have := lc_lt (x := a) (y := b); omega)] | rw [if_neg (by have := lc_lt (x := a) (y := b); omega)]) | (rw [hk]; show (if b < a then _ else _) = _; first | rw [if_pos (by have := lc_le (x := a) (y := b); omega)] | rw [if_neg (by have := lc_le (x := a) (y := b); omega)]) | (rw [e_cb13 (by omega)]; first | rw [if_pos (by have := lc_eq (x := a) (y := b); omega)] | rw [if_neg (by have := lc_eq (x := a) (y := b); omega)])
      rw [z] at h
      exact h
    · show Q (some (vl (-2000000000))) (m)
      have z : e_cb op a b = (-2000000000) := by first | (rw [hk]; rfl) | (rw [hk]; show (if b = 0 then _ else _) = _; first | rw [if_pos (by have := (lc_eq (x := b) (y := 0)).mp (by omega); omega)] | rw [if_neg (fun q => by have := (lc_eq (x := b) (y := 0)).mpr q; omega)]) | (rw [hk]; show (if a < b then _ else _) = _; first | rw [if_pos (by have := lc_lt (x := a) (y := b); omega)] | rw [if_neg (by have := lc_lt (x := a) (y := b); omega)]) | (rw [hk]; show (if b < a then _ else _) = _; first | rw [if_pos (by have := lc_le (x := a) (y := b); omega)] | rw [if_neg (by have := lc_le (x := a) (y := b); omega)]) | (rw [e_cb13 (by omega)]; first | rw [if_pos (by have := lc_eq (x := a) (y := b); omega)] | rw [if_neg (by have := lc_eq (x := a) (y := b); omega)])
      rw [z] at h
      exact h
  by_cases hk : op = 11
  · rw [show cw_ts 1 111 6 12 #[43, 47, 51, 55, 71, 87, 99] op = _ by rw [hk]]
    show cw_R _ _ 88 _ _ _ _
    refine la_go_R hm 10 [1] ?_
    refine And.intro (fun (c9 : 0 ≤ cw_lc a b) => ?_) (fun (c9 : ¬ (0 ≤ cw_lc a b)) => ?_)
    · show Q (some (vl 0)) (m)
      have z : e_cb op a b = 0 := by first | (rw [hk]; rfl) | (rw [hk]; show (if b = 0 then _ else _) = _; first | rw [if_pos (by have := (lc_eq (x := b) (y := 0)).mp (by omega); omega)] | rw [if_neg (fun q => by have := (lc_eq (x := b) (y := 0)).mpr q; omega)]) | (rw [hk]; show (if a < b then _ else _) = _; first | rw [if_pos (by have := lc_lt (x := a) (y := b); omega)] | rw [if_neg (by have := lc_lt (x := a) (y := b); omega)]) | (rw [hk]; show (if b < a then _ else _) = _; first | rw [if_pos (by have := lc_le (x := a) (y := b); omega)] | rw [if_neg (by have := lc_le (x := a) (y := b); omega)]) | (rw [e_cb13 (by omega)]; first | rw [if_pos (by have := lc_eq (x := a) (y := b); omega)] | rw [if_neg (by have := lc_eq (x := a) (y := b); omega)])
      rw [z] at h
      exact h
    · show Q (some (vl 1)) (m)
      have z : e_cb op a b = 1 := by first | (rw [hk]; rfl) | (rw [hk]; show (if b = 0 then _ else _) = _; first | rw [if_pos (by have := (lc_eq (x := b) (y := 0)).mp (by omega); omega)] | rw [if_neg (fun q => by have := (lc_eq (x := b) (y := 0)).mpr q; omega)]) | (rw [hk]; show (if a < b then _ else _) = _; first | rw [if_pos (by have := lc_lt (x := a) (y := b); omega)] | rw [if_neg (by have := lc_lt (x := a) (y := b); omega)]) | (rw [hk]; show (if b < a then _ else _) = _; first | rw [if_pos (by have := lc_le (x := a) (y := b); omega)] | rw [if_neg (by have := lc_le (x := a) (y := b); omega)]) | (rw [e_cb13 (by omega)]; first | rw [if_pos (by have := lc_eq (x := a) (y := b); omega)] | rw [if_neg (by have := lc_eq (x := a) (y := b); omega)])
      rw [z] at h
      exact h
  by_cases hk : op = 12
  · rw [show cw_ts 1 111 6 12 #[43, 47, 51, 55, 71, 87, 99] op = _ by rw [hk]]
    show cw_R _ _ 100 _ _ _ _
    refine la_go_R hm 10 [1] ?_
    refine And.intro (fun (c11 : cw_lc a b ≤ 0) => ?_) (fun (c11 : ¬ (cw_lc a b ≤ 0)) => ?_)
    · show Q (some (vl 0)) (m)
      have z : e_cb op a b = 0 := by first | (rw [hk]; rfl) | (rw [hk]; show (if b = 0 then _ else _) = _; first | rw [if_pos (by have := (lc_eq (x := b) (y := 0)).mp (by omega); omega)] | rw [if_neg (fun q => by have := (lc_eq (x := b) (y := 0)).mpr q; omega)]) | (rw [hk]; show (if a < b then _ else _) = _; first | rw [if_pos (by have := lc_lt (x := a) (y := b); omega)] | rw [if_neg (by have := lc_lt (x := a) (y := b); omega)]) | (rw [hk]; show (if b < a then _ else _) = _; first | rw [if_pos (by have := lc_le (x := a) (y := b); omega)] | rw [if_neg (by have := lc_le (x := a) (y := b); omega)]) | (rw [e_cb13 (by omega)]; first | rw [if_pos (by have := lc_eq (x := a) (y := b); omega)] | rw [if_neg (by have := lc_eq (x := a) (y := b); omega)])
      rw [z] at h
      exact h
    · show Q (some (vl 1)) (m)
      have z : e_cb op a b = 1 := by first | (rw [hk]; rfl) | (rw [hk]; show (if b = 0 then _ else _) = _; first | rw [if_pos (by have := (lc_eq (x := b) (y := 0)).mp (by omega); omega)] | rw [if_neg (fun q => by have := (lc_eq (x := b) (y := 0)).mpr q; omega)]) | (rw [hk]; show (if a < b then _ else _) = _; first | rw [if_pos (by have := lc_lt (x := a) (y := b); omega)] | rw [if_neg (by have := lc_lt (x := a) (y := b); omega)]) | (rw [hk]; show (if b < a then _ else _) = _; first | rw [if_pos (by have := lc_le (x := a) (y := b); omega)] | rw [if_neg (by have := lc_le (x := a) (y := b); omega)]) | (rw [e_cb13 (by omega)]; first | rw [if_pos (by have := lc_eq (x := a) (y := b); omega)] | rw [if_neg (by have := lc_eq (x := a) (y := b); omega)])
      rw [z] at h
      exact h
  rw [la_tsd (by omega)]
  show cw_R _ _ 112 _ _ _ _
  refine la_go_R hm 10 [1] ?_
  refine And.intro (fun (c12 : cw_lc a b ≠ 0) => ?_) (fun (c12 : ¬ (cw_lc a b ≠ 0)) => ?_)
  · show Q (some (vl 0)) (m)
    have z : e_cb op a b = 0 := by first | (rw [hk]; rfl) | (rw [hk]; show (if b = 0 then _ else _) = _; first | rw [if_pos (by have := (lc_eq (x := b) (y := 0)).mp (by omega); omega)] | rw [if_neg (fun q => by have := (lc_eq (x := b) (y := 0)).mpr q; omega)]) | (rw [hk]; show (if a < b then _ else _) = _; first | rw [if_pos (by have := lc_lt (x := a) (y := b); omega)] | rw [if_neg (by have := lc_lt (x := a) (y := b); omega)]) | (rw [hk]; show (if b < a then _ else _) = _; first | rw [if_pos (by have := lc_le (x := a) (y := b); omega)] | rw [if_neg (by have := lc_le (x := a) (y := b); omega)]) | (rw [e_cb13 (by omega)]; first | rw [if_pos (by have := lc_eq (x := a) (y := b); omega)] | rw [if_neg (by have := lc_eq (x := a) (y := b); omega)])
    rw [z] at h
    exact h
  · show Q (some (vl 1)) (m)
    have z : e_cb op a b = 1 := by first | (rw [hk]; rfl) | (rw [hk]; show (if b = 0 then _ else _) = _; first | rw [if_pos (by have := (lc_eq (x := b) (y := 0)).mp (by omega); omega)] | rw [if_neg (fun q => by have := (lc_eq (x := b) (y := 0)).mpr q; omega)]) | (rw [hk]; show (if a < b then _ else _) = _; first | rw [if_pos (by have := lc_lt (x := a) (y := b); omega)] | rw [if_neg (by have := lc_lt (x := a) (y := b); omega)]) | (rw [hk]; show (if b < a then _ else _) = _; first | rw [if_pos (by have := lc_le (x := a) (y := b); omega)] | rw [if_neg (by have := lc_le (x := a) (y := b); omega)]) | (rw [e_cb13 (by omega)]; first | rw [if_pos (by have := lc_eq (x := a) (y := b); omega)] | rw [if_neg (by have := lc_eq (x := a) (y := b); omega)])
    rw [z] at h
    exact h
def v1_m (m : cw_M) (sk : Int → Int) : cw_M := fun c => if c = x_orderSums_stack_ then sk else m c
theorem v1_m_ne {m : cw_M} {sk : Int → Int} {c : Int} (h0 : c ≠ x_orderSums_stack_) : v1_m m sk c = m c := by
  unfold v1_m; rw [if_neg h0]
theorem v1_m_sk {m : cw_M} {sk : Int → Int} : v1_m m sk x_orderSums_stack_ = sk := rfl
theorem v1_m_ok {m : cw_M} {sk : Int → Int} (hm : la_ok m) : la_ok (v1_m m sk) := by
  refine ⟨by rw [v1_m_ne (by decide)]; exact hm.1, fun e he => ?_⟩
  obtain ⟨z1, h2, -, z4⟩ := la_lok e he
  have n0 : e.1 ≠ x_orderSums_stack_ := fun q => by rw [q] at h2; revert h2; decide
  rw [v1_m_ne n0 ]; exact hm.2 e he
theorem v1_m_x {m M : cw_M} {sk : Int → Int} (r0 : M x_orderSums_stack_ = sk)   (h : ∀ c, c ≠ x_orderSums_stack_ → M c = m c) : M = v1_m m sk := by
  funext c
  by_cases h0 : c = x_orderSums_stack_
  · rw [h0, r0]; rfl
  rw [h c h0, v1_m_ne h0]
theorem v1_m_rsk {m : cw_M} {sk : Int → Int} {f : Int → Int} : cw_row (v1_m m sk) x_orderSums_stack_ f = v1_m m f := by
  refine v1_m_x rfl  (fun c h0 => by rw [cw_row_ne h0, v1_m_ne h0])
theorem v1_m_psk {m : cw_M} {sk : Int → Int} {i v : Int} : cw_put (v1_m m sk) x_orderSums_stack_ i v = v1_m m (cw_up sk i v) := by
  rw [cw_put_row, v1_m_rsk, v1_m_sk]
theorem v1_m_2 {m : cw_M} {sk : Int → Int} {sk' : Int → Int} : v1_m (v1_m m sk) sk' = v1_m m sk' := by
  refine v1_m_x rfl  (fun c h0 => by rw [v1_m_ne h0, v1_m_ne h0])
theorem v1_m_self {m : cw_M} : v1_m m (m x_orderSums_stack_)  = m := by
  refine (v1_m_x rfl  (fun _ _ => rfl)).symm
set_option maxHeartbeats 4000000 in
theorem Su_eval1L {d : Nat} {m : cw_M} {Q : Option cw_V → cw_M → Prop} (hm0 : la_ok m) {T CA n : Int} {co : Int → Int} (hT : cw_tg T = 8 ∧ m T 1 = n ∧ m T 7 = CA ∧ cw_tg CA = 40 ∧ n ≤ cw_ln CA ∧ T ≠ x_orderSums_stack_ ∧ CA ≠ x_orderSums_stack_ ∧ ∀ i, m CA i = co i) (hn : 0 ≤ n ∧ n ≤ 400) (hco : e_ok co n) (hW : ∀ i, 0 ≤ i → i < 17 → -1000000 ≤ m x_orderSums_words_ i ∧ m x_orderSums_words_ i ≤ 1000000) : ∀ (f : Nat) (p t step : Int) (sk : Int → Int) (fr : Int) (w6 w7 w8 w9 w10 : cw_V), step + f = n → 0 ≤ step → 0 ≤ t → t ≤ 50 → (∀ i, 0 ≤ i → i < t → -1000000000 - step ≤ sk i ∧ sk i ≤ 1000000000 + step) → (∀ sk', Q (some (vi ((e_st co n (m x_orderSums_words_) f p t sk).getD (-2000000000)))) (v1_m m sk')) → cw_R (d + 1) k_Su_evaluate 8 [vr x_orderSums_, vr T, vi fr, vi p, vi t, vi step, w6, w7, w8, w9, w10] [] (v1_m m sk) Q
  | 0, p, t, step, sk, fr, w6, w7, w8, w9, w10, hf, hst, ht0, ht, hsk, hQ => by
    have hm : la_ok (v1_m m sk) := v1_m_ok hm0
    have eT : (v1_m m sk) T 1 = n := by rw [v1_m_ne hT.2.2.2.2.2.1]; exact hT.2.1
    have eA : (v1_m m sk) T 7 = CA := by rw [v1_m_ne hT.2.2.2.2.2.1]; exact hT.2.2.1
    have eC : ∀ i, (v1_m m sk) CA i = co i := fun i => by rw [v1_m_ne hT.2.2.2.2.2.2.1]; exact hT.2.2.2.2.2.2.2 i
    have hT8 := hT.1
    refine la_go_RV hm 9 [11, 19, 29, 33, 40, 44] [52] ?_
    refine And.intro (show cw_tg T = 8 by exact hT8) ?_
    refine br_t (show (v1_m m sk) T 1 ≤ step by omega) ?_
    show Q (some (vi (-2000000000))) (v1_m m sk)
    exact hQ _
  | f + 1, p, t, step, sk, fr, w6, w7, w8, w9, w10, hf, hst, ht0, ht, hsk, hQ => by
    have ih := Su_eval1L (d := d) (Q := Q) hm0 hT hn hco hW f
    have hm : la_ok (v1_m m sk) := v1_m_ok hm0
    have eT : (v1_m m sk) T 1 = n := by rw [v1_m_ne hT.2.2.2.2.2.1]; exact hT.2.1
    have eA : (v1_m m sk) T 7 = CA := by rw [v1_m_ne hT.2.2.2.2.2.1]; exact hT.2.2.1
    have eC : ∀ i, (v1_m m sk) CA i = co i := fun i => by rw [v1_m_ne hT.2.2.2.2.2.2.1]; exact hT.2.2.2.2.2.2.2 i
    have hT8 := hT.1
    have l52 : 0 ≤ p ∧ p < n → cw_R (d + 1) k_Su_evaluate 52 [vr x_orderSums_, vr T, vi fr, vi (p + 1), vi t, vi step, vi (co p % 16), vi (co p / 16), w8, w9, w10] [] (v1_m m sk) Q := by
      intro hp
      have hcp := hco p hp.1 hp.2
      refine la_go_RV hm 70 [11, 19, 29, 33, 40, 44] [8] ?_
      refine And.intro (fun (c1 : co p % 16 = 1) => ?_) (fun (c1 : ¬ (co p % 16 = 1)) => ?_)
      · refine And.intro (fun (c2 : 50 ≤ t) => ?_) (fun (c2 : ¬ (50 ≤ t)) => ?_)
        · show Q (some (vi (-2000000000))) (v1_m m sk)
          first
            | (have E : e_st co n (m x_orderSums_words_) (f + 1) p t sk = none := (by rw [e_stS, if_pos (by omega), if_pos (by omega), if_pos (by omega)]); rw [E] at hQ; exact hQ _)
            | (have E : e_st co n (m x_orderSums_words_) (f + 1) p t sk = none := (by rw [e_stS, if_pos (by omega), if_neg (by omega), if_pos (by omega)]); rw [E] at hQ; exact hQ _)
            | (have E : e_st co n (m x_orderSums_words_) (f + 1) p t sk = none := (by rw [e_stS, if_pos (by omega), if_neg (by omega), if_neg (by omega), if_neg (by omega), if_neg (by omega), if_neg (by omega), if_neg (by omega), show t - 2 = t + (-1) - 1 by omega, if_pos hcb]); rw [E] at hQ; exact hQ _)
        · refine br_t (show co p % 16 ≠ 2 by omega) ?_
          refine br_f (show ¬ (co p % 16 ≠ 1) by omega) ?_
          refine And.intro (show 0 ≤ t ∧ t < 50 by omega) ?_
          have hm3 : la_ok (cw_put (v1_m m sk) x_orderSums_stack_ t (co p / 16)) := la_put hm (by decide) (Or.inr (by decide))
          refine And.intro (show -2147483648 ≤ t + 1 ∧ t + 1 < 2147483648 by omega) ?_
          refine And.intro (show -2147483648 ≤ step + 1 ∧ step + 1 < 2147483648 by omega) ?_
          show cw_R _ _ 8 [vr x_orderSums_, vr T, vi fr, vi (p + 1), vi (t + 1), vi (step + 1), vi (co p % 16), vi (co p / 16), w8, w9, w10] [] (cw_put (v1_m m sk) x_orderSums_stack_ t (co p / 16)) _
          rw [v1_m_psk]
          have hm4 : la_ok (v1_m m (cw_up sk t (co p / 16))) := v1_m_ok hm0
          have E : e_st co n (m x_orderSums_words_) (f + 1) p t sk = e_st co n (m x_orderSums_words_) f (p + 1) (t + 1) (cw_up sk t (co p / 16)) := by rw [e_stS, if_pos (by omega), if_pos (by omega), if_neg (by omega), if_pos (by omega)]
          rw [E] at hQ
          refine ih (p + 1) (t + 1) (step + 1) (cw_up sk t (co p / 16)) _ _ _ _ _ _ (by omega) (by omega) (by omega) (by omega) (fun i i0 i1 => ?_) hQ
          by_cases z : i = t
          · rw [z, cw_up_eq]; omega
          · rw [cw_up_ne z]; have := hsk i (by omega) (by omega); omega
      · refine And.intro (fun (c5 : co p % 16 ≠ 2) => ?_) (fun (c5 : ¬ (co p % 16 ≠ 2)) => ?_)
        · refine And.intro (fun (c6 : t < 1) => ?_) (fun (c6 : ¬ (t < 1)) => ?_)
          · show Q (some (vi (-2000000000))) (v1_m m sk)
            first
              | (have E : e_st co n (m x_orderSums_words_) (f + 1) p t sk = none := (by rw [e_stS, if_pos (by omega), if_pos (by omega), if_pos (by omega)]); rw [E] at hQ; exact hQ _)
              | (have E : e_st co n (m x_orderSums_words_) (f + 1) p t sk = none := (by rw [e_stS, if_pos (by omega), if_neg (by omega), if_pos (by omega)]); rw [E] at hQ; exact hQ _)
              | (have E : e_st co n (m x_orderSums_words_) (f + 1) p t sk = none := (by rw [e_stS, if_pos (by omega), if_neg (by omega), if_neg (by omega), if_neg (by omega), if_neg (by omega), if_neg (by omega), if_neg (by omega), show t - 2 = t + (-1) - 1 by omega, if_pos hcb]); rw [E] at hQ; exact hQ _)
          · have hs1 := hsk (t - 1) (by omega) (by omega)
            have hs2 : 2 ≤ t → -1000000000 - step ≤ sk (t + (-1) - 1) ∧ sk (t + (-1) - 1) ≤ 1000000000 + step := fun q => hsk _ (by omega) (by omega)
            refine And.intro (fun (c7 : co p % 16 ≤ 5) => ?_) (fun (c7 : ¬ (co p % 16 ≤ 5)) => ?_)
            · refine And.intro (show -2147483648 ≤ t - 1 ∧ t - 1 < 2147483648 by omega) ?_
              refine And.intro (show 0 ≤ t - 1 ∧ t - 1 < 50 by omega) ?_
              refine And.intro (fun (c8 : co p % 16 ≠ 0) => ?_) (fun (c8 : ¬ (co p % 16 ≠ 0)) => ?_)
              · refine And.intro (fun (c9 : co p % 16 ≠ 3) => ?_) (fun (c9 : ¬ (co p % 16 ≠ 3)) => ?_)
                · refine And.intro (fun (c10 : co p % 16 ≠ 4) => ?_) (fun (c10 : ¬ (co p % 16 ≠ 4)) => ?_)
                  · refine And.intro (fun (c11 : co p % 16 ≠ 5) => ?_) (fun (c11 : ¬ (co p % 16 ≠ 5)) => ?_)
                    · refine And.intro (show -2147483648 ≤ t + (-1) ∧ t + (-1) < 2147483648 by omega) ?_
                      refine And.intro (fun (c12 : co p % 16 ≤ 5) => ?_) (fun (c12 : ¬ (co p % 16 ≤ 5)) => ?_)
                      · refine And.intro (show -2147483648 ≤ step + 1 ∧ step + 1 < 2147483648 by omega) ?_
                        show cw_R _ _ 8 [vr x_orderSums_, vr T, vi fr, vi (p + 1), vi (t + (-1)), vi (step + 1), vi (co p % 16), vi (co p / 16), vi (sk (t - 1)), w9, w10] [] (v1_m m sk) _
                        have E : e_st co n (m x_orderSums_words_) (f + 1) p t sk = e_st co n (m x_orderSums_words_) f (p + 1) (t + (-1)) (sk) := by rw [e_stS, if_pos (by omega), if_neg (by omega), if_neg (by omega), if_neg (by omega), if_neg (by omega), if_neg (by omega), if_pos (by omega), show t - 1 = t + (-1) by omega]
                        rw [E] at hQ
                        refine ih (p + 1) (t + (-1)) (step + 1) (sk) _ _ _ _ _ _ (by omega) (by omega) (by omega) (by omega) (fun i i0 i1 => ?_) hQ
                        have := hsk i (by omega) (by omega); omega
                      · refine And.intro (show -2147483648 ≤ (t + (-1)) - 1 ∧ (t + (-1)) - 1 < 2147483648 by omega) ?_
                        refine And.intro (show 0 ≤ (t + (-1)) - 1 ∧ (t + (-1)) - 1 < 50 by omega) ?_
                        show cw_C _ _ [vi (co p % 16), vl (sk ((t + (-1)) - 1)), vl (sk (t - 1))] (v1_m m sk) _
                        refine Su_combine hm (by omega) (by omega) ⟨hm, ?_⟩
                        refine And.intro (fun (c13 : 0 < cw_lc (e_cb (co p % 16) (sk ((t + (-1)) - 1)) (sk (t - 1))) 1000000000) => ?_) (fun (c13 : ¬ (0 < cw_lc (e_cb (co p % 16) (sk ((t + (-1)) - 1)) (sk (t - 1))) 1000000000)) => ?_)
                        · have hcb : 1000000000 < e_cb (co p % 16) (sk (t + (-1) - 1)) (sk (t - 1)) ∨ e_cb (co p % 16) (sk (t + (-1) - 1)) (sk (t - 1)) < -1000000000 := Or.inl (by have := lc_le (x := e_cb (co p % 16) (sk (t + (-1) - 1)) (sk (t - 1))) (y := 1000000000); omega)
                          show Q (some (vi (-2000000000))) (v1_m m sk)
                          first
                            | (have E : e_st co n (m x_orderSums_words_) (f + 1) p t sk = none := (by rw [e_stS, if_pos (by omega), if_pos (by omega), if_pos (by omega)]); rw [E] at hQ; exact hQ _)
                            | (have E : e_st co n (m x_orderSums_words_) (f + 1) p t sk = none := (by rw [e_stS, if_pos (by omega), if_neg (by omega), if_pos (by omega)]); rw [E] at hQ; exact hQ _)
                            | (have E : e_st co n (m x_orderSums_words_) (f + 1) p t sk = none := (by rw [e_stS, if_pos (by omega), if_neg (by omega), if_neg (by omega), if_neg (by omega), if_neg (by omega), if_neg (by omega), if_neg (by omega), show t - 2 = t + (-1) - 1 by omega, if_pos hcb]); rw [E] at hQ; exact hQ _)
                        · have hcA := lc_le (x := e_cb (co p % 16) (sk (t + (-1) - 1)) (sk (t - 1))) (y := 1000000000)
                          refine And.intro (fun (c14 : 0 ≤ cw_lc (e_cb (co p % 16) (sk ((t + (-1)) - 1)) (sk (t - 1))) (-1000000000)) => ?_) (fun (c14 : ¬ (0 ≤ cw_lc (e_cb (co p % 16) (sk ((t + (-1)) - 1)) (sk (t - 1))) (-1000000000))) => ?_)
                          · have hcB := lc_lt (x := e_cb (co p % 16) (sk (t + (-1) - 1)) (sk (t - 1))) (y := -1000000000)
                            have hcb : ¬ (1000000000 < e_cb (co p % 16) (sk (t + (-1) - 1)) (sk (t - 1)) ∨ e_cb (co p % 16) (sk (t + (-1) - 1)) (sk (t - 1)) < -1000000000) := by omega
                            refine And.intro (show -2147483648 ≤ (t + (-1)) - 1 ∧ (t + (-1)) - 1 < 2147483648 by omega) ?_
                            refine And.intro (show -2147483648 ≤ e_cb (co p % 16) (sk ((t + (-1)) - 1)) (sk (t - 1)) ∧ e_cb (co p % 16) (sk ((t + (-1)) - 1)) (sk (t - 1)) < 2147483648 by omega) ?_
                            refine And.intro (show 0 ≤ (t + (-1)) - 1 ∧ (t + (-1)) - 1 < 50 by omega) ?_
                            have hm15 : la_ok (cw_put (v1_m m sk) x_orderSums_stack_ ((t + (-1)) - 1) (e_cb (co p % 16) (sk ((t + (-1)) - 1)) (sk (t - 1)))) := la_put hm (by decide) (Or.inr (by decide))
                            refine And.intro (show -2147483648 ≤ step + 1 ∧ step + 1 < 2147483648 by omega) ?_
                            show cw_R _ _ 8 [vr x_orderSums_, vr T, vi fr, vi (p + 1), vi (t + (-1)), vi (step + 1), vi (co p % 16), vi (co p / 16), vi (sk (t - 1)), vl (e_cb (co p % 16) (sk ((t + (-1)) - 1)) (sk (t - 1))), none] [] (cw_put (v1_m m sk) x_orderSums_stack_ ((t + (-1)) - 1) (e_cb (co p % 16) (sk ((t + (-1)) - 1)) (sk (t - 1)))) _
                            rw [v1_m_psk]
                            have hm16 : la_ok (v1_m m (cw_up sk ((t + (-1)) - 1) (e_cb (co p % 16) (sk ((t + (-1)) - 1)) (sk (t - 1))))) := v1_m_ok hm0
                            have E : e_st co n (m x_orderSums_words_) (f + 1) p t sk = e_st co n (m x_orderSums_words_) f (p + 1) (t + (-1)) (cw_up sk ((t + (-1)) - 1) (e_cb (co p % 16) (sk ((t + (-1)) - 1)) (sk (t - 1)))) := by rw [e_stS, if_pos (by omega), if_neg (by omega), if_neg (by omega), if_neg (by omega), if_neg (by omega), if_neg (by omega), if_neg (by omega), show t - 2 = t + (-1) - 1 by omega, if_neg hcb, show t - 1 = t + (-1) by omega]
                            rw [E] at hQ
                            refine ih (p + 1) (t + (-1)) (step + 1) (cw_up sk ((t + (-1)) - 1) (e_cb (co p % 16) (sk ((t + (-1)) - 1)) (sk (t - 1)))) _ _ _ _ _ _ (by omega) (by omega) (by omega) (by omega) (fun i i0 i1 => ?_) hQ
                            by_cases z : i = t + (-1) - 1
                            · rw [z, cw_up_eq]; omega
                            · rw [cw_up_ne z]; have := hsk i (by omega) (by omega); omega
                          · have hcb : 1000000000 < e_cb (co p % 16) (sk (t + (-1) - 1)) (sk (t - 1)) ∨ e_cb (co p % 16) (sk (t + (-1) - 1)) (sk (t - 1)) < -1000000000 := Or.inr (by have := lc_lt (x := e_cb (co p % 16) (sk (t + (-1) - 1)) (sk (t - 1))) (y := -1000000000); omega)
                            show Q (some (vi (-2000000000))) (v1_m m sk)
                            first
                              | (have E : e_st co n (m x_orderSums_words_) (f + 1) p t sk = none := (by rw [e_stS, if_pos (by omega), if_pos (by omega), if_pos (by omega)]); rw [E] at hQ; exact hQ _)
                              | (have E : e_st co n (m x_orderSums_words_) (f + 1) p t sk = none := (by rw [e_stS, if_pos (by omega), if_neg (by omega), if_pos (by omega)]); rw [E] at hQ; exact hQ _)
                              | (have E : e_st co n (m x_orderSums_words_) (f + 1) p t sk = none := (by rw [e_stS, if_pos (by omega), if_neg (by omega), if_neg (by omega), if_neg (by omega), if_neg (by omega), if_neg (by omega), if_neg (by omega), show t - 2 = t + (-1) - 1 by omega, if_pos hcb]); rw [E] at hQ; exact hQ _)
                    · refine And.intro (fun (c17 : sk (t - 1) = 0) => ?_) (fun (c17 : ¬ (sk (t - 1) = 0)) => ?_)
                      · refine And.intro (show -2147483648 ≤ t + (-1) ∧ t + (-1) < 2147483648 by omega) ?_
                        refine br_t (show co p % 16 ≤ 5 by omega) ?_
                        refine And.intro (show -2147483648 ≤ step + 1 ∧ step + 1 < 2147483648 by omega) ?_
                        show cw_R _ _ 8 [vr x_orderSums_, vr T, vi fr, vi (p + 1), vi (t + (-1)), vi (step + 1), vi (co p % 16), vi (co p / 16), vi (sk (t - 1)), w9, w10] [] (v1_m m sk) _
                        have E : e_st co n (m x_orderSums_words_) (f + 1) p t sk = e_st co n (m x_orderSums_words_) f (p + 1) (t + (-1)) (sk) := by rw [e_stS, if_pos (by omega), if_neg (by omega), if_neg (by omega), if_neg (by omega), if_neg (by omega), if_neg (by omega), if_pos (by omega), show t - 1 = t + (-1) by omega]
                        rw [E] at hQ
                        refine ih (p + 1) (t + (-1)) (step + 1) (sk) _ _ _ _ _ _ (by omega) (by omega) (by omega) (by omega) (fun i i0 i1 => ?_) hQ
                        have := hsk i (by omega) (by omega); omega
                      · refine br_t (show co p % 16 ≤ 5 by omega) ?_
                        refine And.intro (show -2147483648 ≤ step + 1 ∧ step + 1 < 2147483648 by omega) ?_
                        show cw_R _ _ 8 [vr x_orderSums_, vr T, vi fr, vi (co p / 16), vi t, vi (step + 1), vi (co p % 16), vi (co p / 16), vi (sk (t - 1)), w9, w10] [] (v1_m m sk) _
                        have E : e_st co n (m x_orderSums_words_) (f + 1) p t sk = e_st co n (m x_orderSums_words_) f (co p / 16) (t) (sk) := by rw [e_stS, if_pos (by omega), if_neg (by omega), if_neg (by omega), if_neg (by omega), if_neg (by omega), if_pos (by omega)]
                        rw [E] at hQ
                        refine ih (co p / 16) (t) (step + 1) (sk) _ _ _ _ _ _ (by omega) (by omega) (by omega) (by omega) (fun i i0 i1 => ?_) hQ
                        have := hsk i (by omega) (by omega); omega
                  · refine And.intro (fun (c18 : sk (t - 1) = 0) => ?_) (fun (c18 : ¬ (sk (t - 1) = 0)) => ?_)
                    · refine br_t (show co p % 16 ≤ 5 by omega) ?_
                      refine And.intro (show -2147483648 ≤ step + 1 ∧ step + 1 < 2147483648 by omega) ?_
                      show cw_R _ _ 8 [vr x_orderSums_, vr T, vi fr, vi (co p / 16), vi t, vi (step + 1), vi (co p % 16), vi (co p / 16), vi (sk (t - 1)), w9, w10] [] (v1_m m sk) _
                      have E : e_st co n (m x_orderSums_words_) (f + 1) p t sk = e_st co n (m x_orderSums_words_) f (co p / 16) (t) (sk) := by rw [e_stS, if_pos (by omega), if_neg (by omega), if_neg (by omega), if_neg (by omega), if_neg (by omega), if_pos (by omega)]
                      rw [E] at hQ
                      refine ih (co p / 16) (t) (step + 1) (sk) _ _ _ _ _ _ (by omega) (by omega) (by omega) (by omega) (fun i i0 i1 => ?_) hQ
                      have := hsk i (by omega) (by omega); omega
                    · refine br_t (show co p % 16 ≠ 5 by omega) ?_
                      refine And.intro (show -2147483648 ≤ t + (-1) ∧ t + (-1) < 2147483648 by omega) ?_
                      refine br_t (show co p % 16 ≤ 5 by omega) ?_
                      refine And.intro (show -2147483648 ≤ step + 1 ∧ step + 1 < 2147483648 by omega) ?_
                      show cw_R _ _ 8 [vr x_orderSums_, vr T, vi fr, vi (p + 1), vi (t + (-1)), vi (step + 1), vi (co p % 16), vi (co p / 16), vi (sk (t - 1)), w9, w10] [] (v1_m m sk) _
                      have E : e_st co n (m x_orderSums_words_) (f + 1) p t sk = e_st co n (m x_orderSums_words_) f (p + 1) (t + (-1)) (sk) := by rw [e_stS, if_pos (by omega), if_neg (by omega), if_neg (by omega), if_neg (by omega), if_neg (by omega), if_neg (by omega), if_pos (by omega), show t - 1 = t + (-1) by omega]
                      rw [E] at hQ
                      refine ih (p + 1) (t + (-1)) (step + 1) (sk) _ _ _ _ _ _ (by omega) (by omega) (by omega) (by omega) (fun i i0 i1 => ?_) hQ
                      have := hsk i (by omega) (by omega); omega
                · refine And.intro (show -2147483648 ≤ t - 1 ∧ t - 1 < 2147483648 by omega) ?_
                  refine And.intro (show -2147483648 ≤ 1 - (sk (t - 1)) ∧ 1 - (sk (t - 1)) < 2147483648 by omega) ?_
                  refine And.intro (show 0 ≤ t - 1 ∧ t - 1 < 50 by omega) ?_
                  have hm19 : la_ok (cw_put (v1_m m sk) x_orderSums_stack_ (t - 1) (1 - (sk (t - 1)))) := la_put hm (by decide) (Or.inr (by decide))
                  refine br_t (show co p % 16 ≤ 5 by omega) ?_
                  refine And.intro (show -2147483648 ≤ step + 1 ∧ step + 1 < 2147483648 by omega) ?_
                  show cw_R _ _ 8 [vr x_orderSums_, vr T, vi fr, vi (p + 1), vi t, vi (step + 1), vi (co p % 16), vi (co p / 16), vi (sk (t - 1)), w9, w10] [] (cw_put (v1_m m sk) x_orderSums_stack_ (t - 1) (1 - (sk (t - 1)))) _
                  rw [v1_m_psk]
                  have hm20 : la_ok (v1_m m (cw_up sk (t - 1) (1 - (sk (t - 1))))) := v1_m_ok hm0
                  have E : e_st co n (m x_orderSums_words_) (f + 1) p t sk = e_st co n (m x_orderSums_words_) f (p + 1) (t) (cw_up sk (t - 1) (1 - (sk (t - 1)))) := by rw [e_stS, if_pos (by omega), if_neg (by omega), if_neg (by omega), if_neg (by omega), if_pos (by omega)]
                  rw [E] at hQ
                  refine ih (p + 1) (t) (step + 1) (cw_up sk (t - 1) (1 - (sk (t - 1)))) _ _ _ _ _ _ (by omega) (by omega) (by omega) (by omega) (fun i i0 i1 => ?_) hQ
                  by_cases z : i = t - 1
                  · rw [z, cw_up_eq]; omega
                  · rw [cw_up_ne z]; have := hsk i (by omega) (by omega); omega
              · show Q (some (vi (sk (t - 1)))) (v1_m m sk)
                have E : e_st co n (m x_orderSums_words_) (f + 1) p t sk = some (sk (t - 1)) := by rw [e_stS, if_pos (by omega), if_neg (by omega), if_neg (by omega), if_pos (by omega)]
                rw [E] at hQ
                exact hQ _
            · refine And.intro (fun (c21 : 2 ≤ t) => ?_) (fun (c21 : ¬ (2 ≤ t)) => ?_)
              · refine And.intro (show -2147483648 ≤ t - 1 ∧ t - 1 < 2147483648 by omega) ?_
                refine And.intro (show 0 ≤ t - 1 ∧ t - 1 < 50 by omega) ?_
                refine And.intro (fun (c22 : co p % 16 ≠ 0) => ?_) (fun (c22 : ¬ (co p % 16 ≠ 0)) => ?_)
                · refine And.intro (fun (c23 : co p % 16 ≠ 3) => ?_) (fun (c23 : ¬ (co p % 16 ≠ 3)) => ?_)
                  · refine And.intro (fun (c24 : co p % 16 ≠ 4) => ?_) (fun (c24 : ¬ (co p % 16 ≠ 4)) => ?_)
                    · refine And.intro (fun (c25 : co p % 16 ≠ 5) => ?_) (fun (c25 : ¬ (co p % 16 ≠ 5)) => ?_)
                      · refine And.intro (show -2147483648 ≤ t + (-1) ∧ t + (-1) < 2147483648 by omega) ?_
                        refine And.intro (fun (c26 : co p % 16 ≤ 5) => ?_) (fun (c26 : ¬ (co p % 16 ≤ 5)) => ?_)
                        · refine And.intro (show -2147483648 ≤ step + 1 ∧ step + 1 < 2147483648 by omega) ?_
                          show cw_R _ _ 8 [vr x_orderSums_, vr T, vi fr, vi (p + 1), vi (t + (-1)), vi (step + 1), vi (co p % 16), vi (co p / 16), vi (sk (t - 1)), w9, w10] [] (v1_m m sk) _
                          have E : e_st co n (m x_orderSums_words_) (f + 1) p t sk = e_st co n (m x_orderSums_words_) f (p + 1) (t + (-1)) (sk) := by rw [e_stS, if_pos (by omega), if_neg (by omega), if_neg (by omega), if_neg (by omega), if_neg (by omega), if_neg (by omega), if_pos (by omega), show t - 1 = t + (-1) by omega]
                          rw [E] at hQ
                          refine ih (p + 1) (t + (-1)) (step + 1) (sk) _ _ _ _ _ _ (by omega) (by omega) (by omega) (by omega) (fun i i0 i1 => ?_) hQ
                          have := hsk i (by omega) (by omega); omega
                        · refine And.intro (show -2147483648 ≤ (t + (-1)) - 1 ∧ (t + (-1)) - 1 < 2147483648 by omega) ?_
                          refine And.intro (show 0 ≤ (t + (-1)) - 1 ∧ (t + (-1)) - 1 < 50 by omega) ?_
                          show cw_C _ _ [vi (co p % 16), vl (sk ((t + (-1)) - 1)), vl (sk (t - 1))] (v1_m m sk) _
                          refine Su_combine hm (by omega) (by omega) ⟨hm, ?_⟩
                          refine And.intro (fun (c27 : 0 < cw_lc (e_cb (co p % 16) (sk ((t + (-1)) - 1)) (sk (t - 1))) 1000000000) => ?_) (fun (c27 : ¬ (0 < cw_lc (e_cb (co p % 16) (sk ((t + (-1)) - 1)) (sk (t - 1))) 1000000000)) => ?_)
                          · have hcb : 1000000000 < e_cb (co p % 16) (sk (t + (-1) - 1)) (sk (t - 1)) ∨ e_cb (co p % 16) (sk (t + (-1) - 1)) (sk (t - 1)) < -1000000000 := Or.inl (by have := lc_le (x := e_cb (co p % 16) (sk (t + (-1) - 1)) (sk (t - 1))) (y := 1000000000); omega)
                            show Q (some (vi (-2000000000))) (v1_m m sk)
                            first
                              | (have E : e_st co n (m x_orderSums_words_) (f + 1) p t sk = none := (by rw [e_stS, if_pos (by omega), if_pos (by omega), if_pos (by omega)]); rw [E] at hQ; exact hQ _)
                              | (have E : e_st co n (m x_orderSums_words_) (f + 1) p t sk = none := (by rw [e_stS, if_pos (by omega), if_neg (by omega), if_pos (by omega)]); rw [E] at hQ; exact hQ _)
                              | (have E : e_st co n (m x_orderSums_words_) (f + 1) p t sk = none := (by rw [e_stS, if_pos (by omega), if_neg (by omega), if_neg (by omega), if_neg (by omega), if_neg (by omega), if_neg (by omega), if_neg (by omega), show t - 2 = t + (-1) - 1 by omega, if_pos hcb]); rw [E] at hQ; exact hQ _)
                          · have hcA := lc_le (x := e_cb (co p % 16) (sk (t + (-1) - 1)) (sk (t - 1))) (y := 1000000000)
                            refine And.intro (fun (c28 : 0 ≤ cw_lc (e_cb (co p % 16) (sk ((t + (-1)) - 1)) (sk (t - 1))) (-1000000000)) => ?_) (fun (c28 : ¬ (0 ≤ cw_lc (e_cb (co p % 16) (sk ((t + (-1)) - 1)) (sk (t - 1))) (-1000000000))) => ?_)
                            · have hcB := lc_lt (x := e_cb (co p % 16) (sk (t + (-1) - 1)) (sk (t - 1))) (y := -1000000000)
                              have hcb : ¬ (1000000000 < e_cb (co p % 16) (sk (t + (-1) - 1)) (sk (t - 1)) ∨ e_cb (co p % 16) (sk (t + (-1) - 1)) (sk (t - 1)) < -1000000000) := by omega
                              refine And.intro (show -2147483648 ≤ (t + (-1)) - 1 ∧ (t + (-1)) - 1 < 2147483648 by omega) ?_
                              refine And.intro (show -2147483648 ≤ e_cb (co p % 16) (sk ((t + (-1)) - 1)) (sk (t - 1)) ∧ e_cb (co p % 16) (sk ((t + (-1)) - 1)) (sk (t - 1)) < 2147483648 by omega) ?_
                              refine And.intro (show 0 ≤ (t + (-1)) - 1 ∧ (t + (-1)) - 1 < 50 by omega) ?_
                              have hm29 : la_ok (cw_put (v1_m m sk) x_orderSums_stack_ ((t + (-1)) - 1) (e_cb (co p % 16) (sk ((t + (-1)) - 1)) (sk (t - 1)))) := la_put hm (by decide) (Or.inr (by decide))
                              refine And.intro (show -2147483648 ≤ step + 1 ∧ step + 1 < 2147483648 by omega) ?_
                              show cw_R _ _ 8 [vr x_orderSums_, vr T, vi fr, vi (p + 1), vi (t + (-1)), vi (step + 1), vi (co p % 16), vi (co p / 16), vi (sk (t - 1)), vl (e_cb (co p % 16) (sk ((t + (-1)) - 1)) (sk (t - 1))), none] [] (cw_put (v1_m m sk) x_orderSums_stack_ ((t + (-1)) - 1) (e_cb (co p % 16) (sk ((t + (-1)) - 1)) (sk (t - 1)))) _
                              rw [v1_m_psk]
                              have hm30 : la_ok (v1_m m (cw_up sk ((t + (-1)) - 1) (e_cb (co p % 16) (sk ((t + (-1)) - 1)) (sk (t - 1))))) := v1_m_ok hm0
                              have E : e_st co n (m x_orderSums_words_) (f + 1) p t sk = e_st co n (m x_orderSums_words_) f (p + 1) (t + (-1)) (cw_up sk ((t + (-1)) - 1) (e_cb (co p % 16) (sk ((t + (-1)) - 1)) (sk (t - 1)))) := by rw [e_stS, if_pos (by omega), if_neg (by omega), if_neg (by omega), if_neg (by omega), if_neg (by omega), if_neg (by omega), if_neg (by omega), show t - 2 = t + (-1) - 1 by omega, if_neg hcb, show t - 1 = t + (-1) by omega]
                              rw [E] at hQ
                              refine ih (p + 1) (t + (-1)) (step + 1) (cw_up sk ((t + (-1)) - 1) (e_cb (co p % 16) (sk ((t + (-1)) - 1)) (sk (t - 1)))) _ _ _ _ _ _ (by omega) (by omega) (by omega) (by omega) (fun i i0 i1 => ?_) hQ
                              by_cases z : i = t + (-1) - 1
                              · rw [z, cw_up_eq]; omega
                              · rw [cw_up_ne z]; have := hsk i (by omega) (by omega); omega
                            · have hcb : 1000000000 < e_cb (co p % 16) (sk (t + (-1) - 1)) (sk (t - 1)) ∨ e_cb (co p % 16) (sk (t + (-1) - 1)) (sk (t - 1)) < -1000000000 := Or.inr (by have := lc_lt (x := e_cb (co p % 16) (sk (t + (-1) - 1)) (sk (t - 1))) (y := -1000000000); omega)
                              show Q (some (vi (-2000000000))) (v1_m m sk)
                              first
                                | (have E : e_st co n (m x_orderSums_words_) (f + 1) p t sk = none := (by rw [e_stS, if_pos (by omega), if_pos (by omega), if_pos (by omega)]); rw [E] at hQ; exact hQ _)
                                | (have E : e_st co n (m x_orderSums_words_) (f + 1) p t sk = none := (by rw [e_stS, if_pos (by omega), if_neg (by omega), if_pos (by omega)]); rw [E] at hQ; exact hQ _)
                                | (have E : e_st co n (m x_orderSums_words_) (f + 1) p t sk = none := (by rw [e_stS, if_pos (by omega), if_neg (by omega), if_neg (by omega), if_neg (by omega), if_neg (by omega), if_neg (by omega), if_neg (by omega), show t - 2 = t + (-1) - 1 by omega, if_pos hcb]); rw [E] at hQ; exact hQ _)
                      · refine And.intro (fun (c31 : sk (t - 1) = 0) => ?_) (fun (c31 : ¬ (sk (t - 1) = 0)) => ?_)
                        · refine And.intro (show -2147483648 ≤ t + (-1) ∧ t + (-1) < 2147483648 by omega) ?_
                          refine br_t (show co p % 16 ≤ 5 by omega) ?_
                          refine And.intro (show -2147483648 ≤ step + 1 ∧ step + 1 < 2147483648 by omega) ?_
                          show cw_R _ _ 8 [vr x_orderSums_, vr T, vi fr, vi (p + 1), vi (t + (-1)), vi (step + 1), vi (co p % 16), vi (co p / 16), vi (sk (t - 1)), w9, w10] [] (v1_m m sk) _
                          have E : e_st co n (m x_orderSums_words_) (f + 1) p t sk = e_st co n (m x_orderSums_words_) f (p + 1) (t + (-1)) (sk) := by rw [e_stS, if_pos (by omega), if_neg (by omega), if_neg (by omega), if_neg (by omega), if_neg (by omega), if_neg (by omega), if_pos (by omega), show t - 1 = t + (-1) by omega]
                          rw [E] at hQ
                          refine ih (p + 1) (t + (-1)) (step + 1) (sk) _ _ _ _ _ _ (by omega) (by omega) (by omega) (by omega) (fun i i0 i1 => ?_) hQ
                          have := hsk i (by omega) (by omega); omega
                        · refine br_t (show co p % 16 ≤ 5 by omega) ?_
                          refine And.intro (show -2147483648 ≤ step + 1 ∧ step + 1 < 2147483648 by omega) ?_
                          show cw_R _ _ 8 [vr x_orderSums_, vr T, vi fr, vi (co p / 16), vi t, vi (step + 1), vi (co p % 16), vi (co p / 16), vi (sk (t - 1)), w9, w10] [] (v1_m m sk) _
                          have E : e_st co n (m x_orderSums_words_) (f + 1) p t sk = e_st co n (m x_orderSums_words_) f (co p / 16) (t) (sk) := by rw [e_stS, if_pos (by omega), if_neg (by omega), if_neg (by omega), if_neg (by omega), if_neg (by omega), if_pos (by omega)]
                          rw [E] at hQ
                          refine ih (co p / 16) (t) (step + 1) (sk) _ _ _ _ _ _ (by omega) (by omega) (by omega) (by omega) (fun i i0 i1 => ?_) hQ
                          have := hsk i (by omega) (by omega); omega
                    · refine And.intro (fun (c32 : sk (t - 1) = 0) => ?_) (fun (c32 : ¬ (sk (t - 1) = 0)) => ?_)
                      · refine br_t (show co p % 16 ≤ 5 by omega) ?_
                        refine And.intro (show -2147483648 ≤ step + 1 ∧ step + 1 < 2147483648 by omega) ?_
                        show cw_R _ _ 8 [vr x_orderSums_, vr T, vi fr, vi (co p / 16), vi t, vi (step + 1), vi (co p % 16), vi (co p / 16), vi (sk (t - 1)), w9, w10] [] (v1_m m sk) _
                        have E : e_st co n (m x_orderSums_words_) (f + 1) p t sk = e_st co n (m x_orderSums_words_) f (co p / 16) (t) (sk) := by rw [e_stS, if_pos (by omega), if_neg (by omega), if_neg (by omega), if_neg (by omega), if_neg (by omega), if_pos (by omega)]
                        rw [E] at hQ
                        refine ih (co p / 16) (t) (step + 1) (sk) _ _ _ _ _ _ (by omega) (by omega) (by omega) (by omega) (fun i i0 i1 => ?_) hQ
                        have := hsk i (by omega) (by omega); omega
                      · refine br_t (show co p % 16 ≠ 5 by omega) ?_
                        refine And.intro (show -2147483648 ≤ t + (-1) ∧ t + (-1) < 2147483648 by omega) ?_
                        refine br_t (show co p % 16 ≤ 5 by omega) ?_
                        refine And.intro (show -2147483648 ≤ step + 1 ∧ step + 1 < 2147483648 by omega) ?_
                        show cw_R _ _ 8 [vr x_orderSums_, vr T, vi fr, vi (p + 1), vi (t + (-1)), vi (step + 1), vi (co p % 16), vi (co p / 16), vi (sk (t - 1)), w9, w10] [] (v1_m m sk) _
                        have E : e_st co n (m x_orderSums_words_) (f + 1) p t sk = e_st co n (m x_orderSums_words_) f (p + 1) (t + (-1)) (sk) := by rw [e_stS, if_pos (by omega), if_neg (by omega), if_neg (by omega), if_neg (by omega), if_neg (by omega), if_neg (by omega), if_pos (by omega), show t - 1 = t + (-1) by omega]
                        rw [E] at hQ
                        refine ih (p + 1) (t + (-1)) (step + 1) (sk) _ _ _ _ _ _ (by omega) (by omega) (by omega) (by omega) (fun i i0 i1 => ?_) hQ
                        have := hsk i (by omega) (by omega); omega
                  · refine And.intro (show -2147483648 ≤ t - 1 ∧ t - 1 < 2147483648 by omega) ?_
                    refine And.intro (show -2147483648 ≤ 1 - (sk (t - 1)) ∧ 1 - (sk (t - 1)) < 2147483648 by omega) ?_
                    refine And.intro (show 0 ≤ t - 1 ∧ t - 1 < 50 by omega) ?_
                    have hm33 : la_ok (cw_put (v1_m m sk) x_orderSums_stack_ (t - 1) (1 - (sk (t - 1)))) := la_put hm (by decide) (Or.inr (by decide))
                    refine br_t (show co p % 16 ≤ 5 by omega) ?_
                    refine And.intro (show -2147483648 ≤ step + 1 ∧ step + 1 < 2147483648 by omega) ?_
                    show cw_R _ _ 8 [vr x_orderSums_, vr T, vi fr, vi (p + 1), vi t, vi (step + 1), vi (co p % 16), vi (co p / 16), vi (sk (t - 1)), w9, w10] [] (cw_put (v1_m m sk) x_orderSums_stack_ (t - 1) (1 - (sk (t - 1)))) _
                    rw [v1_m_psk]
                    have hm34 : la_ok (v1_m m (cw_up sk (t - 1) (1 - (sk (t - 1))))) := v1_m_ok hm0
                    have E : e_st co n (m x_orderSums_words_) (f + 1) p t sk = e_st co n (m x_orderSums_words_) f (p + 1) (t) (cw_up sk (t - 1) (1 - (sk (t - 1)))) := by rw [e_stS, if_pos (by omega), if_neg (by omega), if_neg (by omega), if_neg (by omega), if_pos (by omega)]
                    rw [E] at hQ
                    refine ih (p + 1) (t) (step + 1) (cw_up sk (t - 1) (1 - (sk (t - 1)))) _ _ _ _ _ _ (by omega) (by omega) (by omega) (by omega) (fun i i0 i1 => ?_) hQ
                    by_cases z : i = t - 1
                    · rw [z, cw_up_eq]; omega
                    · rw [cw_up_ne z]; have := hsk i (by omega) (by omega); omega
                · show Q (some (vi (sk (t - 1)))) (v1_m m sk)
                  have E : e_st co n (m x_orderSums_words_) (f + 1) p t sk = some (sk (t - 1)) := by rw [e_stS, if_pos (by omega), if_neg (by omega), if_neg (by omega), if_pos (by omega)]
                  rw [E] at hQ
                  exact hQ _
              · show Q (some (vi (-2000000000))) (v1_m m sk)
                first
                  | (have E : e_st co n (m x_orderSums_words_) (f + 1) p t sk = none := (by rw [e_stS, if_pos (by omega), if_pos (by omega), if_pos (by omega)]); rw [E] at hQ; exact hQ _)
                  | (have E : e_st co n (m x_orderSums_words_) (f + 1) p t sk = none := (by rw [e_stS, if_pos (by omega), if_neg (by omega), if_pos (by omega)]); rw [E] at hQ; exact hQ _)
                  | (have E : e_st co n (m x_orderSums_words_) (f + 1) p t sk = none := (by rw [e_stS, if_pos (by omega), if_neg (by omega), if_neg (by omega), if_neg (by omega), if_neg (by omega), if_neg (by omega), if_neg (by omega), show t - 2 = t + (-1) - 1 by omega, if_pos hcb]); rw [E] at hQ; exact hQ _)
        · refine And.intro (fun (c35 : 50 ≤ t) => ?_) (fun (c35 : ¬ (50 ≤ t)) => ?_)
          · show Q (some (vi (-2000000000))) (v1_m m sk)
            first
              | (have E : e_st co n (m x_orderSums_words_) (f + 1) p t sk = none := (by rw [e_stS, if_pos (by omega), if_pos (by omega), if_pos (by omega)]); rw [E] at hQ; exact hQ _)
              | (have E : e_st co n (m x_orderSums_words_) (f + 1) p t sk = none := (by rw [e_stS, if_pos (by omega), if_neg (by omega), if_pos (by omega)]); rw [E] at hQ; exact hQ _)
              | (have E : e_st co n (m x_orderSums_words_) (f + 1) p t sk = none := (by rw [e_stS, if_pos (by omega), if_neg (by omega), if_neg (by omega), if_neg (by omega), if_neg (by omega), if_neg (by omega), if_neg (by omega), show t - 2 = t + (-1) - 1 by omega, if_pos hcb]); rw [E] at hQ; exact hQ _)
          · refine br_f (show ¬ (co p % 16 ≠ 2) by omega) ?_
            refine And.intro (fun (c36 : co p / 16 < 17) => ?_) (fun (c36 : ¬ (co p / 16 < 17)) => ?_)
            · refine br_t (show co p % 16 ≠ 1 by omega) ?_
              refine And.intro (show 0 ≤ co p / 16 ∧ co p / 16 < 17 by omega) ?_
              refine And.intro (show 0 ≤ t ∧ t < 50 by omega) ?_
              have hm37 : la_ok (cw_put (v1_m m sk) x_orderSums_stack_ t (m x_orderSums_words_ (co p / 16))) := la_put hm (by decide) (Or.inr (by decide))
              refine And.intro (show -2147483648 ≤ t + 1 ∧ t + 1 < 2147483648 by omega) ?_
              refine And.intro (show -2147483648 ≤ step + 1 ∧ step + 1 < 2147483648 by omega) ?_
              show cw_R _ _ 8 [vr x_orderSums_, vr T, vi fr, vi (p + 1), vi (t + 1), vi (step + 1), vi (co p % 16), vi (co p / 16), w8, w9, w10] [] (cw_put (v1_m m sk) x_orderSums_stack_ t (m x_orderSums_words_ (co p / 16))) _
              rw [v1_m_psk]
              have hm38 : la_ok (v1_m m (cw_up sk t (m x_orderSums_words_ (co p / 16)))) := v1_m_ok hm0
              have E : e_st co n (m x_orderSums_words_) (f + 1) p t sk = e_st co n (m x_orderSums_words_) f (p + 1) (t + 1) (cw_up sk t (m x_orderSums_words_ (co p / 16))) := by rw [e_stS, if_pos (by omega), if_pos (by omega), if_neg (by omega), if_neg (by omega)]
              rw [E] at hQ
              refine ih (p + 1) (t + 1) (step + 1) (cw_up sk t (m x_orderSums_words_ (co p / 16))) _ _ _ _ _ _ (by omega) (by omega) (by omega) (by omega) (fun i i0 i1 => ?_) hQ
              by_cases z : i = t
              · rw [z, cw_up_eq]; have := hW (co p / 16) (by omega) (by omega); omega
              · rw [cw_up_ne z]; have := hsk i (by omega) (by omega); omega
            · show Q (some (vi (-2000000000))) (v1_m m sk)
              first
                | (have E : e_st co n (m x_orderSums_words_) (f + 1) p t sk = none := (by rw [e_stS, if_pos (by omega), if_pos (by omega), if_pos (by omega)]); rw [E] at hQ; exact hQ _)
                | (have E : e_st co n (m x_orderSums_words_) (f + 1) p t sk = none := (by rw [e_stS, if_pos (by omega), if_neg (by omega), if_pos (by omega)]); rw [E] at hQ; exact hQ _)
                | (have E : e_st co n (m x_orderSums_words_) (f + 1) p t sk = none := (by rw [e_stS, if_pos (by omega), if_neg (by omega), if_neg (by omega), if_neg (by omega), if_neg (by omega), if_neg (by omega), if_neg (by omega), show t - 2 = t + (-1) - 1 by omega, if_pos hcb]); rw [E] at hQ; exact hQ _)
    refine la_go_RV hm 27 [11, 19, 29, 33, 40, 44] [52] ?_
    refine And.intro (show cw_tg T = 8 by exact hT8) ?_
    refine And.intro (fun (c1 : (v1_m m sk) T 1 ≤ step) => ?_) (fun (c1 : ¬ ((v1_m m sk) T 1 ≤ step)) => ?_)
    · show Q (some (vi (-2000000000))) (v1_m m sk)
      have E : e_st co n (m x_orderSums_words_) (f + 1) p t sk = none := by rw [e_stS, if_neg (by omega)]
      rw [E] at hQ
      exact hQ _
    · refine And.intro (show cw_tg T = 8 by exact hT8) ?_
      show cw_C _ _ [vi p, vi ((v1_m m sk) T 1)] (v1_m m sk) _
      refine C_isBelow (fun (a2 : 0 ≤ p) (a3 : p < (v1_m m sk) T 1) => ⟨hm, ?_⟩) (fun (a4 : ¬ (0 ≤ p ∧ p < (v1_m m sk) T 1)) => ⟨hm, ?_⟩)
      · refine br_f (show ¬ ((1 : Int) = 0) by decide) ?_
        refine And.intro (show cw_tg T = 8 by exact hT8) ?_
        refine And.intro (show cw_tg ((v1_m m sk) T 7) = 40 ∧ 0 ≤ p ∧ p < cw_ln ((v1_m m sk) T 7) by rw [eA]; exact ⟨hT.2.2.2.1, by omega, by have := hT.2.2.2.2.1; omega⟩) ?_
        refine And.intro (show cw_tg T = 8 by exact hT8) ?_
        refine And.intro (show cw_tg ((v1_m m sk) T 7) = 40 ∧ 0 ≤ p ∧ p < cw_ln ((v1_m m sk) T 7) by rw [eA]; exact ⟨hT.2.2.2.1, by omega, by have := hT.2.2.2.2.1; omega⟩) ?_
        refine And.intro (show -2147483648 ≤ p + 1 ∧ p + 1 < 2147483648 by omega) ?_
        show cw_R _ _ 52 [vr x_orderSums_, vr T, vi fr, vi (p + 1), vi t, vi step, vi (cw_iand ((v1_m m sk) ((v1_m m sk) T 7) p) 15), vi (cw_ishr ((v1_m m sk) ((v1_m m sk) T 7) p) 4), w8, w9, w10] [] (v1_m m sk) _
        rw [eA, eC p, (e_15 (hco p (by omega) (by omega))).1, (e_15 (hco p (by omega) (by omega))).2]
        exact l52 (by omega)
      · refine br_t (show (0 : Int) = 0 by decide) ?_
        show Q (some (vi (-2000000000))) (v1_m m sk)
        have E : e_st co n (m x_orderSums_words_) (f + 1) p t sk = none := by rw [e_stS, if_neg (by omega)]
        rw [E] at hQ
        exact hQ _
theorem Su_eval1 {d : Nat} {m : cw_M} {Q : Option cw_V → cw_M → Prop} (hm0 : la_ok m) {T CA n fr : Int} {co sk : Int → Int} (hT : cw_tg T = 8 ∧ m T 1 = n ∧ m T 7 = CA ∧ cw_tg CA = 40 ∧ n ≤ cw_ln CA ∧ T ≠ x_orderSums_stack_ ∧ CA ≠ x_orderSums_stack_ ∧ ∀ i, m CA i = co i) (hn : 0 ≤ n ∧ n ≤ 400) (hco : e_ok co n) (hW : ∀ i, 0 ≤ i → i < 17 → -1000000 ≤ m x_orderSums_words_ i ∧ m x_orderSums_words_ i ≤ 1000000) (hQ : ∀ sk', Q (some (vi ((e_st co n (m x_orderSums_words_) n.toNat fr 0 sk).getD (-2000000000)))) (v1_m m sk')) : cw_C (d + 1) k_Su_evaluate [vr x_orderSums_, vr T, vi fr] (v1_m m sk) Q := by
  have hm : la_ok (v1_m m sk) := v1_m_ok hm0
  refine la_go_CV hm 9 [11, 19, 29, 33, 40, 44] [8] ?_
  show cw_R _ _ 8 [vr x_orderSums_, vr T, vi fr, vi fr, vi 0, vi 0, none, none, none, none, none] [] (v1_m m sk) _
  exact Su_eval1L hm0 hT hn hco hW n.toNat fr 0 0 sk _ _ _ _ _ _ (by omega) (by omega) (by omega) (by omega) (fun i a b => by omega) hQ
def v2_m (m : cw_M) (sk : Int → Int) : cw_M := fun c => if c = x_ledger_paper_sums_stack_ then sk else m c
theorem v2_m_ne {m : cw_M} {sk : Int → Int} {c : Int} (h0 : c ≠ x_ledger_paper_sums_stack_) : v2_m m sk c = m c := by
  unfold v2_m; rw [if_neg h0]
theorem v2_m_sk {m : cw_M} {sk : Int → Int} : v2_m m sk x_ledger_paper_sums_stack_ = sk := rfl
theorem v2_m_ok {m : cw_M} {sk : Int → Int} (hm : la_ok m) : la_ok (v2_m m sk) := by
  refine ⟨by rw [v2_m_ne (by decide)]; exact hm.1, fun e he => ?_⟩
  obtain ⟨z1, h2, -, z4⟩ := la_lok e he
  have n0 : e.1 ≠ x_ledger_paper_sums_stack_ := fun q => by rw [q] at h2; revert h2; decide
  rw [v2_m_ne n0 ]; exact hm.2 e he
theorem v2_m_x {m M : cw_M} {sk : Int → Int} (r0 : M x_ledger_paper_sums_stack_ = sk)   (h : ∀ c, c ≠ x_ledger_paper_sums_stack_ → M c = m c) : M = v2_m m sk := by
  funext c
  by_cases h0 : c = x_ledger_paper_sums_stack_
  · rw [h0, r0]; rfl
  rw [h c h0, v2_m_ne h0]
theorem v2_m_rsk {m : cw_M} {sk : Int → Int} {f : Int → Int} : cw_row (v2_m m sk) x_ledger_paper_sums_stack_ f = v2_m m f := by
  refine v2_m_x rfl  (fun c h0 => by rw [cw_row_ne h0, v2_m_ne h0])
theorem v2_m_psk {m : cw_M} {sk : Int → Int} {i v : Int} : cw_put (v2_m m sk) x_ledger_paper_sums_stack_ i v = v2_m m (cw_up sk i v) := by
  rw [cw_put_row, v2_m_rsk, v2_m_sk]
theorem v2_m_2 {m : cw_M} {sk : Int → Int} {sk' : Int → Int} : v2_m (v2_m m sk) sk' = v2_m m sk' := by
  refine v2_m_x rfl  (fun c h0 => by rw [v2_m_ne h0, v2_m_ne h0])
theorem v2_m_self {m : cw_M} : v2_m m (m x_ledger_paper_sums_stack_)  = m := by
  refine (v2_m_x rfl  (fun _ _ => rfl)).symm
set_option maxHeartbeats 4000000 in
theorem Su_eval2L {d : Nat} {m : cw_M} {Q : Option cw_V → cw_M → Prop} (hm0 : la_ok m) {T CA n : Int} {co : Int → Int} (hT : cw_tg T = 8 ∧ m T 1 = n ∧ m T 7 = CA ∧ cw_tg CA = 40 ∧ n ≤ cw_ln CA ∧ T ≠ x_ledger_paper_sums_stack_ ∧ CA ≠ x_ledger_paper_sums_stack_ ∧ ∀ i, m CA i = co i) (hn : 0 ≤ n ∧ n ≤ 400) (hco : e_ok co n) (hW : ∀ i, 0 ≤ i → i < 17 → -1000000 ≤ m x_ledger_paper_sums_words_ i ∧ m x_ledger_paper_sums_words_ i ≤ 1000000) : ∀ (f : Nat) (p t step : Int) (sk : Int → Int) (fr : Int) (w6 w7 w8 w9 w10 : cw_V), step + f = n → 0 ≤ step → 0 ≤ t → t ≤ 50 → (∀ i, 0 ≤ i → i < t → -1000000000 - step ≤ sk i ∧ sk i ≤ 1000000000 + step) → (∀ sk', Q (some (vi ((e_st co n (m x_ledger_paper_sums_words_) f p t sk).getD (-2000000000)))) (v2_m m sk')) → cw_R (d + 1) k_Su_evaluate 8 [vr x_ledger_paper_sums_, vr T, vi fr, vi p, vi t, vi step, w6, w7, w8, w9, w10] [] (v2_m m sk) Q
  | 0, p, t, step, sk, fr, w6, w7, w8, w9, w10, hf, hst, ht0, ht, hsk, hQ => by
    have hm : la_ok (v2_m m sk) := v2_m_ok hm0
    have eT : (v2_m m sk) T 1 = n := by rw [v2_m_ne hT.2.2.2.2.2.1]; exact hT.2.1
    have eA : (v2_m m sk) T 7 = CA := by rw [v2_m_ne hT.2.2.2.2.2.1]; exact hT.2.2.1
    have eC : ∀ i, (v2_m m sk) CA i = co i := fun i => by rw [v2_m_ne hT.2.2.2.2.2.2.1]; exact hT.2.2.2.2.2.2.2 i
    have hT8 := hT.1
    refine la_go_RV hm 9 [11, 19, 29, 33, 40, 44] [52] ?_
    refine And.intro (show cw_tg T = 8 by exact hT8) ?_
    refine br_t (show (v2_m m sk) T 1 ≤ step by omega) ?_
    show Q (some (vi (-2000000000))) (v2_m m sk)
    exact hQ _
  | f + 1, p, t, step, sk, fr, w6, w7, w8, w9, w10, hf, hst, ht0, ht, hsk, hQ => by
    have ih := Su_eval2L (d := d) (Q := Q) hm0 hT hn hco hW f
    have hm : la_ok (v2_m m sk) := v2_m_ok hm0
    have eT : (v2_m m sk) T 1 = n := by rw [v2_m_ne hT.2.2.2.2.2.1]; exact hT.2.1
    have eA : (v2_m m sk) T 7 = CA := by rw [v2_m_ne hT.2.2.2.2.2.1]; exact hT.2.2.1
    have eC : ∀ i, (v2_m m sk) CA i = co i := fun i => by rw [v2_m_ne hT.2.2.2.2.2.2.1]; exact hT.2.2.2.2.2.2.2 i
    have hT8 := hT.1
    have l52 : 0 ≤ p ∧ p < n → cw_R (d + 1) k_Su_evaluate 52 [vr x_ledger_paper_sums_, vr T, vi fr, vi (p + 1), vi t, vi step, vi (co p % 16), vi (co p / 16), w8, w9, w10] [] (v2_m m sk) Q := by
      intro hp
      have hcp := hco p hp.1 hp.2
      refine la_go_RV hm 70 [11, 19, 29, 33, 40, 44] [8] ?_
      refine And.intro (fun (c1 : co p % 16 = 1) => ?_) (fun (c1 : ¬ (co p % 16 = 1)) => ?_)
      · refine And.intro (fun (c2 : 50 ≤ t) => ?_) (fun (c2 : ¬ (50 ≤ t)) => ?_)
        · show Q (some (vi (-2000000000))) (v2_m m sk)
          first
            | (have E : e_st co n (m x_ledger_paper_sums_words_) (f + 1) p t sk = none := (by rw [e_stS, if_pos (by omega), if_pos (by omega), if_pos (by omega)]); rw [E] at hQ; exact hQ _)
            | (have E : e_st co n (m x_ledger_paper_sums_words_) (f + 1) p t sk = none := (by rw [e_stS, if_pos (by omega), if_neg (by omega), if_pos (by omega)]); rw [E] at hQ; exact hQ _)
            | (have E : e_st co n (m x_ledger_paper_sums_words_) (f + 1) p t sk = none := (by rw [e_stS, if_pos (by omega), if_neg (by omega), if_neg (by omega), if_neg (by omega), if_neg (by omega), if_neg (by omega), if_neg (by omega), show t - 2 = t + (-1) - 1 by omega, if_pos hcb]); rw [E] at hQ; exact hQ _)
        · refine br_t (show co p % 16 ≠ 2 by omega) ?_
          refine br_f (show ¬ (co p % 16 ≠ 1) by omega) ?_
          refine And.intro (show 0 ≤ t ∧ t < 50 by omega) ?_
          have hm3 : la_ok (cw_put (v2_m m sk) x_ledger_paper_sums_stack_ t (co p / 16)) := la_put hm (by decide) (Or.inr (by decide))
          refine And.intro (show -2147483648 ≤ t + 1 ∧ t + 1 < 2147483648 by omega) ?_
          refine And.intro (show -2147483648 ≤ step + 1 ∧ step + 1 < 2147483648 by omega) ?_
          show cw_R _ _ 8 [vr x_ledger_paper_sums_, vr T, vi fr, vi (p + 1), vi (t + 1), vi (step + 1), vi (co p % 16), vi (co p / 16), w8, w9, w10] [] (cw_put (v2_m m sk) x_ledger_paper_sums_stack_ t (co p / 16)) _
          rw [v2_m_psk]
          have hm4 : la_ok (v2_m m (cw_up sk t (co p / 16))) := v2_m_ok hm0
          have E : e_st co n (m x_ledger_paper_sums_words_) (f + 1) p t sk = e_st co n (m x_ledger_paper_sums_words_) f (p + 1) (t + 1) (cw_up sk t (co p / 16)) := by rw [e_stS, if_pos (by omega), if_pos (by omega), if_neg (by omega), if_pos (by omega)]
          rw [E] at hQ
          refine ih (p + 1) (t + 1) (step + 1) (cw_up sk t (co p / 16)) _ _ _ _ _ _ (by omega) (by omega) (by omega) (by omega) (fun i i0 i1 => ?_) hQ
          by_cases z : i = t
          · rw [z, cw_up_eq]; omega
          · rw [cw_up_ne z]; have := hsk i (by omega) (by omega); omega
      · refine And.intro (fun (c5 : co p % 16 ≠ 2) => ?_) (fun (c5 : ¬ (co p % 16 ≠ 2)) => ?_)
        · refine And.intro (fun (c6 : t < 1) => ?_) (fun (c6 : ¬ (t < 1)) => ?_)
          · show Q (some (vi (-2000000000))) (v2_m m sk)
            first
              | (have E : e_st co n (m x_ledger_paper_sums_words_) (f + 1) p t sk = none := (by rw [e_stS, if_pos (by omega), if_pos (by omega), if_pos (by omega)]); rw [E] at hQ; exact hQ _)
              | (have E : e_st co n (m x_ledger_paper_sums_words_) (f + 1) p t sk = none := (by rw [e_stS, if_pos (by omega), if_neg (by omega), if_pos (by omega)]); rw [E] at hQ; exact hQ _)
              | (have E : e_st co n (m x_ledger_paper_sums_words_) (f + 1) p t sk = none := (by rw [e_stS, if_pos (by omega), if_neg (by omega), if_neg (by omega), if_neg (by omega), if_neg (by omega), if_neg (by omega), if_neg (by omega), show t - 2 = t + (-1) - 1 by omega, if_pos hcb]); rw [E] at hQ; exact hQ _)
          · have hs1 := hsk (t - 1) (by omega) (by omega)
            have hs2 : 2 ≤ t → -1000000000 - step ≤ sk (t + (-1) - 1) ∧ sk (t + (-1) - 1) ≤ 1000000000 + step := fun q => hsk _ (by omega) (by omega)
            refine And.intro (fun (c7 : co p % 16 ≤ 5) => ?_) (fun (c7 : ¬ (co p % 16 ≤ 5)) => ?_)
            · refine And.intro (show -2147483648 ≤ t - 1 ∧ t - 1 < 2147483648 by omega) ?_
              refine And.intro (show 0 ≤ t - 1 ∧ t - 1 < 50 by omega) ?_
              refine And.intro (fun (c8 : co p % 16 ≠ 0) => ?_) (fun (c8 : ¬ (co p % 16 ≠ 0)) => ?_)
              · refine And.intro (fun (c9 : co p % 16 ≠ 3) => ?_) (fun (c9 : ¬ (co p % 16 ≠ 3)) => ?_)
                · refine And.intro (fun (c10 : co p % 16 ≠ 4) => ?_) (fun (c10 : ¬ (co p % 16 ≠ 4)) => ?_)
                  · refine And.intro (fun (c11 : co p % 16 ≠ 5) => ?_) (fun (c11 : ¬ (co p % 16 ≠ 5)) => ?_)
                    · refine And.intro (show -2147483648 ≤ t + (-1) ∧ t + (-1) < 2147483648 by omega) ?_
                      refine And.intro (fun (c12 : co p % 16 ≤ 5) => ?_) (fun (c12 : ¬ (co p % 16 ≤ 5)) => ?_)
                      · refine And.intro (show -2147483648 ≤ step + 1 ∧ step + 1 < 2147483648 by omega) ?_
                        show cw_R _ _ 8 [vr x_ledger_paper_sums_, vr T, vi fr, vi (p + 1), vi (t + (-1)), vi (step + 1), vi (co p % 16), vi (co p / 16), vi (sk (t - 1)), w9, w10] [] (v2_m m sk) _
                        have E : e_st co n (m x_ledger_paper_sums_words_) (f + 1) p t sk = e_st co n (m x_ledger_paper_sums_words_) f (p + 1) (t + (-1)) (sk) := by rw [e_stS, if_pos (by omega), if_neg (by omega), if_neg (by omega), if_neg (by omega), if_neg (by omega), if_neg (by omega), if_pos (by omega), show t - 1 = t + (-1) by omega]
                        rw [E] at hQ
                        refine ih (p + 1) (t + (-1)) (step + 1) (sk) _ _ _ _ _ _ (by omega) (by omega) (by omega) (by omega) (fun i i0 i1 => ?_) hQ
                        have := hsk i (by omega) (by omega); omega
                      · refine And.intro (show -2147483648 ≤ (t + (-1)) - 1 ∧ (t + (-1)) - 1 < 2147483648 by omega) ?_
                        refine And.intro (show 0 ≤ (t + (-1)) - 1 ∧ (t + (-1)) - 1 < 50 by omega) ?_
                        show cw_C _ _ [vi (co p % 16), vl (sk ((t + (-1)) - 1)), vl (sk (t - 1))] (v2_m m sk) _
                        refine Su_combine hm (by omega) (by omega) ⟨hm, ?_⟩
                        refine And.intro (fun (c13 : 0 < cw_lc (e_cb (co p % 16) (sk ((t + (-1)) - 1)) (sk (t - 1))) 1000000000) => ?_) (fun (c13 : ¬ (0 < cw_lc (e_cb (co p % 16) (sk ((t + (-1)) - 1)) (sk (t - 1))) 1000000000)) => ?_)
                        · have hcb : 1000000000 < e_cb (co p % 16) (sk (t + (-1) - 1)) (sk (t - 1)) ∨ e_cb (co p % 16) (sk (t + (-1) - 1)) (sk (t - 1)) < -1000000000 := Or.inl (by have := lc_le (x := e_cb (co p % 16) (sk (t + (-1) - 1)) (sk (t - 1))) (y := 1000000000); omega)
                          show Q (some (vi (-2000000000))) (v2_m m sk)
                          first
                            | (have E : e_st co n (m x_ledger_paper_sums_words_) (f + 1) p t sk = none := (by rw [e_stS, if_pos (by omega), if_pos (by omega), if_pos (by omega)]); rw [E] at hQ; exact hQ _)
                            | (have E : e_st co n (m x_ledger_paper_sums_words_) (f + 1) p t sk = none := (by rw [e_stS, if_pos (by omega), if_neg (by omega), if_pos (by omega)]); rw [E] at hQ; exact hQ _)
                            | (have E : e_st co n (m x_ledger_paper_sums_words_) (f + 1) p t sk = none := (by rw [e_stS, if_pos (by omega), if_neg (by omega), if_neg (by omega), if_neg (by omega), if_neg (by omega), if_neg (by omega), if_neg (by omega), show t - 2 = t + (-1) - 1 by omega, if_pos hcb]); rw [E] at hQ; exact hQ _)
                        · have hcA := lc_le (x := e_cb (co p % 16) (sk (t + (-1) - 1)) (sk (t - 1))) (y := 1000000000)
                          refine And.intro (fun (c14 : 0 ≤ cw_lc (e_cb (co p % 16) (sk ((t + (-1)) - 1)) (sk (t - 1))) (-1000000000)) => ?_) (fun (c14 : ¬ (0 ≤ cw_lc (e_cb (co p % 16) (sk ((t + (-1)) - 1)) (sk (t - 1))) (-1000000000))) => ?_)
                          · have hcB := lc_lt (x := e_cb (co p % 16) (sk (t + (-1) - 1)) (sk (t - 1))) (y := -1000000000)
                            have hcb : ¬ (1000000000 < e_cb (co p % 16) (sk (t + (-1) - 1)) (sk (t - 1)) ∨ e_cb (co p % 16) (sk (t + (-1) - 1)) (sk (t - 1)) < -1000000000) := by omega
                            refine And.intro (show -2147483648 ≤ (t + (-1)) - 1 ∧ (t + (-1)) - 1 < 2147483648 by omega) ?_
                            refine And.intro (show -2147483648 ≤ e_cb (co p % 16) (sk ((t + (-1)) - 1)) (sk (t - 1)) ∧ e_cb (co p % 16) (sk ((t + (-1)) - 1)) (sk (t - 1)) < 2147483648 by omega) ?_
                            refine And.intro (show 0 ≤ (t + (-1)) - 1 ∧ (t + (-1)) - 1 < 50 by omega) ?_
                            have hm15 : la_ok (cw_put (v2_m m sk) x_ledger_paper_sums_stack_ ((t + (-1)) - 1) (e_cb (co p % 16) (sk ((t + (-1)) - 1)) (sk (t - 1)))) := la_put hm (by decide) (Or.inr (by decide))
                            refine And.intro (show -2147483648 ≤ step + 1 ∧ step + 1 < 2147483648 by omega) ?_
                            show cw_R _ _ 8 [vr x_ledger_paper_sums_, vr T, vi fr, vi (p + 1), vi (t + (-1)), vi (step + 1), vi (co p % 16), vi (co p / 16), vi (sk (t - 1)), vl (e_cb (co p % 16) (sk ((t + (-1)) - 1)) (sk (t - 1))), none] [] (cw_put (v2_m m sk) x_ledger_paper_sums_stack_ ((t + (-1)) - 1) (e_cb (co p % 16) (sk ((t + (-1)) - 1)) (sk (t - 1)))) _
                            rw [v2_m_psk]
                            have hm16 : la_ok (v2_m m (cw_up sk ((t + (-1)) - 1) (e_cb (co p % 16) (sk ((t + (-1)) - 1)) (sk (t - 1))))) := v2_m_ok hm0
                            have E : e_st co n (m x_ledger_paper_sums_words_) (f + 1) p t sk = e_st co n (m x_ledger_paper_sums_words_) f (p + 1) (t + (-1)) (cw_up sk ((t + (-1)) - 1) (e_cb (co p % 16) (sk ((t + (-1)) - 1)) (sk (t - 1)))) := by rw [e_stS, if_pos (by omega), if_neg (by omega), if_neg (by omega), if_neg (by omega), if_neg (by omega), if_neg (by omega), if_neg (by omega), show t - 2 = t + (-1) - 1 by omega, if_neg hcb, show t - 1 = t + (-1) by omega]
                            rw [E] at hQ
                            refine ih (p + 1) (t + (-1)) (step + 1) (cw_up sk ((t + (-1)) - 1) (e_cb (co p % 16) (sk ((t + (-1)) - 1)) (sk (t - 1)))) _ _ _ _ _ _ (by omega) (by omega) (by omega) (by omega) (fun i i0 i1 => ?_) hQ
                            by_cases z : i = t + (-1) - 1
                            · rw [z, cw_up_eq]; omega
                            · rw [cw_up_ne z]; have := hsk i (by omega) (by omega); omega
                          · have hcb : 1000000000 < e_cb (co p % 16) (sk (t + (-1) - 1)) (sk (t - 1)) ∨ e_cb (co p % 16) (sk (t + (-1) - 1)) (sk (t - 1)) < -1000000000 := Or.inr (by have := lc_lt (x := e_cb (co p % 16) (sk (t + (-1) - 1)) (sk (t - 1))) (y := -1000000000); omega)
                            show Q (some (vi (-2000000000))) (v2_m m sk)
                            first
                              | (have E : e_st co n (m x_ledger_paper_sums_words_) (f + 1) p t sk = none := (by rw [e_stS, if_pos (by omega), if_pos (by omega), if_pos (by omega)]); rw [E] at hQ; exact hQ _)
                              | (have E : e_st co n (m x_ledger_paper_sums_words_) (f + 1) p t sk = none := (by rw [e_stS, if_pos (by omega), if_neg (by omega), if_pos (by omega)]); rw [E] at hQ; exact hQ _)
                              | (have E : e_st co n (m x_ledger_paper_sums_words_) (f + 1) p t sk = none := (by rw [e_stS, if_pos (by omega), if_neg (by omega), if_neg (by omega), if_neg (by omega), if_neg (by omega), if_neg (by omega), if_neg (by omega), show t - 2 = t + (-1) - 1 by omega, if_pos hcb]); rw [E] at hQ; exact hQ _)
                    · refine And.intro (fun (c17 : sk (t - 1) = 0) => ?_) (fun (c17 : ¬ (sk (t - 1) = 0)) => ?_)
                      · refine And.intro (show -2147483648 ≤ t + (-1) ∧ t + (-1) < 2147483648 by omega) ?_
                        refine br_t (show co p % 16 ≤ 5 by omega) ?_
                        refine And.intro (show -2147483648 ≤ step + 1 ∧ step + 1 < 2147483648 by omega) ?_
                        show cw_R _ _ 8 [vr x_ledger_paper_sums_, vr T, vi fr, vi (p + 1), vi (t + (-1)), vi (step + 1), vi (co p % 16), vi (co p / 16), vi (sk (t - 1)), w9, w10] [] (v2_m m sk) _
                        have E : e_st co n (m x_ledger_paper_sums_words_) (f + 1) p t sk = e_st co n (m x_ledger_paper_sums_words_) f (p + 1) (t + (-1)) (sk) := by rw [e_stS, if_pos (by omega), if_neg (by omega), if_neg (by omega), if_neg (by omega), if_neg (by omega), if_neg (by omega), if_pos (by omega), show t - 1 = t + (-1) by omega]
                        rw [E] at hQ
                        refine ih (p + 1) (t + (-1)) (step + 1) (sk) _ _ _ _ _ _ (by omega) (by omega) (by omega) (by omega) (fun i i0 i1 => ?_) hQ
                        have := hsk i (by omega) (by omega); omega
                      · refine br_t (show co p % 16 ≤ 5 by omega) ?_
                        refine And.intro (show -2147483648 ≤ step + 1 ∧ step + 1 < 2147483648 by omega) ?_
                        show cw_R _ _ 8 [vr x_ledger_paper_sums_, vr T, vi fr, vi (co p / 16), vi t, vi (step + 1), vi (co p % 16), vi (co p / 16), vi (sk (t - 1)), w9, w10] [] (v2_m m sk) _
                        have E : e_st co n (m x_ledger_paper_sums_words_) (f + 1) p t sk = e_st co n (m x_ledger_paper_sums_words_) f (co p / 16) (t) (sk) := by rw [e_stS, if_pos (by omega), if_neg (by omega), if_neg (by omega), if_neg (by omega), if_neg (by omega), if_pos (by omega)]
                        rw [E] at hQ
                        refine ih (co p / 16) (t) (step + 1) (sk) _ _ _ _ _ _ (by omega) (by omega) (by omega) (by omega) (fun i i0 i1 => ?_) hQ
                        have := hsk i (by omega) (by omega); omega
                  · refine And.intro (fun (c18 : sk (t - 1) = 0) => ?_) (fun (c18 : ¬ (sk (t - 1) = 0)) => ?_)
                    · refine br_t (show co p % 16 ≤ 5 by omega) ?_
                      refine And.intro (show -2147483648 ≤ step + 1 ∧ step + 1 < 2147483648 by omega) ?_
                      show cw_R _ _ 8 [vr x_ledger_paper_sums_, vr T, vi fr, vi (co p / 16), vi t, vi (step + 1), vi (co p % 16), vi (co p / 16), vi (sk (t - 1)), w9, w10] [] (v2_m m sk) _
                      have E : e_st co n (m x_ledger_paper_sums_words_) (f + 1) p t sk = e_st co n (m x_ledger_paper_sums_words_) f (co p / 16) (t) (sk) := by rw [e_stS, if_pos (by omega), if_neg (by omega), if_neg (by omega), if_neg (by omega), if_neg (by omega), if_pos (by omega)]
                      rw [E] at hQ
                      refine ih (co p / 16) (t) (step + 1) (sk) _ _ _ _ _ _ (by omega) (by omega) (by omega) (by omega) (fun i i0 i1 => ?_) hQ
                      have := hsk i (by omega) (by omega); omega
                    · refine br_t (show co p % 16 ≠ 5 by omega) ?_
                      refine And.intro (show -2147483648 ≤ t + (-1) ∧ t + (-1) < 2147483648 by omega) ?_
                      refine br_t (show co p % 16 ≤ 5 by omega) ?_
                      refine And.intro (show -2147483648 ≤ step + 1 ∧ step + 1 < 2147483648 by omega) ?_
                      show cw_R _ _ 8 [vr x_ledger_paper_sums_, vr T, vi fr, vi (p + 1), vi (t + (-1)), vi (step + 1), vi (co p % 16), vi (co p / 16), vi (sk (t - 1)), w9, w10] [] (v2_m m sk) _
                      have E : e_st co n (m x_ledger_paper_sums_words_) (f + 1) p t sk = e_st co n (m x_ledger_paper_sums_words_) f (p + 1) (t + (-1)) (sk) := by rw [e_stS, if_pos (by omega), if_neg (by omega), if_neg (by omega), if_neg (by omega), if_neg (by omega), if_neg (by omega), if_pos (by omega), show t - 1 = t + (-1) by omega]
                      rw [E] at hQ
                      refine ih (p + 1) (t + (-1)) (step + 1) (sk) _ _ _ _ _ _ (by omega) (by omega) (by omega) (by omega) (fun i i0 i1 => ?_) hQ
                      have := hsk i (by omega) (by omega); omega
                · refine And.intro (show -2147483648 ≤ t - 1 ∧ t - 1 < 2147483648 by omega) ?_
                  refine And.intro (show -2147483648 ≤ 1 - (sk (t - 1)) ∧ 1 - (sk (t - 1)) < 2147483648 by omega) ?_
                  refine And.intro (show 0 ≤ t - 1 ∧ t - 1 < 50 by omega) ?_
                  have hm19 : la_ok (cw_put (v2_m m sk) x_ledger_paper_sums_stack_ (t - 1) (1 - (sk (t - 1)))) := la_put hm (by decide) (Or.inr (by decide))
                  refine br_t (show co p % 16 ≤ 5 by omega) ?_
                  refine And.intro (show -2147483648 ≤ step + 1 ∧ step + 1 < 2147483648 by omega) ?_
                  show cw_R _ _ 8 [vr x_ledger_paper_sums_, vr T, vi fr, vi (p + 1), vi t, vi (step + 1), vi (co p % 16), vi (co p / 16), vi (sk (t - 1)), w9, w10] [] (cw_put (v2_m m sk) x_ledger_paper_sums_stack_ (t - 1) (1 - (sk (t - 1)))) _
                  rw [v2_m_psk]
                  have hm20 : la_ok (v2_m m (cw_up sk (t - 1) (1 - (sk (t - 1))))) := v2_m_ok hm0
                  have E : e_st co n (m x_ledger_paper_sums_words_) (f + 1) p t sk = e_st co n (m x_ledger_paper_sums_words_) f (p + 1) (t) (cw_up sk (t - 1) (1 - (sk (t - 1)))) := by rw [e_stS, if_pos (by omega), if_neg (by omega), if_neg (by omega), if_neg (by omega), if_pos (by omega)]
                  rw [E] at hQ
                  refine ih (p + 1) (t) (step + 1) (cw_up sk (t - 1) (1 - (sk (t - 1)))) _ _ _ _ _ _ (by omega) (by omega) (by omega) (by omega) (fun i i0 i1 => ?_) hQ
                  by_cases z : i = t - 1
                  · rw [z, cw_up_eq]; omega
                  · rw [cw_up_ne z]; have := hsk i (by omega) (by omega); omega
              · show Q (some (vi (sk (t - 1)))) (v2_m m sk)
                have E : e_st co n (m x_ledger_paper_sums_words_) (f + 1) p t sk = some (sk (t - 1)) := by rw [e_stS, if_pos (by omega), if_neg (by omega), if_neg (by omega), if_pos (by omega)]
                rw [E] at hQ
                exact hQ _
            · refine And.intro (fun (c21 : 2 ≤ t) => ?_) (fun (c21 : ¬ (2 ≤ t)) => ?_)
              · refine And.intro (show -2147483648 ≤ t - 1 ∧ t - 1 < 2147483648 by omega) ?_
                refine And.intro (show 0 ≤ t - 1 ∧ t - 1 < 50 by omega) ?_
                refine And.intro (fun (c22 : co p % 16 ≠ 0) => ?_) (fun (c22 : ¬ (co p % 16 ≠ 0)) => ?_)
                · refine And.intro (fun (c23 : co p % 16 ≠ 3) => ?_) (fun (c23 : ¬ (co p % 16 ≠ 3)) => ?_)
                  · refine And.intro (fun (c24 : co p % 16 ≠ 4) => ?_) (fun (c24 : ¬ (co p % 16 ≠ 4)) => ?_)
                    · refine And.intro (fun (c25 : co p % 16 ≠ 5) => ?_) (fun (c25 : ¬ (co p % 16 ≠ 5)) => ?_)
                      · refine And.intro (show -2147483648 ≤ t + (-1) ∧ t + (-1) < 2147483648 by omega) ?_
                        refine And.intro (fun (c26 : co p % 16 ≤ 5) => ?_) (fun (c26 : ¬ (co p % 16 ≤ 5)) => ?_)
                        · refine And.intro (show -2147483648 ≤ step + 1 ∧ step + 1 < 2147483648 by omega) ?_
                          show cw_R _ _ 8 [vr x_ledger_paper_sums_, vr T, vi fr, vi (p + 1), vi (t + (-1)), vi (step + 1), vi (co p % 16), vi (co p / 16), vi (sk (t - 1)), w9, w10] [] (v2_m m sk) _
                          have E : e_st co n (m x_ledger_paper_sums_words_) (f + 1) p t sk = e_st co n (m x_ledger_paper_sums_words_) f (p + 1) (t + (-1)) (sk) := by rw [e_stS, if_pos (by omega), if_neg (by omega), if_neg (by omega), if_neg (by omega), if_neg (by omega), if_neg (by omega), if_pos (by omega), show t - 1 = t + (-1) by omega]
                          rw [E] at hQ
                          refine ih (p + 1) (t + (-1)) (step + 1) (sk) _ _ _ _ _ _ (by omega) (by omega) (by omega) (by omega) (fun i i0 i1 => ?_) hQ
                          have := hsk i (by omega) (by omega); omega
                        · refine And.intro (show -2147483648 ≤ (t + (-1)) - 1 ∧ (t + (-1)) - 1 < 2147483648 by omega) ?_
                          refine And.intro (show 0 ≤ (t + (-1)) - 1 ∧ (t + (-1)) - 1 < 50 by omega) ?_
                          show cw_C _ _ [vi (co p % 16), vl (sk ((t + (-1)) - 1)), vl (sk (t - 1))] (v2_m m sk) _
                          refine Su_combine hm (by omega) (by omega) ⟨hm, ?_⟩
                          refine And.intro (fun (c27 : 0 < cw_lc (e_cb (co p % 16) (sk ((t + (-1)) - 1)) (sk (t - 1))) 1000000000) => ?_) (fun (c27 : ¬ (0 < cw_lc (e_cb (co p % 16) (sk ((t + (-1)) - 1)) (sk (t - 1))) 1000000000)) => ?_)
                          · have hcb : 1000000000 < e_cb (co p % 16) (sk (t + (-1) - 1)) (sk (t - 1)) ∨ e_cb (co p % 16) (sk (t + (-1) - 1)) (sk (t - 1)) < -1000000000 := Or.inl (by have := lc_le (x := e_cb (co p % 16) (sk (t + (-1) - 1)) (sk (t - 1))) (y := 1000000000); omega)
                            show Q (some (vi (-2000000000))) (v2_m m sk)
                            first
                              | (have E : e_st co n (m x_ledger_paper_sums_words_) (f + 1) p t sk = none := (by rw [e_stS, if_pos (by omega), if_pos (by omega), if_pos (by omega)]); rw [E] at hQ; exact hQ _)
                              | (have E : e_st co n (m x_ledger_paper_sums_words_) (f + 1) p t sk = none := (by rw [e_stS, if_pos (by omega), if_neg (by omega), if_pos (by omega)]); rw [E] at hQ; exact hQ _)
                              | (have E : e_st co n (m x_ledger_paper_sums_words_) (f + 1) p t sk = none := (by rw [e_stS, if_pos (by omega), if_neg (by omega), if_neg (by omega), if_neg (by omega), if_neg (by omega), if_neg (by omega), if_neg (by omega), show t - 2 = t + (-1) - 1 by omega, if_pos hcb]); rw [E] at hQ; exact hQ _)
                          · have hcA := lc_le (x := e_cb (co p % 16) (sk (t + (-1) - 1)) (sk (t - 1))) (y := 1000000000)
                            refine And.intro (fun (c28 : 0 ≤ cw_lc (e_cb (co p % 16) (sk ((t + (-1)) - 1)) (sk (t - 1))) (-1000000000)) => ?_) (fun (c28 : ¬ (0 ≤ cw_lc (e_cb (co p % 16) (sk ((t + (-1)) - 1)) (sk (t - 1))) (-1000000000))) => ?_)
                            · have hcB := lc_lt (x := e_cb (co p % 16) (sk (t + (-1) - 1)) (sk (t - 1))) (y := -1000000000)
                              have hcb : ¬ (1000000000 < e_cb (co p % 16) (sk (t + (-1) - 1)) (sk (t - 1)) ∨ e_cb (co p % 16) (sk (t + (-1) - 1)) (sk (t - 1)) < -1000000000) := by omega
                              refine And.intro (show -2147483648 ≤ (t + (-1)) - 1 ∧ (t + (-1)) - 1 < 2147483648 by omega) ?_
                              refine And.intro (show -2147483648 ≤ e_cb (co p % 16) (sk ((t + (-1)) - 1)) (sk (t - 1)) ∧ e_cb (co p % 16) (sk ((t + (-1)) - 1)) (sk (t - 1)) < 2147483648 by omega) ?_
                              refine And.intro (show 0 ≤ (t + (-1)) - 1 ∧ (t + (-1)) - 1 < 50 by omega) ?_
                              have hm29 : la_ok (cw_put (v2_m m sk) x_ledger_paper_sums_stack_ ((t + (-1)) - 1) (e_cb (co p % 16) (sk ((t + (-1)) - 1)) (sk (t - 1)))) := la_put hm (by decide) (Or.inr (by decide))
                              refine And.intro (show -2147483648 ≤ step + 1 ∧ step + 1 < 2147483648 by omega) ?_
                              show cw_R _ _ 8 [vr x_ledger_paper_sums_, vr T, vi fr, vi (p + 1), vi (t + (-1)), vi (step + 1), vi (co p % 16), vi (co p / 16), vi (sk (t - 1)), vl (e_cb (co p % 16) (sk ((t + (-1)) - 1)) (sk (t - 1))), none] [] (cw_put (v2_m m sk) x_ledger_paper_sums_stack_ ((t + (-1)) - 1) (e_cb (co p % 16) (sk ((t + (-1)) - 1)) (sk (t - 1)))) _
                              rw [v2_m_psk]
                              have hm30 : la_ok (v2_m m (cw_up sk ((t + (-1)) - 1) (e_cb (co p % 16) (sk ((t + (-1)) - 1)) (sk (t - 1))))) := v2_m_ok hm0
                              have E : e_st co n (m x_ledger_paper_sums_words_) (f + 1) p t sk = e_st co n (m x_ledger_paper_sums_words_) f (p + 1) (t + (-1)) (cw_up sk ((t + (-1)) - 1) (e_cb (co p % 16) (sk ((t + (-1)) - 1)) (sk (t - 1)))) := by rw [e_stS, if_pos (by omega), if_neg (by omega), if_neg (by omega), if_neg (by omega), if_neg (by omega), if_neg (by omega), if_neg (by omega), show t - 2 = t + (-1) - 1 by omega, if_neg hcb, show t - 1 = t + (-1) by omega]
                              rw [E] at hQ
                              refine ih (p + 1) (t + (-1)) (step + 1) (cw_up sk ((t + (-1)) - 1) (e_cb (co p % 16) (sk ((t + (-1)) - 1)) (sk (t - 1)))) _ _ _ _ _ _ (by omega) (by omega) (by omega) (by omega) (fun i i0 i1 => ?_) hQ
                              by_cases z : i = t + (-1) - 1
                              · rw [z, cw_up_eq]; omega
                              · rw [cw_up_ne z]; have := hsk i (by omega) (by omega); omega
                            · have hcb : 1000000000 < e_cb (co p % 16) (sk (t + (-1) - 1)) (sk (t - 1)) ∨ e_cb (co p % 16) (sk (t + (-1) - 1)) (sk (t - 1)) < -1000000000 := Or.inr (by have := lc_lt (x := e_cb (co p % 16) (sk (t + (-1) - 1)) (sk (t - 1))) (y := -1000000000); omega)
                              show Q (some (vi (-2000000000))) (v2_m m sk)
                              first
                                | (have E : e_st co n (m x_ledger_paper_sums_words_) (f + 1) p t sk = none := (by rw [e_stS, if_pos (by omega), if_pos (by omega), if_pos (by omega)]); rw [E] at hQ; exact hQ _)
                                | (have E : e_st co n (m x_ledger_paper_sums_words_) (f + 1) p t sk = none := (by rw [e_stS, if_pos (by omega), if_neg (by omega), if_pos (by omega)]); rw [E] at hQ; exact hQ _)
                                | (have E : e_st co n (m x_ledger_paper_sums_words_) (f + 1) p t sk = none := (by rw [e_stS, if_pos (by omega), if_neg (by omega), if_neg (by omega), if_neg (by omega), if_neg (by omega), if_neg (by omega), if_neg (by omega), show t - 2 = t + (-1) - 1 by omega, if_pos hcb]); rw [E] at hQ; exact hQ _)
                      · refine And.intro (fun (c31 : sk (t - 1) = 0) => ?_) (fun (c31 : ¬ (sk (t - 1) = 0)) => ?_)
                        · refine And.intro (show -2147483648 ≤ t + (-1) ∧ t + (-1) < 2147483648 by omega) ?_
                          refine br_t (show co p % 16 ≤ 5 by omega) ?_
                          refine And.intro (show -2147483648 ≤ step + 1 ∧ step + 1 < 2147483648 by omega) ?_
                          show cw_R _ _ 8 [vr x_ledger_paper_sums_, vr T, vi fr, vi (p + 1), vi (t + (-1)), vi (step + 1), vi (co p % 16), vi (co p / 16), vi (sk (t - 1)), w9, w10] [] (v2_m m sk) _
                          have E : e_st co n (m x_ledger_paper_sums_words_) (f + 1) p t sk = e_st co n (m x_ledger_paper_sums_words_) f (p + 1) (t + (-1)) (sk) := by rw [e_stS, if_pos (by omega), if_neg (by omega), if_neg (by omega), if_neg (by omega), if_neg (by omega), if_neg (by omega), if_pos (by omega), show t - 1 = t + (-1) by omega]
                          rw [E] at hQ
                          refine ih (p + 1) (t + (-1)) (step + 1) (sk) _ _ _ _ _ _ (by omega) (by omega) (by omega) (by omega) (fun i i0 i1 => ?_) hQ
                          have := hsk i (by omega) (by omega); omega
                        · refine br_t (show co p % 16 ≤ 5 by omega) ?_
                          refine And.intro (show -2147483648 ≤ step + 1 ∧ step + 1 < 2147483648 by omega) ?_
                          show cw_R _ _ 8 [vr x_ledger_paper_sums_, vr T, vi fr, vi (co p / 16), vi t, vi (step + 1), vi (co p % 16), vi (co p / 16), vi (sk (t - 1)), w9, w10] [] (v2_m m sk) _
                          have E : e_st co n (m x_ledger_paper_sums_words_) (f + 1) p t sk = e_st co n (m x_ledger_paper_sums_words_) f (co p / 16) (t) (sk) := by rw [e_stS, if_pos (by omega), if_neg (by omega), if_neg (by omega), if_neg (by omega), if_neg (by omega), if_pos (by omega)]
                          rw [E] at hQ
                          refine ih (co p / 16) (t) (step + 1) (sk) _ _ _ _ _ _ (by omega) (by omega) (by omega) (by omega) (fun i i0 i1 => ?_) hQ
                          have := hsk i (by omega) (by omega); omega
                    · refine And.intro (fun (c32 : sk (t - 1) = 0) => ?_) (fun (c32 : ¬ (sk (t - 1) = 0)) => ?_)
                      · refine br_t (show co p % 16 ≤ 5 by omega) ?_
                        refine And.intro (show -2147483648 ≤ step + 1 ∧ step + 1 < 2147483648 by omega) ?_
                        show cw_R _ _ 8 [vr x_ledger_paper_sums_, vr T, vi fr, vi (co p / 16), vi t, vi (step + 1), vi (co p % 16), vi (co p / 16), vi (sk (t - 1)), w9, w10] [] (v2_m m sk) _
                        have E : e_st co n (m x_ledger_paper_sums_words_) (f + 1) p t sk = e_st co n (m x_ledger_paper_sums_words_) f (co p / 16) (t) (sk) := by rw [e_stS, if_pos (by omega), if_neg (by omega), if_neg (by omega), if_neg (by omega), if_neg (by omega), if_pos (by omega)]
                        rw [E] at hQ
                        refine ih (co p / 16) (t) (step + 1) (sk) _ _ _ _ _ _ (by omega) (by omega) (by omega) (by omega) (fun i i0 i1 => ?_) hQ
                        have := hsk i (by omega) (by omega); omega
                      · refine br_t (show co p % 16 ≠ 5 by omega) ?_
                        refine And.intro (show -2147483648 ≤ t + (-1) ∧ t + (-1) < 2147483648 by omega) ?_
                        refine br_t (show co p % 16 ≤ 5 by omega) ?_
                        refine And.intro (show -2147483648 ≤ step + 1 ∧ step + 1 < 2147483648 by omega) ?_
                        show cw_R _ _ 8 [vr x_ledger_paper_sums_, vr T, vi fr, vi (p + 1), vi (t + (-1)), vi (step + 1), vi (co p % 16), vi (co p / 16), vi (sk (t - 1)), w9, w10] [] (v2_m m sk) _
                        have E : e_st co n (m x_ledger_paper_sums_words_) (f + 1) p t sk = e_st co n (m x_ledger_paper_sums_words_) f (p + 1) (t + (-1)) (sk) := by rw [e_stS, if_pos (by omega), if_neg (by omega), if_neg (by omega), if_neg (by omega), if_neg (by omega), if_neg (by omega), if_pos (by omega), show t - 1 = t + (-1) by omega]
                        rw [E] at hQ
                        refine ih (p + 1) (t + (-1)) (step + 1) (sk) _ _ _ _ _ _ (by omega) (by omega) (by omega) (by omega) (fun i i0 i1 => ?_) hQ
                        have := hsk i (by omega) (by omega); omega
                  · refine And.intro (show -2147483648 ≤ t - 1 ∧ t - 1 < 2147483648 by omega) ?_
                    refine And.intro (show -2147483648 ≤ 1 - (sk (t - 1)) ∧ 1 - (sk (t - 1)) < 2147483648 by omega) ?_
                    refine And.intro (show 0 ≤ t - 1 ∧ t - 1 < 50 by omega) ?_
                    have hm33 : la_ok (cw_put (v2_m m sk) x_ledger_paper_sums_stack_ (t - 1) (1 - (sk (t - 1)))) := la_put hm (by decide) (Or.inr (by decide))
                    refine br_t (show co p % 16 ≤ 5 by omega) ?_
                    refine And.intro (show -2147483648 ≤ step + 1 ∧ step + 1 < 2147483648 by omega) ?_
                    show cw_R _ _ 8 [vr x_ledger_paper_sums_, vr T, vi fr, vi (p + 1), vi t, vi (step + 1), vi (co p % 16), vi (co p / 16), vi (sk (t - 1)), w9, w10] [] (cw_put (v2_m m sk) x_ledger_paper_sums_stack_ (t - 1) (1 - (sk (t - 1)))) _
                    rw [v2_m_psk]
                    have hm34 : la_ok (v2_m m (cw_up sk (t - 1) (1 - (sk (t - 1))))) := v2_m_ok hm0
                    have E : e_st co n (m x_ledger_paper_sums_words_) (f + 1) p t sk = e_st co n (m x_ledger_paper_sums_words_) f (p + 1) (t) (cw_up sk (t - 1) (1 - (sk (t - 1)))) := by rw [e_stS, if_pos (by omega), if_neg (by omega), if_neg (by omega), if_neg (by omega), if_pos (by omega)]
                    rw [E] at hQ
                    refine ih (p + 1) (t) (step + 1) (cw_up sk (t - 1) (1 - (sk (t - 1)))) _ _ _ _ _ _ (by omega) (by omega) (by omega) (by omega) (fun i i0 i1 => ?_) hQ
                    by_cases z : i = t - 1
                    · rw [z, cw_up_eq]; omega
                    · rw [cw_up_ne z]; have := hsk i (by omega) (by omega); omega
                · show Q (some (vi (sk (t - 1)))) (v2_m m sk)
                  have E : e_st co n (m x_ledger_paper_sums_words_) (f + 1) p t sk = some (sk (t - 1)) := by rw [e_stS, if_pos (by omega), if_neg (by omega), if_neg (by omega), if_pos (by omega)]
                  rw [E] at hQ
                  exact hQ _
              · show Q (some (vi (-2000000000))) (v2_m m sk)
                first
                  | (have E : e_st co n (m x_ledger_paper_sums_words_) (f + 1) p t sk = none := (by rw [e_stS, if_pos (by omega), if_pos (by omega), if_pos (by omega)]); rw [E] at hQ; exact hQ _)
                  | (have E : e_st co n (m x_ledger_paper_sums_words_) (f + 1) p t sk = none := (by rw [e_stS, if_pos (by omega), if_neg (by omega), if_pos (by omega)]); rw [E] at hQ; exact hQ _)
                  | (have E : e_st co n (m x_ledger_paper_sums_words_) (f + 1) p t sk = none := (by rw [e_stS, if_pos (by omega), if_neg (by omega), if_neg (by omega), if_neg (by omega), if_neg (by omega), if_neg (by omega), if_neg (by omega), show t - 2 = t + (-1) - 1 by omega, if_pos hcb]); rw [E] at hQ; exact hQ _)
        · refine And.intro (fun (c35 : 50 ≤ t) => ?_) (fun (c35 : ¬ (50 ≤ t)) => ?_)
          · show Q (some (vi (-2000000000))) (v2_m m sk)
            first
              | (have E : e_st co n (m x_ledger_paper_sums_words_) (f + 1) p t sk = none := (by rw [e_stS, if_pos (by omega), if_pos (by omega), if_pos (by omega)]); rw [E] at hQ; exact hQ _)
              | (have E : e_st co n (m x_ledger_paper_sums_words_) (f + 1) p t sk = none := (by rw [e_stS, if_pos (by omega), if_neg (by omega), if_pos (by omega)]); rw [E] at hQ; exact hQ _)
              | (have E : e_st co n (m x_ledger_paper_sums_words_) (f + 1) p t sk = none := (by rw [e_stS, if_pos (by omega), if_neg (by omega), if_neg (by omega), if_neg (by omega), if_neg (by omega), if_neg (by omega), if_neg (by omega), show t - 2 = t + (-1) - 1 by omega, if_pos hcb]); rw [E] at hQ; exact hQ _)
          · refine br_f (show ¬ (co p % 16 ≠ 2) by omega) ?_
            refine And.intro (fun (c36 : co p / 16 < 17) => ?_) (fun (c36 : ¬ (co p / 16 < 17)) => ?_)
            · refine br_t (show co p % 16 ≠ 1 by omega) ?_
              refine And.intro (show 0 ≤ co p / 16 ∧ co p / 16 < 17 by omega) ?_
              refine And.intro (show 0 ≤ t ∧ t < 50 by omega) ?_
              have hm37 : la_ok (cw_put (v2_m m sk) x_ledger_paper_sums_stack_ t (m x_ledger_paper_sums_words_ (co p / 16))) := la_put hm (by decide) (Or.inr (by decide))
              refine And.intro (show -2147483648 ≤ t + 1 ∧ t + 1 < 2147483648 by omega) ?_
              refine And.intro (show -2147483648 ≤ step + 1 ∧ step + 1 < 2147483648 by omega) ?_
              show cw_R _ _ 8 [vr x_ledger_paper_sums_, vr T, vi fr, vi (p + 1), vi (t + 1), vi (step + 1), vi (co p % 16), vi (co p / 16), w8, w9, w10] [] (cw_put (v2_m m sk) x_ledger_paper_sums_stack_ t (m x_ledger_paper_sums_words_ (co p / 16))) _
              rw [v2_m_psk]
              have hm38 : la_ok (v2_m m (cw_up sk t (m x_ledger_paper_sums_words_ (co p / 16)))) := v2_m_ok hm0
              have E : e_st co n (m x_ledger_paper_sums_words_) (f + 1) p t sk = e_st co n (m x_ledger_paper_sums_words_) f (p + 1) (t + 1) (cw_up sk t (m x_ledger_paper_sums_words_ (co p / 16))) := by rw [e_stS, if_pos (by omega), if_pos (by omega), if_neg (by omega), if_neg (by omega)]
              rw [E] at hQ
              refine ih (p + 1) (t + 1) (step + 1) (cw_up sk t (m x_ledger_paper_sums_words_ (co p / 16))) _ _ _ _ _ _ (by omega) (by omega) (by omega) (by omega) (fun i i0 i1 => ?_) hQ
              by_cases z : i = t
              · rw [z, cw_up_eq]; have := hW (co p / 16) (by omega) (by omega); omega
              · rw [cw_up_ne z]; have := hsk i (by omega) (by omega); omega
            · show Q (some (vi (-2000000000))) (v2_m m sk)
              first
                | (have E : e_st co n (m x_ledger_paper_sums_words_) (f + 1) p t sk = none := (by rw [e_stS, if_pos (by omega), if_pos (by omega), if_pos (by omega)]); rw [E] at hQ; exact hQ _)
                | (have E : e_st co n (m x_ledger_paper_sums_words_) (f + 1) p t sk = none := (by rw [e_stS, if_pos (by omega), if_neg (by omega), if_pos (by omega)]); rw [E] at hQ; exact hQ _)
                | (have E : e_st co n (m x_ledger_paper_sums_words_) (f + 1) p t sk = none := (by rw [e_stS, if_pos (by omega), if_neg (by omega), if_neg (by omega), if_neg (by omega), if_neg (by omega), if_neg (by omega), if_neg (by omega), show t - 2 = t + (-1) - 1 by omega, if_pos hcb]); rw [E] at hQ; exact hQ _)
    refine la_go_RV hm 27 [11, 19, 29, 33, 40, 44] [52] ?_
    refine And.intro (show cw_tg T = 8 by exact hT8) ?_
    refine And.intro (fun (c1 : (v2_m m sk) T 1 ≤ step) => ?_) (fun (c1 : ¬ ((v2_m m sk) T 1 ≤ step)) => ?_)
    · show Q (some (vi (-2000000000))) (v2_m m sk)
      have E : e_st co n (m x_ledger_paper_sums_words_) (f + 1) p t sk = none := by rw [e_stS, if_neg (by omega)]
      rw [E] at hQ
      exact hQ _
    · refine And.intro (show cw_tg T = 8 by exact hT8) ?_
      show cw_C _ _ [vi p, vi ((v2_m m sk) T 1)] (v2_m m sk) _
      refine C_isBelow (fun (a2 : 0 ≤ p) (a3 : p < (v2_m m sk) T 1) => ⟨hm, ?_⟩) (fun (a4 : ¬ (0 ≤ p ∧ p < (v2_m m sk) T 1)) => ⟨hm, ?_⟩)
      · refine br_f (show ¬ ((1 : Int) = 0) by decide) ?_
        refine And.intro (show cw_tg T = 8 by exact hT8) ?_
        refine And.intro (show cw_tg ((v2_m m sk) T 7) = 40 ∧ 0 ≤ p ∧ p < cw_ln ((v2_m m sk) T 7) by rw [eA]; exact ⟨hT.2.2.2.1, by omega, by have := hT.2.2.2.2.1; omega⟩) ?_
        refine And.intro (show cw_tg T = 8 by exact hT8) ?_
        refine And.intro (show cw_tg ((v2_m m sk) T 7) = 40 ∧ 0 ≤ p ∧ p < cw_ln ((v2_m m sk) T 7) by rw [eA]; exact ⟨hT.2.2.2.1, by omega, by have := hT.2.2.2.2.1; omega⟩) ?_
        refine And.intro (show -2147483648 ≤ p + 1 ∧ p + 1 < 2147483648 by omega) ?_
        show cw_R _ _ 52 [vr x_ledger_paper_sums_, vr T, vi fr, vi (p + 1), vi t, vi step, vi (cw_iand ((v2_m m sk) ((v2_m m sk) T 7) p) 15), vi (cw_ishr ((v2_m m sk) ((v2_m m sk) T 7) p) 4), w8, w9, w10] [] (v2_m m sk) _
        rw [eA, eC p, (e_15 (hco p (by omega) (by omega))).1, (e_15 (hco p (by omega) (by omega))).2]
        exact l52 (by omega)
      · refine br_t (show (0 : Int) = 0 by decide) ?_
        show Q (some (vi (-2000000000))) (v2_m m sk)
        have E : e_st co n (m x_ledger_paper_sums_words_) (f + 1) p t sk = none := by rw [e_stS, if_neg (by omega)]
        rw [E] at hQ
        exact hQ _
theorem Su_eval2 {d : Nat} {m : cw_M} {Q : Option cw_V → cw_M → Prop} (hm0 : la_ok m) {T CA n fr : Int} {co sk : Int → Int} (hT : cw_tg T = 8 ∧ m T 1 = n ∧ m T 7 = CA ∧ cw_tg CA = 40 ∧ n ≤ cw_ln CA ∧ T ≠ x_ledger_paper_sums_stack_ ∧ CA ≠ x_ledger_paper_sums_stack_ ∧ ∀ i, m CA i = co i) (hn : 0 ≤ n ∧ n ≤ 400) (hco : e_ok co n) (hW : ∀ i, 0 ≤ i → i < 17 → -1000000 ≤ m x_ledger_paper_sums_words_ i ∧ m x_ledger_paper_sums_words_ i ≤ 1000000) (hQ : ∀ sk', Q (some (vi ((e_st co n (m x_ledger_paper_sums_words_) n.toNat fr 0 sk).getD (-2000000000)))) (v2_m m sk')) : cw_C (d + 1) k_Su_evaluate [vr x_ledger_paper_sums_, vr T, vi fr] (v2_m m sk) Q := by
  have hm : la_ok (v2_m m sk) := v2_m_ok hm0
  refine la_go_CV hm 9 [11, 19, 29, 33, 40, 44] [8] ?_
  show cw_R _ _ 8 [vr x_ledger_paper_sums_, vr T, vi fr, vi fr, vi 0, vi 0, none, none, none, none, none] [] (v2_m m sk) _
  exact Su_eval2L hm0 hT hn hco hW n.toNat fr 0 0 sk _ _ _ _ _ _ (by omega) (by omega) (by omega) (by omega) (fun i a b => by omega) hQ
def v3_m (m : cw_M) (sk : Int → Int) : cw_M := fun c => if c = x_paper_sums_stack_ then sk else m c
theorem v3_m_ne {m : cw_M} {sk : Int → Int} {c : Int} (h0 : c ≠ x_paper_sums_stack_) : v3_m m sk c = m c := by
  unfold v3_m; rw [if_neg h0]
theorem v3_m_sk {m : cw_M} {sk : Int → Int} : v3_m m sk x_paper_sums_stack_ = sk := rfl
theorem v3_m_ok {m : cw_M} {sk : Int → Int} (hm : la_ok m) : la_ok (v3_m m sk) := by
  refine ⟨by rw [v3_m_ne (by decide)]; exact hm.1, fun e he => ?_⟩
  obtain ⟨z1, h2, -, z4⟩ := la_lok e he
  have n0 : e.1 ≠ x_paper_sums_stack_ := fun q => by rw [q] at h2; revert h2; decide
  rw [v3_m_ne n0 ]; exact hm.2 e he
theorem v3_m_x {m M : cw_M} {sk : Int → Int} (r0 : M x_paper_sums_stack_ = sk)   (h : ∀ c, c ≠ x_paper_sums_stack_ → M c = m c) : M = v3_m m sk := by
  funext c
  by_cases h0 : c = x_paper_sums_stack_
  · rw [h0, r0]; rfl
  rw [h c h0, v3_m_ne h0]
theorem v3_m_rsk {m : cw_M} {sk : Int → Int} {f : Int → Int} : cw_row (v3_m m sk) x_paper_sums_stack_ f = v3_m m f := by
  refine v3_m_x rfl  (fun c h0 => by rw [cw_row_ne h0, v3_m_ne h0])
theorem v3_m_psk {m : cw_M} {sk : Int → Int} {i v : Int} : cw_put (v3_m m sk) x_paper_sums_stack_ i v = v3_m m (cw_up sk i v) := by
  rw [cw_put_row, v3_m_rsk, v3_m_sk]
theorem v3_m_2 {m : cw_M} {sk : Int → Int} {sk' : Int → Int} : v3_m (v3_m m sk) sk' = v3_m m sk' := by
  refine v3_m_x rfl  (fun c h0 => by rw [v3_m_ne h0, v3_m_ne h0])
theorem v3_m_self {m : cw_M} : v3_m m (m x_paper_sums_stack_)  = m := by
  refine (v3_m_x rfl  (fun _ _ => rfl)).symm
set_option maxHeartbeats 4000000 in
theorem Su_eval3L {d : Nat} {m : cw_M} {Q : Option cw_V → cw_M → Prop} (hm0 : la_ok m) {T CA n : Int} {co : Int → Int} (hT : cw_tg T = 8 ∧ m T 1 = n ∧ m T 7 = CA ∧ cw_tg CA = 40 ∧ n ≤ cw_ln CA ∧ T ≠ x_paper_sums_stack_ ∧ CA ≠ x_paper_sums_stack_ ∧ ∀ i, m CA i = co i) (hn : 0 ≤ n ∧ n ≤ 400) (hco : e_ok co n) (hW : ∀ i, 0 ≤ i → i < 17 → -1000000 ≤ m x_paper_sums_words_ i ∧ m x_paper_sums_words_ i ≤ 1000000) : ∀ (f : Nat) (p t step : Int) (sk : Int → Int) (fr : Int) (w6 w7 w8 w9 w10 : cw_V), step + f = n → 0 ≤ step → 0 ≤ t → t ≤ 50 → (∀ i, 0 ≤ i → i < t → -1000000000 - step ≤ sk i ∧ sk i ≤ 1000000000 + step) → (∀ sk', Q (some (vi ((e_st co n (m x_paper_sums_words_) f p t sk).getD (-2000000000)))) (v3_m m sk')) → cw_R (d + 1) k_Su_evaluate 8 [vr x_paper_sums_, vr T, vi fr, vi p, vi t, vi step, w6, w7, w8, w9, w10] [] (v3_m m sk) Q
  | 0, p, t, step, sk, fr, w6, w7, w8, w9, w10, hf, hst, ht0, ht, hsk, hQ => by
    have hm : la_ok (v3_m m sk) := v3_m_ok hm0
    have eT : (v3_m m sk) T 1 = n := by rw [v3_m_ne hT.2.2.2.2.2.1]; exact hT.2.1
    have eA : (v3_m m sk) T 7 = CA := by rw [v3_m_ne hT.2.2.2.2.2.1]; exact hT.2.2.1
    have eC : ∀ i, (v3_m m sk) CA i = co i := fun i => by rw [v3_m_ne hT.2.2.2.2.2.2.1]; exact hT.2.2.2.2.2.2.2 i
    have hT8 := hT.1
    refine la_go_RV hm 9 [11, 19, 29, 33, 40, 44] [52] ?_
    refine And.intro (show cw_tg T = 8 by exact hT8) ?_
    refine br_t (show (v3_m m sk) T 1 ≤ step by omega) ?_
    show Q (some (vi (-2000000000))) (v3_m m sk)
    exact hQ _
  | f + 1, p, t, step, sk, fr, w6, w7, w8, w9, w10, hf, hst, ht0, ht, hsk, hQ => by
    have ih := Su_eval3L (d := d) (Q := Q) hm0 hT hn hco hW f
    have hm : la_ok (v3_m m sk) := v3_m_ok hm0
    have eT : (v3_m m sk) T 1 = n := by rw [v3_m_ne hT.2.2.2.2.2.1]; exact hT.2.1
    have eA : (v3_m m sk) T 7 = CA := by rw [v3_m_ne hT.2.2.2.2.2.1]; exact hT.2.2.1
    have eC : ∀ i, (v3_m m sk) CA i = co i := fun i => by rw [v3_m_ne hT.2.2.2.2.2.2.1]; exact hT.2.2.2.2.2.2.2 i
    have hT8 := hT.1
    have l52 : 0 ≤ p ∧ p < n → cw_R (d + 1) k_Su_evaluate 52 [vr x_paper_sums_, vr T, vi fr, vi (p + 1), vi t, vi step, vi (co p % 16), vi (co p / 16), w8, w9, w10] [] (v3_m m sk) Q := by
      intro hp
      have hcp := hco p hp.1 hp.2
      refine la_go_RV hm 70 [11, 19, 29, 33, 40, 44] [8] ?_
      refine And.intro (fun (c1 : co p % 16 = 1) => ?_) (fun (c1 : ¬ (co p % 16 = 1)) => ?_)
      · refine And.intro (fun (c2 : 50 ≤ t) => ?_) (fun (c2 : ¬ (50 ≤ t)) => ?_)
        · show Q (some (vi (-2000000000))) (v3_m m sk)
          first
            | (have E : e_st co n (m x_paper_sums_words_) (f + 1) p t sk = none := (by rw [e_stS, if_pos (by omega), if_pos (by omega), if_pos (by omega)]); rw [E] at hQ; exact hQ _)
            | (have E : e_st co n (m x_paper_sums_words_) (f + 1) p t sk = none := (by rw [e_stS, if_pos (by omega), if_neg (by omega), if_pos (by omega)]); rw [E] at hQ; exact hQ _)
            | (have E : e_st co n (m x_paper_sums_words_) (f + 1) p t sk = none := (by rw [e_stS, if_pos (by omega), if_neg (by omega), if_neg (by omega), if_neg (by omega), if_neg (by omega), if_neg (by omega), if_neg (by omega), show t - 2 = t + (-1) - 1 by omega, if_pos hcb]); rw [E] at hQ; exact hQ _)
        · refine br_t (show co p % 16 ≠ 2 by omega) ?_
          refine br_f (show ¬ (co p % 16 ≠ 1) by omega) ?_
          refine And.intro (show 0 ≤ t ∧ t < 50 by omega) ?_
          have hm3 : la_ok (cw_put (v3_m m sk) x_paper_sums_stack_ t (co p / 16)) := la_put hm (by decide) (Or.inr (by decide))
          refine And.intro (show -2147483648 ≤ t + 1 ∧ t + 1 < 2147483648 by omega) ?_
          refine And.intro (show -2147483648 ≤ step + 1 ∧ step + 1 < 2147483648 by omega) ?_
          show cw_R _ _ 8 [vr x_paper_sums_, vr T, vi fr, vi (p + 1), vi (t + 1), vi (step + 1), vi (co p % 16), vi (co p / 16), w8, w9, w10] [] (cw_put (v3_m m sk) x_paper_sums_stack_ t (co p / 16)) _
          rw [v3_m_psk]
          have hm4 : la_ok (v3_m m (cw_up sk t (co p / 16))) := v3_m_ok hm0
          have E : e_st co n (m x_paper_sums_words_) (f + 1) p t sk = e_st co n (m x_paper_sums_words_) f (p + 1) (t + 1) (cw_up sk t (co p / 16)) := by rw [e_stS, if_pos (by omega), if_pos (by omega), if_neg (by omega), if_pos (by omega)]
          rw [E] at hQ
          refine ih (p + 1) (t + 1) (step + 1) (cw_up sk t (co p / 16)) _ _ _ _ _ _ (by omega) (by omega) (by omega) (by omega) (fun i i0 i1 => ?_) hQ
          by_cases z : i = t
          · rw [z, cw_up_eq]; omega
          · rw [cw_up_ne z]; have := hsk i (by omega) (by omega); omega
      · refine And.intro (fun (c5 : co p % 16 ≠ 2) => ?_) (fun (c5 : ¬ (co p % 16 ≠ 2)) => ?_)
        · refine And.intro (fun (c6 : t < 1) => ?_) (fun (c6 : ¬ (t < 1)) => ?_)
          · show Q (some (vi (-2000000000))) (v3_m m sk)
            first
              | (have E : e_st co n (m x_paper_sums_words_) (f + 1) p t sk = none := (by rw [e_stS, if_pos (by omega), if_pos (by omega), if_pos (by omega)]); rw [E] at hQ; exact hQ _)
              | (have E : e_st co n (m x_paper_sums_words_) (f + 1) p t sk = none := (by rw [e_stS, if_pos (by omega), if_neg (by omega), if_pos (by omega)]); rw [E] at hQ; exact hQ _)
              | (have E : e_st co n (m x_paper_sums_words_) (f + 1) p t sk = none := (by rw [e_stS, if_pos (by omega), if_neg (by omega), if_neg (by omega), if_neg (by omega), if_neg (by omega), if_neg (by omega), if_neg (by omega), show t - 2 = t + (-1) - 1 by omega, if_pos hcb]); rw [E] at hQ; exact hQ _)
          · have hs1 := hsk (t - 1) (by omega) (by omega)
            have hs2 : 2 ≤ t → -1000000000 - step ≤ sk (t + (-1) - 1) ∧ sk (t + (-1) - 1) ≤ 1000000000 + step := fun q => hsk _ (by omega) (by omega)
            refine And.intro (fun (c7 : co p % 16 ≤ 5) => ?_) (fun (c7 : ¬ (co p % 16 ≤ 5)) => ?_)
            · refine And.intro (show -2147483648 ≤ t - 1 ∧ t - 1 < 2147483648 by omega) ?_
              refine And.intro (show 0 ≤ t - 1 ∧ t - 1 < 50 by omega) ?_
              refine And.intro (fun (c8 : co p % 16 ≠ 0) => ?_) (fun (c8 : ¬ (co p % 16 ≠ 0)) => ?_)
              · refine And.intro (fun (c9 : co p % 16 ≠ 3) => ?_) (fun (c9 : ¬ (co p % 16 ≠ 3)) => ?_)
                · refine And.intro (fun (c10 : co p % 16 ≠ 4) => ?_) (fun (c10 : ¬ (co p % 16 ≠ 4)) => ?_)
                  · refine And.intro (fun (c11 : co p % 16 ≠ 5) => ?_) (fun (c11 : ¬ (co p % 16 ≠ 5)) => ?_)
                    · refine And.intro (show -2147483648 ≤ t + (-1) ∧ t + (-1) < 2147483648 by omega) ?_
                      refine And.intro (fun (c12 : co p % 16 ≤ 5) => ?_) (fun (c12 : ¬ (co p % 16 ≤ 5)) => ?_)
                      · refine And.intro (show -2147483648 ≤ step + 1 ∧ step + 1 < 2147483648 by omega) ?_
                        show cw_R _ _ 8 [vr x_paper_sums_, vr T, vi fr, vi (p + 1), vi (t + (-1)), vi (step + 1), vi (co p % 16), vi (co p / 16), vi (sk (t - 1)), w9, w10] [] (v3_m m sk) _
                        have E : e_st co n (m x_paper_sums_words_) (f + 1) p t sk = e_st co n (m x_paper_sums_words_) f (p + 1) (t + (-1)) (sk) := by rw [e_stS, if_pos (by omega), if_neg (by omega), if_neg (by omega), if_neg (by omega), if_neg (by omega), if_neg (by omega), if_pos (by omega), show t - 1 = t + (-1) by omega]
                        rw [E] at hQ
                        refine ih (p + 1) (t + (-1)) (step + 1) (sk) _ _ _ _ _ _ (by omega) (by omega) (by omega) (by omega) (fun i i0 i1 => ?_) hQ
                        have := hsk i (by omega) (by omega); omega
                      · refine And.intro (show -2147483648 ≤ (t + (-1)) - 1 ∧ (t + (-1)) - 1 < 2147483648 by omega) ?_
                        refine And.intro (show 0 ≤ (t + (-1)) - 1 ∧ (t + (-1)) - 1 < 50 by omega) ?_
                        show cw_C _ _ [vi (co p % 16), vl (sk ((t + (-1)) - 1)), vl (sk (t - 1))] (v3_m m sk) _
                        refine Su_combine hm (by omega) (by omega) ⟨hm, ?_⟩
                        refine And.intro (fun (c13 : 0 < cw_lc (e_cb (co p % 16) (sk ((t + (-1)) - 1)) (sk (t - 1))) 1000000000) => ?_) (fun (c13 : ¬ (0 < cw_lc (e_cb (co p % 16) (sk ((t + (-1)) - 1)) (sk (t - 1))) 1000000000)) => ?_)
                        · have hcb : 1000000000 < e_cb (co p % 16) (sk (t + (-1) - 1)) (sk (t - 1)) ∨ e_cb (co p % 16) (sk (t + (-1) - 1)) (sk (t - 1)) < -1000000000 := Or.inl (by have := lc_le (x := e_cb (co p % 16) (sk (t + (-1) - 1)) (sk (t - 1))) (y := 1000000000); omega)
                          show Q (some (vi (-2000000000))) (v3_m m sk)
                          first
                            | (have E : e_st co n (m x_paper_sums_words_) (f + 1) p t sk = none := (by rw [e_stS, if_pos (by omega), if_pos (by omega), if_pos (by omega)]); rw [E] at hQ; exact hQ _)
                            | (have E : e_st co n (m x_paper_sums_words_) (f + 1) p t sk = none := (by rw [e_stS, if_pos (by omega), if_neg (by omega), if_pos (by omega)]); rw [E] at hQ; exact hQ _)
                            | (have E : e_st co n (m x_paper_sums_words_) (f + 1) p t sk = none := (by rw [e_stS, if_pos (by omega), if_neg (by omega), if_neg (by omega), if_neg (by omega), if_neg (by omega), if_neg (by omega), if_neg (by omega), show t - 2 = t + (-1) - 1 by omega, if_pos hcb]); rw [E] at hQ; exact hQ _)
                        · have hcA := lc_le (x := e_cb (co p % 16) (sk (t + (-1) - 1)) (sk (t - 1))) (y := 1000000000)
                          refine And.intro (fun (c14 : 0 ≤ cw_lc (e_cb (co p % 16) (sk ((t + (-1)) - 1)) (sk (t - 1))) (-1000000000)) => ?_) (fun (c14 : ¬ (0 ≤ cw_lc (e_cb (co p % 16) (sk ((t + (-1)) - 1)) (sk (t - 1))) (-1000000000))) => ?_)
                          · have hcB := lc_lt (x := e_cb (co p % 16) (sk (t + (-1) - 1)) (sk (t - 1))) (y := -1000000000)
                            have hcb : ¬ (1000000000 < e_cb (co p % 16) (sk (t + (-1) - 1)) (sk (t - 1)) ∨ e_cb (co p % 16) (sk (t + (-1) - 1)) (sk (t - 1)) < -1000000000) := by omega
                            refine And.intro (show -2147483648 ≤ (t + (-1)) - 1 ∧ (t + (-1)) - 1 < 2147483648 by omega) ?_
                            refine And.intro (show -2147483648 ≤ e_cb (co p % 16) (sk ((t + (-1)) - 1)) (sk (t - 1)) ∧ e_cb (co p % 16) (sk ((t + (-1)) - 1)) (sk (t - 1)) < 2147483648 by omega) ?_
                            refine And.intro (show 0 ≤ (t + (-1)) - 1 ∧ (t + (-1)) - 1 < 50 by omega) ?_
                            have hm15 : la_ok (cw_put (v3_m m sk) x_paper_sums_stack_ ((t + (-1)) - 1) (e_cb (co p % 16) (sk ((t + (-1)) - 1)) (sk (t - 1)))) := la_put hm (by decide) (Or.inr (by decide))
                            refine And.intro (show -2147483648 ≤ step + 1 ∧ step + 1 < 2147483648 by omega) ?_
                            show cw_R _ _ 8 [vr x_paper_sums_, vr T, vi fr, vi (p + 1), vi (t + (-1)), vi (step + 1), vi (co p % 16), vi (co p / 16), vi (sk (t - 1)), vl (e_cb (co p % 16) (sk ((t + (-1)) - 1)) (sk (t - 1))), none] [] (cw_put (v3_m m sk) x_paper_sums_stack_ ((t + (-1)) - 1) (e_cb (co p % 16) (sk ((t + (-1)) - 1)) (sk (t - 1)))) _
                            rw [v3_m_psk]
                            have hm16 : la_ok (v3_m m (cw_up sk ((t + (-1)) - 1) (e_cb (co p % 16) (sk ((t + (-1)) - 1)) (sk (t - 1))))) := v3_m_ok hm0
                            have E : e_st co n (m x_paper_sums_words_) (f + 1) p t sk = e_st co n (m x_paper_sums_words_) f (p + 1) (t + (-1)) (cw_up sk ((t + (-1)) - 1) (e_cb (co p % 16) (sk ((t + (-1)) - 1)) (sk (t - 1)))) := by rw [e_stS, if_pos (by omega), if_neg (by omega), if_neg (by omega), if_neg (by omega), if_neg (by omega), if_neg (by omega), if_neg (by omega), show t - 2 = t + (-1) - 1 by omega, if_neg hcb, show t - 1 = t + (-1) by omega]
                            rw [E] at hQ
                            refine ih (p + 1) (t + (-1)) (step + 1) (cw_up sk ((t + (-1)) - 1) (e_cb (co p % 16) (sk ((t + (-1)) - 1)) (sk (t - 1)))) _ _ _ _ _ _ (by omega) (by omega) (by omega) (by omega) (fun i i0 i1 => ?_) hQ
                            by_cases z : i = t + (-1) - 1
                            · rw [z, cw_up_eq]; omega
                            · rw [cw_up_ne z]; have := hsk i (by omega) (by omega); omega
                          · have hcb : 1000000000 < e_cb (co p % 16) (sk (t + (-1) - 1)) (sk (t - 1)) ∨ e_cb (co p % 16) (sk (t + (-1) - 1)) (sk (t - 1)) < -1000000000 := Or.inr (by have := lc_lt (x := e_cb (co p % 16) (sk (t + (-1) - 1)) (sk (t - 1))) (y := -1000000000); omega)
                            show Q (some (vi (-2000000000))) (v3_m m sk)
                            first
                              | (have E : e_st co n (m x_paper_sums_words_) (f + 1) p t sk = none := (by rw [e_stS, if_pos (by omega), if_pos (by omega), if_pos (by omega)]); rw [E] at hQ; exact hQ _)
                              | (have E : e_st co n (m x_paper_sums_words_) (f + 1) p t sk = none := (by rw [e_stS, if_pos (by omega), if_neg (by omega), if_pos (by omega)]); rw [E] at hQ; exact hQ _)
                              | (have E : e_st co n (m x_paper_sums_words_) (f + 1) p t sk = none := (by rw [e_stS, if_pos (by omega), if_neg (by omega), if_neg (by omega), if_neg (by omega), if_neg (by omega), if_neg (by omega), if_neg (by omega), show t - 2 = t + (-1) - 1 by omega, if_pos hcb]); rw [E] at hQ; exact hQ _)
                    · refine And.intro (fun (c17 : sk (t - 1) = 0) => ?_) (fun (c17 : ¬ (sk (t - 1) = 0)) => ?_)
                      · refine And.intro (show -2147483648 ≤ t + (-1) ∧ t + (-1) < 2147483648 by omega) ?_
                        refine br_t (show co p % 16 ≤ 5 by omega) ?_
                        refine And.intro (show -2147483648 ≤ step + 1 ∧ step + 1 < 2147483648 by omega) ?_
                        show cw_R _ _ 8 [vr x_paper_sums_, vr T, vi fr, vi (p + 1), vi (t + (-1)), vi (step + 1), vi (co p % 16), vi (co p / 16), vi (sk (t - 1)), w9, w10] [] (v3_m m sk) _
                        have E : e_st co n (m x_paper_sums_words_) (f + 1) p t sk = e_st co n (m x_paper_sums_words_) f (p + 1) (t + (-1)) (sk) := by rw [e_stS, if_pos (by omega), if_neg (by omega), if_neg (by omega), if_neg (by omega), if_neg (by omega), if_neg (by omega), if_pos (by omega), show t - 1 = t + (-1) by omega]
                        rw [E] at hQ
                        refine ih (p + 1) (t + (-1)) (step + 1) (sk) _ _ _ _ _ _ (by omega) (by omega) (by omega) (by omega) (fun i i0 i1 => ?_) hQ
                        have := hsk i (by omega) (by omega); omega
                      · refine br_t (show co p % 16 ≤ 5 by omega) ?_
                        refine And.intro (show -2147483648 ≤ step + 1 ∧ step + 1 < 2147483648 by omega) ?_
                        show cw_R _ _ 8 [vr x_paper_sums_, vr T, vi fr, vi (co p / 16), vi t, vi (step + 1), vi (co p % 16), vi (co p / 16), vi (sk (t - 1)), w9, w10] [] (v3_m m sk) _
                        have E : e_st co n (m x_paper_sums_words_) (f + 1) p t sk = e_st co n (m x_paper_sums_words_) f (co p / 16) (t) (sk) := by rw [e_stS, if_pos (by omega), if_neg (by omega), if_neg (by omega), if_neg (by omega), if_neg (by omega), if_pos (by omega)]
                        rw [E] at hQ
                        refine ih (co p / 16) (t) (step + 1) (sk) _ _ _ _ _ _ (by omega) (by omega) (by omega) (by omega) (fun i i0 i1 => ?_) hQ
                        have := hsk i (by omega) (by omega); omega
                  · refine And.intro (fun (c18 : sk (t - 1) = 0) => ?_) (fun (c18 : ¬ (sk (t - 1) = 0)) => ?_)
                    · refine br_t (show co p % 16 ≤ 5 by omega) ?_
                      refine And.intro (show -2147483648 ≤ step + 1 ∧ step + 1 < 2147483648 by omega) ?_
                      show cw_R _ _ 8 [vr x_paper_sums_, vr T, vi fr, vi (co p / 16), vi t, vi (step + 1), vi (co p % 16), vi (co p / 16), vi (sk (t - 1)), w9, w10] [] (v3_m m sk) _
                      have E : e_st co n (m x_paper_sums_words_) (f + 1) p t sk = e_st co n (m x_paper_sums_words_) f (co p / 16) (t) (sk) := by rw [e_stS, if_pos (by omega), if_neg (by omega), if_neg (by omega), if_neg (by omega), if_neg (by omega), if_pos (by omega)]
                      rw [E] at hQ
                      refine ih (co p / 16) (t) (step + 1) (sk) _ _ _ _ _ _ (by omega) (by omega) (by omega) (by omega) (fun i i0 i1 => ?_) hQ
                      have := hsk i (by omega) (by omega); omega
                    · refine br_t (show co p % 16 ≠ 5 by omega) ?_
                      refine And.intro (show -2147483648 ≤ t + (-1) ∧ t + (-1) < 2147483648 by omega) ?_
                      refine br_t (show co p % 16 ≤ 5 by omega) ?_
                      refine And.intro (show -2147483648 ≤ step + 1 ∧ step + 1 < 2147483648 by omega) ?_
                      show cw_R _ _ 8 [vr x_paper_sums_, vr T, vi fr, vi (p + 1), vi (t + (-1)), vi (step + 1), vi (co p % 16), vi (co p / 16), vi (sk (t - 1)), w9, w10] [] (v3_m m sk) _
                      have E : e_st co n (m x_paper_sums_words_) (f + 1) p t sk = e_st co n (m x_paper_sums_words_) f (p + 1) (t + (-1)) (sk) := by rw [e_stS, if_pos (by omega), if_neg (by omega), if_neg (by omega), if_neg (by omega), if_neg (by omega), if_neg (by omega), if_pos (by omega), show t - 1 = t + (-1) by omega]
                      rw [E] at hQ
                      refine ih (p + 1) (t + (-1)) (step + 1) (sk) _ _ _ _ _ _ (by omega) (by omega) (by omega) (by omega) (fun i i0 i1 => ?_) hQ
                      have := hsk i (by omega) (by omega); omega
                · refine And.intro (show -2147483648 ≤ t - 1 ∧ t - 1 < 2147483648 by omega) ?_
                  refine And.intro (show -2147483648 ≤ 1 - (sk (t - 1)) ∧ 1 - (sk (t - 1)) < 2147483648 by omega) ?_
                  refine And.intro (show 0 ≤ t - 1 ∧ t - 1 < 50 by omega) ?_
                  have hm19 : la_ok (cw_put (v3_m m sk) x_paper_sums_stack_ (t - 1) (1 - (sk (t - 1)))) := la_put hm (by decide) (Or.inr (by decide))
                  refine br_t (show co p % 16 ≤ 5 by omega) ?_
                  refine And.intro (show -2147483648 ≤ step + 1 ∧ step + 1 < 2147483648 by omega) ?_
                  show cw_R _ _ 8 [vr x_paper_sums_, vr T, vi fr, vi (p + 1), vi t, vi (step + 1), vi (co p % 16), vi (co p / 16), vi (sk (t - 1)), w9, w10] [] (cw_put (v3_m m sk) x_paper_sums_stack_ (t - 1) (1 - (sk (t - 1)))) _
                  rw [v3_m_psk]
                  have hm20 : la_ok (v3_m m (cw_up sk (t - 1) (1 - (sk (t - 1))))) := v3_m_ok hm0
                  have E : e_st co n (m x_paper_sums_words_) (f + 1) p t sk = e_st co n (m x_paper_sums_words_) f (p + 1) (t) (cw_up sk (t - 1) (1 - (sk (t - 1)))) := by rw [e_stS, if_pos (by omega), if_neg (by omega), if_neg (by omega), if_neg (by omega), if_pos (by omega)]
                  rw [E] at hQ
                  refine ih (p + 1) (t) (step + 1) (cw_up sk (t - 1) (1 - (sk (t - 1)))) _ _ _ _ _ _ (by omega) (by omega) (by omega) (by omega) (fun i i0 i1 => ?_) hQ
                  by_cases z : i = t - 1
                  · rw [z, cw_up_eq]; omega
                  · rw [cw_up_ne z]; have := hsk i (by omega) (by omega); omega
              · show Q (some (vi (sk (t - 1)))) (v3_m m sk)
                have E : e_st co n (m x_paper_sums_words_) (f + 1) p t sk = some (sk (t - 1)) := by rw [e_stS, if_pos (by omega), if_neg (by omega), if_neg (by omega), if_pos (by omega)]
                rw [E] at hQ
                exact hQ _
            · refine And.intro (fun (c21 : 2 ≤ t) => ?_) (fun (c21 : ¬ (2 ≤ t)) => ?_)
              · refine And.intro (show -2147483648 ≤ t - 1 ∧ t - 1 < 2147483648 by omega) ?_
                refine And.intro (show 0 ≤ t - 1 ∧ t - 1 < 50 by omega) ?_
                refine And.intro (fun (c22 : co p % 16 ≠ 0) => ?_) (fun (c22 : ¬ (co p % 16 ≠ 0)) => ?_)
                · refine And.intro (fun (c23 : co p % 16 ≠ 3) => ?_) (fun (c23 : ¬ (co p % 16 ≠ 3)) => ?_)
                  · refine And.intro (fun (c24 : co p % 16 ≠ 4) => ?_) (fun (c24 : ¬ (co p % 16 ≠ 4)) => ?_)
                    · refine And.intro (fun (c25 : co p % 16 ≠ 5) => ?_) (fun (c25 : ¬ (co p % 16 ≠ 5)) => ?_)
                      · refine And.intro (show -2147483648 ≤ t + (-1) ∧ t + (-1) < 2147483648 by omega) ?_
                        refine And.intro (fun (c26 : co p % 16 ≤ 5) => ?_) (fun (c26 : ¬ (co p % 16 ≤ 5)) => ?_)
                        · refine And.intro (show -2147483648 ≤ step + 1 ∧ step + 1 < 2147483648 by omega) ?_
                          show cw_R _ _ 8 [vr x_paper_sums_, vr T, vi fr, vi (p + 1), vi (t + (-1)), vi (step + 1), vi (co p % 16), vi (co p / 16), vi (sk (t - 1)), w9, w10] [] (v3_m m sk) _
                          have E : e_st co n (m x_paper_sums_words_) (f + 1) p t sk = e_st co n (m x_paper_sums_words_) f (p + 1) (t + (-1)) (sk) := by rw [e_stS, if_pos (by omega), if_neg (by omega), if_neg (by omega), if_neg (by omega), if_neg (by omega), if_neg (by omega), if_pos (by omega), show t - 1 = t + (-1) by omega]
                          rw [E] at hQ
                          refine ih (p + 1) (t + (-1)) (step + 1) (sk) _ _ _ _ _ _ (by omega) (by omega) (by omega) (by omega) (fun i i0 i1 => ?_) hQ
                          have := hsk i (by omega) (by omega); omega
                        · refine And.intro (show -2147483648 ≤ (t + (-1)) - 1 ∧ (t + (-1)) - 1 < 2147483648 by omega) ?_
                          refine And.intro (show 0 ≤ (t + (-1)) - 1 ∧ (t + (-1)) - 1 < 50 by omega) ?_
                          show cw_C _ _ [vi (co p % 16), vl (sk ((t + (-1)) - 1)), vl (sk (t - 1))] (v3_m m sk) _
                          refine Su_combine hm (by omega) (by omega) ⟨hm, ?_⟩
                          refine And.intro (fun (c27 : 0 < cw_lc (e_cb (co p % 16) (sk ((t + (-1)) - 1)) (sk (t - 1))) 1000000000) => ?_) (fun (c27 : ¬ (0 < cw_lc (e_cb (co p % 16) (sk ((t + (-1)) - 1)) (sk (t - 1))) 1000000000)) => ?_)
                          · have hcb : 1000000000 < e_cb (co p % 16) (sk (t + (-1) - 1)) (sk (t - 1)) ∨ e_cb (co p % 16) (sk (t + (-1) - 1)) (sk (t - 1)) < -1000000000 := Or.inl (by have := lc_le (x := e_cb (co p % 16) (sk (t + (-1) - 1)) (sk (t - 1))) (y := 1000000000); omega)
                            show Q (some (vi (-2000000000))) (v3_m m sk)
                            first
                              | (have E : e_st co n (m x_paper_sums_words_) (f + 1) p t sk = none := (by rw [e_stS, if_pos (by omega), if_pos (by omega), if_pos (by omega)]); rw [E] at hQ; exact hQ _)
                              | (have E : e_st co n (m x_paper_sums_words_) (f + 1) p t sk = none := (by rw [e_stS, if_pos (by omega), if_neg (by omega), if_pos (by omega)]); rw [E] at hQ; exact hQ _)
                              | (have E : e_st co n (m x_paper_sums_words_) (f + 1) p t sk = none := (by rw [e_stS, if_pos (by omega), if_neg (by omega), if_neg (by omega), if_neg (by omega), if_neg (by omega), if_neg (by omega), if_neg (by omega), show t - 2 = t + (-1) - 1 by omega, if_pos hcb]); rw [E] at hQ; exact hQ _)
                          · have hcA := lc_le (x := e_cb (co p % 16) (sk (t + (-1) - 1)) (sk (t - 1))) (y := 1000000000)
                            refine And.intro (fun (c28 : 0 ≤ cw_lc (e_cb (co p % 16) (sk ((t + (-1)) - 1)) (sk (t - 1))) (-1000000000)) => ?_) (fun (c28 : ¬ (0 ≤ cw_lc (e_cb (co p % 16) (sk ((t + (-1)) - 1)) (sk (t - 1))) (-1000000000))) => ?_)
                            · have hcB := lc_lt (x := e_cb (co p % 16) (sk (t + (-1) - 1)) (sk (t - 1))) (y := -1000000000)
                              have hcb : ¬ (1000000000 < e_cb (co p % 16) (sk (t + (-1) - 1)) (sk (t - 1)) ∨ e_cb (co p % 16) (sk (t + (-1) - 1)) (sk (t - 1)) < -1000000000) := by omega
                              refine And.intro (show -2147483648 ≤ (t + (-1)) - 1 ∧ (t + (-1)) - 1 < 2147483648 by omega) ?_
                              refine And.intro (show -2147483648 ≤ e_cb (co p % 16) (sk ((t + (-1)) - 1)) (sk (t - 1)) ∧ e_cb (co p % 16) (sk ((t + (-1)) - 1)) (sk (t - 1)) < 2147483648 by omega) ?_
                              refine And.intro (show 0 ≤ (t + (-1)) - 1 ∧ (t + (-1)) - 1 < 50 by omega) ?_
                              have hm29 : la_ok (cw_put (v3_m m sk) x_paper_sums_stack_ ((t + (-1)) - 1) (e_cb (co p % 16) (sk ((t + (-1)) - 1)) (sk (t - 1)))) := la_put hm (by decide) (Or.inr (by decide))
                              refine And.intro (show -2147483648 ≤ step + 1 ∧ step + 1 < 2147483648 by omega) ?_
                              show cw_R _ _ 8 [vr x_paper_sums_, vr T, vi fr, vi (p + 1), vi (t + (-1)), vi (step + 1), vi (co p % 16), vi (co p / 16), vi (sk (t - 1)), vl (e_cb (co p % 16) (sk ((t + (-1)) - 1)) (sk (t - 1))), none] [] (cw_put (v3_m m sk) x_paper_sums_stack_ ((t + (-1)) - 1) (e_cb (co p % 16) (sk ((t + (-1)) - 1)) (sk (t - 1)))) _
                              rw [v3_m_psk]
                              have hm30 : la_ok (v3_m m (cw_up sk ((t + (-1)) - 1) (e_cb (co p % 16) (sk ((t + (-1)) - 1)) (sk (t - 1))))) := v3_m_ok hm0
                              have E : e_st co n (m x_paper_sums_words_) (f + 1) p t sk = e_st co n (m x_paper_sums_words_) f (p + 1) (t + (-1)) (cw_up sk ((t + (-1)) - 1) (e_cb (co p % 16) (sk ((t + (-1)) - 1)) (sk (t - 1)))) := by rw [e_stS, if_pos (by omega), if_neg (by omega), if_neg (by omega), if_neg (by omega), if_neg (by omega), if_neg (by omega), if_neg (by omega), show t - 2 = t + (-1) - 1 by omega, if_neg hcb, show t - 1 = t + (-1) by omega]
                              rw [E] at hQ
                              refine ih (p + 1) (t + (-1)) (step + 1) (cw_up sk ((t + (-1)) - 1) (e_cb (co p % 16) (sk ((t + (-1)) - 1)) (sk (t - 1)))) _ _ _ _ _ _ (by omega) (by omega) (by omega) (by omega) (fun i i0 i1 => ?_) hQ
                              by_cases z : i = t + (-1) - 1
                              · rw [z, cw_up_eq]; omega
                              · rw [cw_up_ne z]; have := hsk i (by omega) (by omega); omega
                            · have hcb : 1000000000 < e_cb (co p % 16) (sk (t + (-1) - 1)) (sk (t - 1)) ∨ e_cb (co p % 16) (sk (t + (-1) - 1)) (sk (t - 1)) < -1000000000 := Or.inr (by have := lc_lt (x := e_cb (co p % 16) (sk (t + (-1) - 1)) (sk (t - 1))) (y := -1000000000); omega)
                              show Q (some (vi (-2000000000))) (v3_m m sk)
                              first
                                | (have E : e_st co n (m x_paper_sums_words_) (f + 1) p t sk = none := (by rw [e_stS, if_pos (by omega), if_pos (by omega), if_pos (by omega)]); rw [E] at hQ; exact hQ _)
                                | (have E : e_st co n (m x_paper_sums_words_) (f + 1) p t sk = none := (by rw [e_stS, if_pos (by omega), if_neg (by omega), if_pos (by omega)]); rw [E] at hQ; exact hQ _)
                                | (have E : e_st co n (m x_paper_sums_words_) (f + 1) p t sk = none := (by rw [e_stS, if_pos (by omega), if_neg (by omega), if_neg (by omega), if_neg (by omega), if_neg (by omega), if_neg (by omega), if_neg (by omega), show t - 2 = t + (-1) - 1 by omega, if_pos hcb]); rw [E] at hQ; exact hQ _)
                      · refine And.intro (fun (c31 : sk (t - 1) = 0) => ?_) (fun (c31 : ¬ (sk (t - 1) = 0)) => ?_)
                        · refine And.intro (show -2147483648 ≤ t + (-1) ∧ t + (-1) < 2147483648 by omega) ?_
                          refine br_t (show co p % 16 ≤ 5 by omega) ?_
                          refine And.intro (show -2147483648 ≤ step + 1 ∧ step + 1 < 2147483648 by omega) ?_
                          show cw_R _ _ 8 [vr x_paper_sums_, vr T, vi fr, vi (p + 1), vi (t + (-1)), vi (step + 1), vi (co p % 16), vi (co p / 16), vi (sk (t - 1)), w9, w10] [] (v3_m m sk) _
                          have E : e_st co n (m x_paper_sums_words_) (f + 1) p t sk = e_st co n (m x_paper_sums_words_) f (p + 1) (t + (-1)) (sk) := by rw [e_stS, if_pos (by omega), if_neg (by omega), if_neg (by omega), if_neg (by omega), if_neg (by omega), if_neg (by omega), if_pos (by omega), show t - 1 = t + (-1) by omega]
                          rw [E] at hQ
                          refine ih (p + 1) (t + (-1)) (step + 1) (sk) _ _ _ _ _ _ (by omega) (by omega) (by omega) (by omega) (fun i i0 i1 => ?_) hQ
                          have := hsk i (by omega) (by omega); omega
                        · refine br_t (show co p % 16 ≤ 5 by omega) ?_
                          refine And.intro (show -2147483648 ≤ step + 1 ∧ step + 1 < 2147483648 by omega) ?_
                          show cw_R _ _ 8 [vr x_paper_sums_, vr T, vi fr, vi (co p / 16), vi t, vi (step + 1), vi (co p % 16), vi (co p / 16), vi (sk (t - 1)), w9, w10] [] (v3_m m sk) _
                          have E : e_st co n (m x_paper_sums_words_) (f + 1) p t sk = e_st co n (m x_paper_sums_words_) f (co p / 16) (t) (sk) := by rw [e_stS, if_pos (by omega), if_neg (by omega), if_neg (by omega), if_neg (by omega), if_neg (by omega), if_pos (by omega)]
                          rw [E] at hQ
                          refine ih (co p / 16) (t) (step + 1) (sk) _ _ _ _ _ _ (by omega) (by omega) (by omega) (by omega) (fun i i0 i1 => ?_) hQ
                          have := hsk i (by omega) (by omega); omega
                    · refine And.intro (fun (c32 : sk (t - 1) = 0) => ?_) (fun (c32 : ¬ (sk (t - 1) = 0)) => ?_)
                      · refine br_t (show co p % 16 ≤ 5 by omega) ?_
                        refine And.intro (show -2147483648 ≤ step + 1 ∧ step + 1 < 2147483648 by omega) ?_
                        show cw_R _ _ 8 [vr x_paper_sums_, vr T, vi fr, vi (co p / 16), vi t, vi (step + 1), vi (co p % 16), vi (co p / 16), vi (sk (t - 1)), w9, w10] [] (v3_m m sk) _
                        have E : e_st co n (m x_paper_sums_words_) (f + 1) p t sk = e_st co n (m x_paper_sums_words_) f (co p / 16) (t) (sk) := by rw [e_stS, if_pos (by omega), if_neg (by omega), if_neg (by omega), if_neg (by omega), if_neg (by omega), if_pos (by omega)]
                        rw [E] at hQ
                        refine ih (co p / 16) (t) (step + 1) (sk) _ _ _ _ _ _ (by omega) (by omega) (by omega) (by omega) (fun i i0 i1 => ?_) hQ
                        have := hsk i (by omega) (by omega); omega
                      · refine br_t (show co p % 16 ≠ 5 by omega) ?_
                        refine And.intro (show -2147483648 ≤ t + (-1) ∧ t + (-1) < 2147483648 by omega) ?_
                        refine br_t (show co p % 16 ≤ 5 by omega) ?_
                        refine And.intro (show -2147483648 ≤ step + 1 ∧ step + 1 < 2147483648 by omega) ?_
                        show cw_R _ _ 8 [vr x_paper_sums_, vr T, vi fr, vi (p + 1), vi (t + (-1)), vi (step + 1), vi (co p % 16), vi (co p / 16), vi (sk (t - 1)), w9, w10] [] (v3_m m sk) _
                        have E : e_st co n (m x_paper_sums_words_) (f + 1) p t sk = e_st co n (m x_paper_sums_words_) f (p + 1) (t + (-1)) (sk) := by rw [e_stS, if_pos (by omega), if_neg (by omega), if_neg (by omega), if_neg (by omega), if_neg (by omega), if_neg (by omega), if_pos (by omega), show t - 1 = t + (-1) by omega]
                        rw [E] at hQ
                        refine ih (p + 1) (t + (-1)) (step + 1) (sk) _ _ _ _ _ _ (by omega) (by omega) (by omega) (by omega) (fun i i0 i1 => ?_) hQ
                        have := hsk i (by omega) (by omega); omega
                  · refine And.intro (show -2147483648 ≤ t - 1 ∧ t - 1 < 2147483648 by omega) ?_
                    refine And.intro (show -2147483648 ≤ 1 - (sk (t - 1)) ∧ 1 - (sk (t - 1)) < 2147483648 by omega) ?_
                    refine And.intro (show 0 ≤ t - 1 ∧ t - 1 < 50 by omega) ?_
                    have hm33 : la_ok (cw_put (v3_m m sk) x_paper_sums_stack_ (t - 1) (1 - (sk (t - 1)))) := la_put hm (by decide) (Or.inr (by decide))
                    refine br_t (show co p % 16 ≤ 5 by omega) ?_
                    refine And.intro (show -2147483648 ≤ step + 1 ∧ step + 1 < 2147483648 by omega) ?_
                    show cw_R _ _ 8 [vr x_paper_sums_, vr T, vi fr, vi (p + 1), vi t, vi (step + 1), vi (co p % 16), vi (co p / 16), vi (sk (t - 1)), w9, w10] [] (cw_put (v3_m m sk) x_paper_sums_stack_ (t - 1) (1 - (sk (t - 1)))) _
                    rw [v3_m_psk]
                    have hm34 : la_ok (v3_m m (cw_up sk (t - 1) (1 - (sk (t - 1))))) := v3_m_ok hm0
                    have E : e_st co n (m x_paper_sums_words_) (f + 1) p t sk = e_st co n (m x_paper_sums_words_) f (p + 1) (t) (cw_up sk (t - 1) (1 - (sk (t - 1)))) := by rw [e_stS, if_pos (by omega), if_neg (by omega), if_neg (by omega), if_neg (by omega), if_pos (by omega)]
                    rw [E] at hQ
                    refine ih (p + 1) (t) (step + 1) (cw_up sk (t - 1) (1 - (sk (t - 1)))) _ _ _ _ _ _ (by omega) (by omega) (by omega) (by omega) (fun i i0 i1 => ?_) hQ
                    by_cases z : i = t - 1
                    · rw [z, cw_up_eq]; omega
                    · rw [cw_up_ne z]; have := hsk i (by omega) (by omega); omega
                · show Q (some (vi (sk (t - 1)))) (v3_m m sk)
                  have E : e_st co n (m x_paper_sums_words_) (f + 1) p t sk = some (sk (t - 1)) := by rw [e_stS, if_pos (by omega), if_neg (by omega), if_neg (by omega), if_pos (by omega)]
                  rw [E] at hQ
                  exact hQ _
              · show Q (some (vi (-2000000000))) (v3_m m sk)
                first
                  | (have E : e_st co n (m x_paper_sums_words_) (f + 1) p t sk = none := (by rw [e_stS, if_pos (by omega), if_pos (by omega), if_pos (by omega)]); rw [E] at hQ; exact hQ _)
                  | (have E : e_st co n (m x_paper_sums_words_) (f + 1) p t sk = none := (by rw [e_stS, if_pos (by omega), if_neg (by omega), if_pos (by omega)]); rw [E] at hQ; exact hQ _)
                  | (have E : e_st co n (m x_paper_sums_words_) (f + 1) p t sk = none := (by rw [e_stS, if_pos (by omega), if_neg (by omega), if_neg (by omega), if_neg (by omega), if_neg (by omega), if_neg (by omega), if_neg (by omega), show t - 2 = t + (-1) - 1 by omega, if_pos hcb]); rw [E] at hQ; exact hQ _)
        · refine And.intro (fun (c35 : 50 ≤ t) => ?_) (fun (c35 : ¬ (50 ≤ t)) => ?_)
          · show Q (some (vi (-2000000000))) (v3_m m sk)
            first
              | (have E : e_st co n (m x_paper_sums_words_) (f + 1) p t sk = none := (by rw [e_stS, if_pos (by omega), if_pos (by omega), if_pos (by omega)]); rw [E] at hQ; exact hQ _)
              | (have E : e_st co n (m x_paper_sums_words_) (f + 1) p t sk = none := (by rw [e_stS, if_pos (by omega), if_neg (by omega), if_pos (by omega)]); rw [E] at hQ; exact hQ _)
              | (have E : e_st co n (m x_paper_sums_words_) (f + 1) p t sk = none := (by rw [e_stS, if_pos (by omega), if_neg (by omega), if_neg (by omega), if_neg (by omega), if_neg (by omega), if_neg (by omega), if_neg (by omega), show t - 2 = t + (-1) - 1 by omega, if_pos hcb]); rw [E] at hQ; exact hQ _)
          · refine br_f (show ¬ (co p % 16 ≠ 2) by omega) ?_
            refine And.intro (fun (c36 : co p / 16 < 17) => ?_) (fun (c36 : ¬ (co p / 16 < 17)) => ?_)
            · refine br_t (show co p % 16 ≠ 1 by omega) ?_
              refine And.intro (show 0 ≤ co p / 16 ∧ co p / 16 < 17 by omega) ?_
              refine And.intro (show 0 ≤ t ∧ t < 50 by omega) ?_
              have hm37 : la_ok (cw_put (v3_m m sk) x_paper_sums_stack_ t (m x_paper_sums_words_ (co p / 16))) := la_put hm (by decide) (Or.inr (by decide))
              refine And.intro (show -2147483648 ≤ t + 1 ∧ t + 1 < 2147483648 by omega) ?_
              refine And.intro (show -2147483648 ≤ step + 1 ∧ step + 1 < 2147483648 by omega) ?_
              show cw_R _ _ 8 [vr x_paper_sums_, vr T, vi fr, vi (p + 1), vi (t + 1), vi (step + 1), vi (co p % 16), vi (co p / 16), w8, w9, w10] [] (cw_put (v3_m m sk) x_paper_sums_stack_ t (m x_paper_sums_words_ (co p / 16))) _
              rw [v3_m_psk]
              have hm38 : la_ok (v3_m m (cw_up sk t (m x_paper_sums_words_ (co p / 16)))) := v3_m_ok hm0
              have E : e_st co n (m x_paper_sums_words_) (f + 1) p t sk = e_st co n (m x_paper_sums_words_) f (p + 1) (t + 1) (cw_up sk t (m x_paper_sums_words_ (co p / 16))) := by rw [e_stS, if_pos (by omega), if_pos (by omega), if_neg (by omega), if_neg (by omega)]
              rw [E] at hQ
              refine ih (p + 1) (t + 1) (step + 1) (cw_up sk t (m x_paper_sums_words_ (co p / 16))) _ _ _ _ _ _ (by omega) (by omega) (by omega) (by omega) (fun i i0 i1 => ?_) hQ
              by_cases z : i = t
              · rw [z, cw_up_eq]; have := hW (co p / 16) (by omega) (by omega); omega
              · rw [cw_up_ne z]; have := hsk i (by omega) (by omega); omega
            · show Q (some (vi (-2000000000))) (v3_m m sk)
              first
                | (have E : e_st co n (m x_paper_sums_words_) (f + 1) p t sk = none := (by rw [e_stS, if_pos (by omega), if_pos (by omega), if_pos (by omega)]); rw [E] at hQ; exact hQ _)
                | (have E : e_st co n (m x_paper_sums_words_) (f + 1) p t sk = none := (by rw [e_stS, if_pos (by omega), if_neg (by omega), if_pos (by omega)]); rw [E] at hQ; exact hQ _)
                | (have E : e_st co n (m x_paper_sums_words_) (f + 1) p t sk = none := (by rw [e_stS, if_pos (by omega), if_neg (by omega), if_neg (by omega), if_neg (by omega), if_neg (by omega), if_neg (by omega), if_neg (by omega), show t - 2 = t + (-1) - 1 by omega, if_pos hcb]); rw [E] at hQ; exact hQ _)
    refine la_go_RV hm 27 [11, 19, 29, 33, 40, 44] [52] ?_
    refine And.intro (show cw_tg T = 8 by exact hT8) ?_
    refine And.intro (fun (c1 : (v3_m m sk) T 1 ≤ step) => ?_) (fun (c1 : ¬ ((v3_m m sk) T 1 ≤ step)) => ?_)
    · show Q (some (vi (-2000000000))) (v3_m m sk)
      have E : e_st co n (m x_paper_sums_words_) (f + 1) p t sk = none := by rw [e_stS, if_neg (by omega)]
      rw [E] at hQ
      exact hQ _
    · refine And.intro (show cw_tg T = 8 by exact hT8) ?_
      show cw_C _ _ [vi p, vi ((v3_m m sk) T 1)] (v3_m m sk) _
      refine C_isBelow (fun (a2 : 0 ≤ p) (a3 : p < (v3_m m sk) T 1) => ⟨hm, ?_⟩) (fun (a4 : ¬ (0 ≤ p ∧ p < (v3_m m sk) T 1)) => ⟨hm, ?_⟩)
      · refine br_f (show ¬ ((1 : Int) = 0) by decide) ?_
        refine And.intro (show cw_tg T = 8 by exact hT8) ?_
        refine And.intro (show cw_tg ((v3_m m sk) T 7) = 40 ∧ 0 ≤ p ∧ p < cw_ln ((v3_m m sk) T 7) by rw [eA]; exact ⟨hT.2.2.2.1, by omega, by have := hT.2.2.2.2.1; omega⟩) ?_
        refine And.intro (show cw_tg T = 8 by exact hT8) ?_
        refine And.intro (show cw_tg ((v3_m m sk) T 7) = 40 ∧ 0 ≤ p ∧ p < cw_ln ((v3_m m sk) T 7) by rw [eA]; exact ⟨hT.2.2.2.1, by omega, by have := hT.2.2.2.2.1; omega⟩) ?_
        refine And.intro (show -2147483648 ≤ p + 1 ∧ p + 1 < 2147483648 by omega) ?_
        show cw_R _ _ 52 [vr x_paper_sums_, vr T, vi fr, vi (p + 1), vi t, vi step, vi (cw_iand ((v3_m m sk) ((v3_m m sk) T 7) p) 15), vi (cw_ishr ((v3_m m sk) ((v3_m m sk) T 7) p) 4), w8, w9, w10] [] (v3_m m sk) _
        rw [eA, eC p, (e_15 (hco p (by omega) (by omega))).1, (e_15 (hco p (by omega) (by omega))).2]
        exact l52 (by omega)
      · refine br_t (show (0 : Int) = 0 by decide) ?_
        show Q (some (vi (-2000000000))) (v3_m m sk)
        have E : e_st co n (m x_paper_sums_words_) (f + 1) p t sk = none := by rw [e_stS, if_neg (by omega)]
        rw [E] at hQ
        exact hQ _
theorem Su_eval3 {d : Nat} {m : cw_M} {Q : Option cw_V → cw_M → Prop} (hm0 : la_ok m) {T CA n fr : Int} {co sk : Int → Int} (hT : cw_tg T = 8 ∧ m T 1 = n ∧ m T 7 = CA ∧ cw_tg CA = 40 ∧ n ≤ cw_ln CA ∧ T ≠ x_paper_sums_stack_ ∧ CA ≠ x_paper_sums_stack_ ∧ ∀ i, m CA i = co i) (hn : 0 ≤ n ∧ n ≤ 400) (hco : e_ok co n) (hW : ∀ i, 0 ≤ i → i < 17 → -1000000 ≤ m x_paper_sums_words_ i ∧ m x_paper_sums_words_ i ≤ 1000000) (hQ : ∀ sk', Q (some (vi ((e_st co n (m x_paper_sums_words_) n.toNat fr 0 sk).getD (-2000000000)))) (v3_m m sk')) : cw_C (d + 1) k_Su_evaluate [vr x_paper_sums_, vr T, vi fr] (v3_m m sk) Q := by
  have hm : la_ok (v3_m m sk) := v3_m_ok hm0
  refine la_go_CV hm 9 [11, 19, 29, 33, 40, 44] [8] ?_
  show cw_R _ _ 8 [vr x_paper_sums_, vr T, vi fr, vi fr, vi 0, vi 0, none, none, none, none, none] [] (v3_m m sk) _
  exact Su_eval3L hm0 hT hn hco hW n.toNat fr 0 0 sk _ _ _ _ _ _ (by omega) (by omega) (by omega) (by omega) (fun i a b => by omega) hQ
