/-! More of the reference: counting, sets, copies (wip/whole/tools/m57.py). -/
def f_cnt (f : Int → Int) (p : Int) : Nat → Int
  | 0 => 0
  | n + 1 => f_cnt f p n + (if f n = p then 1 else 0)
theorem f_cntr {f : Int → Int} {p : Int} : ∀ n : Nat, 0 ≤ f_cnt f p n ∧ f_cnt f p n ≤ n
  | 0 => ⟨Int.le_refl 0, Int.le_refl 0⟩
  | n + 1 => by
    have := f_cntr (f := f) (p := p) n
    show 0 ≤ f_cnt f p n + (if f n = p then 1 else 0) ∧ f_cnt f p n + (if f n = p then 1 else 0) ≤ _
    split <;> omega
theorem f_cntc {f g : Int → Int} {p : Int} : ∀ n : Nat, (∀ i : Int, 0 ≤ i → i < n → f i = g i) → f_cnt f p n = f_cnt g p n
  | 0, _ => rfl
  | n + 1, h => by
    show f_cnt f p n + (if f n = p then 1 else 0) = f_cnt g p n + (if g n = p then 1 else 0)
    rw [f_cntc n (fun i a b => h i a (by omega)), h n (by omega) (by omega)]
theorem f_cnt1 {f : Int → Int} {p k : Int} (hk : 0 ≤ k) (h : f k = p) : f_cnt f p k.toNat + 1 = f_cnt f p (k + 1).toNat := by
  rw [show (k + 1).toNat = k.toNat + 1 by omega]
  show _ = f_cnt f p k.toNat + (if f k.toNat = p then 1 else 0)
  rw [if_pos (by rw [show ((k.toNat : Nat) : Int) = k by omega]; exact h)]
theorem f_cnt0 {f : Int → Int} {p k : Int} (hk : 0 ≤ k) (h : f k ≠ p) : f_cnt f p k.toNat = f_cnt f p (k + 1).toNat := by
  rw [show (k + 1).toNat = k.toNat + 1 by omega]
  show _ = f_cnt f p k.toNat + (if f k.toNat = p then 1 else 0)
  rw [if_neg (by rw [show ((k.toNat : Nat) : Int) = k by omega]; exact h), Int.add_zero]
/-- the set of the persons named at a .. a + n - 1 -/
def f_msk (f : Int → Int) (a : Int) : Nat → Int
  | 0 => 0
  | n + 1 => cw_ior (f_msk f a n) (cw_ishl 1 (f (a + n)))
theorem f_mskr {f : Int → Int} {a : Int} : ∀ n : Nat, (∀ i : Int, a ≤ i → i < a + n → 0 ≤ f i ∧ f i < 6) → 0 ≤ f_msk f a n ∧ f_msk f a n < 64
  | 0, _ => ⟨Int.le_refl 0, by show (0 : Int) < 64; decide⟩
  | n + 1, h => (b_set (f_mskr n (fun i x y => h i x (by omega))) (h (a + n) (by omega) (by omega))).1
theorem f_mskc {f g : Int → Int} {a : Int} : ∀ n : Nat, (∀ i : Int, a ≤ i → i < a + n → f i = g i) → f_msk f a n = f_msk g a n
  | 0, _ => rfl
  | n + 1, h => by
    show cw_ior (f_msk f a n) (cw_ishl 1 (f (a + n))) = cw_ior (f_msk g a n) (cw_ishl 1 (g (a + n)))
    rw [f_mskc n (fun i x y => h i x (by omega)), h (a + n) (by omega) (by omega)]
theorem f_msk1 {f : Int → Int} {a k : Int} (hk : a ≤ k) : cw_ior (f_msk f a (k - a).toNat) (cw_ishl 1 (f k)) = f_msk f a (k + 1 - a).toNat := by
  rw [show (k + 1 - a).toNat = (k - a).toNat + 1 by omega]
  show _ = cw_ior (f_msk f a (k - a).toNat) (cw_ishl 1 (f (a + ((k - a).toNat : Nat))))
  rw [show a + (((k - a).toNat : Nat) : Int) = k by omega]
theorem t_w_s {old g : Int → Int} {b k : Int} (hk : 0 ≤ k) : cw_up (t_w old b 0 k g) (b + k) (g k) = t_w old b 0 (k + 1) g := by
  funext i
  unfold cw_up t_w
  by_cases e : i = b + k
  · rw [if_pos e, if_pos (by omega), e]; congr 1; omega
  · rw [if_neg e]
    by_cases e2 : b + 0 ≤ i ∧ i < b + 0 + k
    · rw [if_pos e2, if_pos (by omega)]
    · rw [if_neg e2, if_neg (by omega)]
theorem lc_lt {x y : Int} : cw_lc x y < 0 ↔ x < y := by unfold cw_lc; split <;> (try split) <;> omega
theorem lc_le {x y : Int} : cw_lc x y ≤ 0 ↔ x ≤ y := by unfold cw_lc; split <;> (try split) <;> omega
theorem lc_eq {x y : Int} : cw_lc x y = 0 ↔ x = y := by unfold cw_lc; split <;> (try split) <;> omega
theorem M_timesOf {d : Nat} {m : cw_M} {Q : Option cw_V → cw_M → Prop} (hm : la_ok m) (hn : 0 ≤ m m_kept_ 46 ∧ m m_kept_ 46 ≤ 7) {p : Int} (h : Q (some (vi (f_cnt (fun i => m m_kept_ (19 + i)) p (m m_kept_ 46).toNat))) m) : cw_C (d + 1) k_M_timesOf [vr m_, vi p] m Q := by
  have lp : ∀ (r : Nat) (k : Int), m m_kept_ 46 < k + r → (0 ≤ k ∧ k ≤ m m_kept_ 46) → cw_R (d + 1) k_M_timesOf 4 [vr m_, vi p, vi (f_cnt (fun i => m m_kept_ (19 + i)) p k.toNat), vi k] [] m Q := by
    intro r
    induction r with
    | zero =>
      intro k hr hk
      omega
    | succ r ih =>
      intro k hr hk
      have fr := f_cntr (f := (fun i => m m_kept_ (19 + i))) (p := p) k.toNat
      refine la_go_R hm 22 [4] ?_
      show cw_C _ _ [vr m_] (m) _
      refine M_many hm ⟨hm, ?_⟩
      refine And.intro (fun (c1 : m m_kept_ 46 ≤ k) => ?_) (fun (c1 : ¬ (m m_kept_ 46 ≤ k)) => ?_)
      · show Q (some (vi (f_cnt (fun i => m m_kept_ (19 + i)) p k.toNat))) (m)
        rw [show k = m m_kept_ 46 by omega]
        exact h
      · refine And.intro (show -2147483648 ≤ 19 + k ∧ 19 + k < 2147483648 by omega) ?_
        refine And.intro (show 0 ≤ 19 + k ∧ 19 + k < 5658 by omega) ?_
        refine And.intro (fun (c2 : m m_kept_ (19 + k) ≠ p) => ?_) (fun (c2 : ¬ (m m_kept_ (19 + k) ≠ p)) => ?_)
        · refine And.intro (show -2147483648 ≤ (f_cnt (fun i => m m_kept_ (19 + i)) p k.toNat) + 0 ∧ (f_cnt (fun i => m m_kept_ (19 + i)) p k.toNat) + 0 < 2147483648 by omega) ?_
          refine And.intro (show -2147483648 ≤ k + 1 ∧ k + 1 < 2147483648 by omega) ?_
          show cw_R _ _ 4 [vr m_, vi p, vi ((f_cnt (fun i => m m_kept_ (19 + i)) p k.toNat) + 0), vi (k + 1)] [] (m) _
          rw [Int.add_zero, f_cnt0 (f := (fun i => m m_kept_ (19 + i))) (p := p) hk.1 (by show m m_kept_ (19 + k) ≠ p; omega)]
          exact ih (k + 1) (by omega) (by omega)
        · refine And.intro (show -2147483648 ≤ (f_cnt (fun i => m m_kept_ (19 + i)) p k.toNat) + 1 ∧ (f_cnt (fun i => m m_kept_ (19 + i)) p k.toNat) + 1 < 2147483648 by omega) ?_
          refine And.intro (show -2147483648 ≤ k + 1 ∧ k + 1 < 2147483648 by omega) ?_
          show cw_R _ _ 4 [vr m_, vi p, vi ((f_cnt (fun i => m m_kept_ (19 + i)) p k.toNat) + 1), vi (k + 1)] [] (m) _
          rw [f_cnt1 (f := (fun i => m m_kept_ (19 + i))) (p := p) hk.1 (by show m m_kept_ (19 + k) = p; omega)]
          exact ih (k + 1) (by omega) (by omega)
  refine la_go_C hm 7 [4] ?_
  show cw_R _ _ 4 [vr m_, vi p, vi 0, vi 0] [] (m) _
  exact lp ((m m_kept_ 46).toNat + 1) 0 (by omega) (by omega)
theorem M_namedIn {d : Nat} {m : cw_M} {Q : Option cw_V → cw_M → Prop} (hm : la_ok m) {a b : Int} (hab : 0 ≤ a ∧ a ≤ b + 1 ∧ b ≤ 6) (h : Q (some (vi (f_msk (fun i => m m_kept_ (19 + i)) a (b + 1 - a).toNat))) m) : cw_C d k_M_namedIn [vr m_, vi a, vi b] m Q := by
  have lp : ∀ (r : Nat) (k : Int), b + 1 < k + r → (a ≤ k ∧ k ≤ b + 1) → cw_R (d) k_M_namedIn 5 [vr m_, vi a, vi b, vi (f_msk (fun i => m m_kept_ (19 + i)) a (k - a).toNat), vi k] [] m Q := by
    intro r
    induction r with
    | zero =>
      intro k hr hk
      omega
    | succ r ih =>
      intro k hr hk
      refine la_go_R hm 19 [5] ?_
      refine And.intro (fun (c1 : b < k) => ?_) (fun (c1 : ¬ (b < k)) => ?_)
      · show Q (some (vi (f_msk (fun i => m m_kept_ (19 + i)) a (k - a).toNat))) (m)
        rw [show k = b + 1 by omega]
        exact h
      · refine And.intro (show -2147483648 ≤ 19 + k ∧ 19 + k < 2147483648 by omega) ?_
        refine And.intro (show 0 ≤ 19 + k ∧ 19 + k < 5658 by omega) ?_
        refine And.intro (show -2147483648 ≤ k + 1 ∧ k + 1 < 2147483648 by omega) ?_
        show cw_R _ _ 5 [vr m_, vi a, vi b, vi (cw_ior (f_msk (fun i => m m_kept_ (19 + i)) a (k - a).toNat) (cw_ishl 1 (m m_kept_ (19 + k)))), vi (k + 1)] [] (m) _
        rw [show cw_ior (f_msk (fun i => m m_kept_ (19 + i)) a (k - a).toNat) (cw_ishl 1 (m m_kept_ (19 + k))) = f_msk (fun i => m m_kept_ (19 + i)) a (k + 1 - a).toNat from f_msk1 (f := (fun i => m m_kept_ (19 + i))) hk.1]
        exact ih (k + 1) (by omega) (by omega)
  refine la_go_C hm 7 [5] ?_
  show cw_R _ _ 5 [vr m_, vi a, vi b, vi 0, vi a] [] (m) _
  have e : f_msk (fun i => m m_kept_ (19 + i)) a (a - a).toNat = 0 := by rw [show a - a = 0 by omega]; rfl
  rw [← e]
  exact lp (b + 2 - a).toNat a (by omega) (by omega)
theorem M_livingMany {d : Nat} {m : cw_M} {Q : Option cw_V → cw_M → Prop} (hm : la_ok m) (hlv : ∀ p, 0 ≤ p → p < 6 → m m_kept_ (12 + p) = 0 ∨ m m_kept_ (12 + p) = 1) (h : Q (some (vi (m m_kept_ 12 + m m_kept_ 13 + m m_kept_ 14 + m m_kept_ 15 + m m_kept_ 16 + m m_kept_ 17))) m) : cw_C d k_M_livingMany [vr m_] m Q := by
  have q0 : m m_kept_ 12 = 0 ∨ m m_kept_ 12 = 1 := hlv 0 (by decide) (by decide)
  have q1 : m m_kept_ 13 = 0 ∨ m m_kept_ 13 = 1 := hlv 1 (by decide) (by decide)
  have q2 : m m_kept_ 14 = 0 ∨ m m_kept_ 14 = 1 := hlv 2 (by decide) (by decide)
  have q3 : m m_kept_ 15 = 0 ∨ m m_kept_ 15 = 1 := hlv 3 (by decide) (by decide)
  have q4 : m m_kept_ 16 = 0 ∨ m m_kept_ 16 = 1 := hlv 4 (by decide) (by decide)
  have q5 : m m_kept_ 17 = 0 ∨ m m_kept_ 17 = 1 := hlv 5 (by decide) (by decide)
  refine la_go_C hm 96 [] ?_
  refine br_f (by decide) ?_
  refine And.intro (show -2147483648 ≤ 12 ∧ 12 < 2147483648 by omega) ?_
  refine And.intro (show 0 ≤ 12 ∧ 12 < 5658 by omega) ?_
  refine And.intro (show -2147483648 ≤ 0 + (m m_kept_ 12) ∧ 0 + (m m_kept_ 12) < 2147483648 by omega) ?_
  refine And.intro (show -2147483648 ≤ 1 ∧ 1 < 2147483648 by omega) ?_
  refine br_f (by decide) ?_
  refine And.intro (show -2147483648 ≤ 13 ∧ 13 < 2147483648 by omega) ?_
  refine And.intro (show 0 ≤ 13 ∧ 13 < 5658 by omega) ?_
  refine And.intro (show -2147483648 ≤ (0 + (m m_kept_ 12)) + (m m_kept_ 13) ∧ (0 + (m m_kept_ 12)) + (m m_kept_ 13) < 2147483648 by omega) ?_
  refine And.intro (show -2147483648 ≤ 2 ∧ 2 < 2147483648 by omega) ?_
  refine br_f (by decide) ?_
  refine And.intro (show -2147483648 ≤ 14 ∧ 14 < 2147483648 by omega) ?_
  refine And.intro (show 0 ≤ 14 ∧ 14 < 5658 by omega) ?_
  refine And.intro (show -2147483648 ≤ ((0 + (m m_kept_ 12)) + (m m_kept_ 13)) + (m m_kept_ 14) ∧ ((0 + (m m_kept_ 12)) + (m m_kept_ 13)) + (m m_kept_ 14) < 2147483648 by omega) ?_
  refine And.intro (show -2147483648 ≤ 3 ∧ 3 < 2147483648 by omega) ?_
  refine br_f (by decide) ?_
  refine And.intro (show -2147483648 ≤ 15 ∧ 15 < 2147483648 by omega) ?_
  refine And.intro (show 0 ≤ 15 ∧ 15 < 5658 by omega) ?_
  refine And.intro (show -2147483648 ≤ (((0 + (m m_kept_ 12)) + (m m_kept_ 13)) + (m m_kept_ 14)) + (m m_kept_ 15) ∧ (((0 + (m m_kept_ 12)) + (m m_kept_ 13)) + (m m_kept_ 14)) + (m m_kept_ 15) < 2147483648 by omega) ?_
  refine And.intro (show -2147483648 ≤ 4 ∧ 4 < 2147483648 by omega) ?_
  refine br_f (by decide) ?_
  refine And.intro (show -2147483648 ≤ 16 ∧ 16 < 2147483648 by omega) ?_
  refine And.intro (show 0 ≤ 16 ∧ 16 < 5658 by omega) ?_
  refine And.intro (show -2147483648 ≤ ((((0 + (m m_kept_ 12)) + (m m_kept_ 13)) + (m m_kept_ 14)) + (m m_kept_ 15)) + (m m_kept_ 16) ∧ ((((0 + (m m_kept_ 12)) + (m m_kept_ 13)) + (m m_kept_ 14)) + (m m_kept_ 15)) + (m m_kept_ 16) < 2147483648 by omega) ?_
  refine And.intro (show -2147483648 ≤ 5 ∧ 5 < 2147483648 by omega) ?_
  refine br_f (by decide) ?_
  refine And.intro (show -2147483648 ≤ 17 ∧ 17 < 2147483648 by omega) ?_
  refine And.intro (show 0 ≤ 17 ∧ 17 < 5658 by omega) ?_
  refine And.intro (show -2147483648 ≤ (((((0 + (m m_kept_ 12)) + (m m_kept_ 13)) + (m m_kept_ 14)) + (m m_kept_ 15)) + (m m_kept_ 16)) + (m m_kept_ 17) ∧ (((((0 + (m m_kept_ 12)) + (m m_kept_ 13)) + (m m_kept_ 14)) + (m m_kept_ 15)) + (m m_kept_ 16)) + (m m_kept_ 17) < 2147483648 by omega) ?_
  refine And.intro (show -2147483648 ≤ 6 ∧ 6 < 2147483648 by omega) ?_
  refine br_t (by decide) ?_
  show Q (some (vi ((((((0 + (m m_kept_ 12)) + (m m_kept_ 13)) + (m m_kept_ 14)) + (m m_kept_ 15)) + (m m_kept_ 16)) + (m m_kept_ 17)))) (m)
  rw [show (((((0 + (m m_kept_ 12)) + (m m_kept_ 13)) + (m m_kept_ 14)) + (m m_kept_ 15)) + (m m_kept_ 16)) + (m m_kept_ 17) = m m_kept_ 12 + m m_kept_ 13 + m m_kept_ 14 + m m_kept_ 15 + m m_kept_ 16 + m m_kept_ 17 by omega]
  exact h
theorem M_isIn {d : Nat} {m : cw_M} {Q : Option cw_V → cw_M → Prop} (hm : la_ok m) {a b : Int} (h1 : cw_iand (cw_ishr a b) 1 = 1 → Q (some (vi 1)) m) (h0 : cw_iand (cw_ishr a b) 1 ≠ 1 → Q (some (vi 0)) m) : cw_C d k_M_isIn [vi a, vi b] m Q := by
  refine la_go_C hm 13 [] ?_
  refine And.intro (fun (c1 : cw_iand (cw_ishr a b) 1 ≠ 1) => ?_) (fun (c1 : ¬ (cw_iand (cw_ishr a b) 1 ≠ 1)) => ?_)
  · refine And.intro (Or.inl rfl) ?_
    show Q (some (vi 0)) (m)
    exact h0 (by omega)
  · refine And.intro (Or.inr rfl) ?_
    show Q (some (vi 1)) (m)
    exact h1 (by omega)
theorem M_small {d : Nat} {m : cw_M} {Q : Option cw_V → cw_M → Prop} (hm : la_ok m) {v : Int} (h1 : 0 ≤ v → v ≤ 1000000 → Q (some (vi v)) m) (h0 : ¬ (0 ≤ v ∧ v ≤ 1000000) → Q (some (vi (-1))) m) : cw_C d k_M_small [vl v] m Q := by
  refine la_go_C hm 14 [] ?_
  refine And.intro (fun (c1 : cw_lc v 0 < 0) => ?_) (fun (c1 : ¬ (cw_lc v 0 < 0)) => ?_)
  · rw [lc_lt] at c1
    show Q (some (vi (-1))) (m)
    exact h0 (by omega)
  · rw [lc_lt] at c1
    refine And.intro (fun (c2 : cw_lc v 1000000 ≤ 0) => ?_) (fun (c2 : ¬ (cw_lc v 1000000 ≤ 0)) => ?_)
    · rw [lc_le] at c2
      refine And.intro (show -2147483648 ≤ v ∧ v < 2147483648 by omega) ?_
      show Q (some (vi v)) (m)
      exact h1 (by omega) (by omega)
    · rw [lc_le] at c2
      show Q (some (vi (-1))) (m)
      exact h0 (by omega)
theorem M_isLaw {d : Nat} {m : cw_M} {Q : Option cw_V → cw_M → Prop} (hm : la_ok m) {v : Int} (hl : 0 ≤ m m_kept_ 49 ∧ m m_kept_ 49 ≤ 6) (h1 : -1 ≤ v → v < m m_kept_ 49 → Q (some (vi 1)) m) (h0 : ¬ (-1 ≤ v ∧ v < m m_kept_ 49) → Q (some (vi 0)) m) : cw_C (d + 1) k_M_isLaw [vr m_, vi v] m Q := by
  refine la_go_C hm 13 [] ?_
  refine And.intro (show 0 ≤ 49 ∧ 49 < 5658 by omega) ?_
  refine And.intro (show -2147483648 ≤ (m m_kept_ 49) - 1 ∧ (m m_kept_ 49) - 1 < 2147483648 by omega) ?_
  show cw_C _ _ [vi v, vi (-1), vi ((m m_kept_ 49) - 1)] (m) _
  refine M_lies (fun (a1 : (-1) ≤ v) (a2 : v ≤ (m m_kept_ 49) - 1) => ⟨hm, ?_⟩) (fun (a3 : ¬ ((-1) ≤ v ∧ v ≤ (m m_kept_ 49) - 1)) => ⟨hm, ?_⟩)
  · refine And.intro (Or.inr rfl) ?_
    show Q (some (vi 1)) (m)
    exact h1 (by omega) (by omega)
  · refine And.intro (Or.inl rfl) ?_
    show Q (some (vi 0)) (m)
    exact h0 (by omega)
theorem M_isNumber {d : Nat} {m : cw_M} {Q : Option cw_V → cw_M → Prop} (hm : la_ok m) {v : Int} (hl : 0 ≤ m m_ 35 ∧ m m_ 35 ≤ 132) (h1 : 0 ≤ v → v < m m_ 35 → Q (some (vi 1)) m) (h0 : ¬ (0 ≤ v ∧ v < m m_ 35) → Q (some (vi 0)) m) : cw_C (d + 1) k_M_isNumber [vr m_, vi v] m Q := by
  refine la_go_C hm 11 [] ?_
  refine And.intro (show -2147483648 ≤ (m m_ 35) - 1 ∧ (m m_ 35) - 1 < 2147483648 by omega) ?_
  show cw_C _ _ [vi v, vi 0, vi ((m m_ 35) - 1)] (m) _
  refine M_lies (fun (a1 : 0 ≤ v) (a2 : v ≤ (m m_ 35) - 1) => ⟨hm, ?_⟩) (fun (a3 : ¬ (0 ≤ v ∧ v ≤ (m m_ 35) - 1)) => ⟨hm, ?_⟩)
  · refine And.intro (Or.inr rfl) ?_
    show Q (some (vi 1)) (m)
    exact h1 (by omega) (by omega)
  · refine And.intro (Or.inl rfl) ?_
    show Q (some (vi 0)) (m)
    exact h0 (by omega)
theorem M_readings {d : Nat} {m : cw_M} {Q : Option cw_V → cw_M → Prop} (hm : la_ok m) (hc : ∀ j, 0 ≤ j → j < 7 → m m_catalan_ j = t_c j) (hn : 0 ≤ m m_kept_ 46 ∧ m m_kept_ 46 ≤ 7) (hQ : ∀ lo hi mk to, t_L (m m_kept_ 46 - 1) (t_tm (m m_kept_ 46)) lo hi → (∀ j, 0 ≤ j → j < 6 → mk j = m m_kept_ j) → (∀ i, 0 ≤ i → i < ((r_l (m m_kept_) (m m_kept_ 46)).length : Int) → to i = t_g (r_l (m m_kept_) (m m_kept_ 46)) i) → Q (some (vi ((r_l (m m_kept_) (m m_kept_ 46)).length : Int))) (r_m m lo hi mk to (t_tm (m m_kept_ 46)) ((r_l (m m_kept_) (m m_kept_ 46)).length : Int))) : cw_C (d + 9) k_M_readings [vr m_] m Q := by
  refine la_go_C hm 8 [] ?_
  show cw_C _ _ [vr m_] (m) _
  refine M_laysReadings hm hc hn (fun lo hi mk to hL hmk hto => ⟨(r_m_ok hm), ?_⟩)
  show Q (some (vi ((r_l (m m_kept_) (m m_kept_ 46)).length : Int))) (r_m m lo hi mk to (t_tm (m m_kept_ 46)) ((r_l (m m_kept_) (m m_kept_ 46)).length : Int))
  exact hQ lo hi mk to hL hmk hto
theorem M_laysAside {d : Nat} {m : cw_M} {Q : Option cw_V → cw_M → Prop} (hm : la_ok m) {q : Int} (hq : 0 ≤ q ∧ q ≤ 1) (h : Q none (cw_row m m_aside_ (t_w (m m_aside_) (19 * q) 0 19 (fun x => m m_kept_ x)))) : cw_C d k_M_laysAside [vr m_, vi q] m Q := by
  have lp : ∀ (r : Nat) (k : Int), 19 < k + r → (0 ≤ k ∧ k ≤ 19) → cw_R (d) k_M_laysAside 2 [vr m_, vi q, vi k] [] (cw_row m m_aside_ (t_w (m m_aside_) (19 * q) 0 k (fun x => m m_kept_ x))) Q := by
    intro r
    induction r with
    | zero =>
      intro k hr hk
      omega
    | succ r ih =>
      intro k hr hk
      refine la_go_R (la_row hm (by decide) (by decide)) 20 [2] ?_
      refine And.intro (fun (c1 : 19 ≤ k) => ?_) (fun (c1 : ¬ (19 ≤ k)) => ?_)
      · show Q none (cw_row m m_aside_ (t_w (m m_aside_) (19 * q) 0 k (fun x => m m_kept_ x)))
        rw [show k = 19 by omega]
        exact h
      · refine And.intro (show -2147483648 ≤ 19 * q ∧ 19 * q < 2147483648 by omega) ?_
        refine And.intro (show -2147483648 ≤ (19 * q) + k ∧ (19 * q) + k < 2147483648 by omega) ?_
        refine And.intro (show 0 ≤ k ∧ k < 5658 by omega) ?_
        refine And.intro (show 0 ≤ (19 * q) + k ∧ (19 * q) + k < 38 by omega) ?_
        have hm2 : la_ok (cw_put (cw_row m m_aside_ (t_w (m m_aside_) (19 * q) 0 k (fun x => m m_kept_ x))) m_aside_ ((19 * q) + k) (m m_kept_ k)) := la_put (la_row hm (by decide) (by decide)) (by decide) (Or.inr (by decide))
        refine And.intro (show -2147483648 ≤ k + 1 ∧ k + 1 < 2147483648 by omega) ?_
        show cw_R _ _ 2 [vr m_, vi q, vi (k + 1)] [] (cw_put (cw_row m m_aside_ (t_w (m m_aside_) (19 * q) 0 k (fun x => m m_kept_ x))) m_aside_ ((19 * q) + k) (m m_kept_ k)) _
        refine la_go_R0 (m' := cw_row m m_aside_ (t_w (m m_aside_) (19 * q) 0 (k + 1) (fun x => m m_kept_ x))) (by rw [cw_row_put]; congr 1; refine Eq.trans ?_ (t_w_s hk.1); congr 1 <;> first | omega | rfl) ?_
        exact ih (k + 1) (by omega) (by omega)
  refine la_go_C hm 5 [2] ?_
  show cw_R _ _ 2 [vr m_, vi q, vi 0] [] (m) _
  refine la_go_R0 (m' := cw_row m m_aside_ (t_w (m m_aside_) (19 * q) 0 0 (fun x => m m_kept_ x))) (by rw [t_w0, cw_row_self]) ?_
  exact lp (19 + 1) 0 (by omega) (by omega)
theorem M_takesBack {d : Nat} {m : cw_M} {Q : Option cw_V → cw_M → Prop} (hm : la_ok m) {q : Int} (hq : 0 ≤ q ∧ q ≤ 1) (h : Q none (cw_row m m_kept_ (t_w (m m_kept_) (0) 0 19 (fun x => m m_aside_ (19 * q + x))))) : cw_C d k_M_takesBack [vr m_, vi q] m Q := by
  have lp : ∀ (r : Nat) (k : Int), 19 < k + r → (0 ≤ k ∧ k ≤ 19) → cw_R (d) k_M_takesBack 2 [vr m_, vi q, vi k] [] (cw_row m m_kept_ (t_w (m m_kept_) (0) 0 k (fun x => m m_aside_ (19 * q + x)))) Q := by
    intro r
    induction r with
    | zero =>
      intro k hr hk
      omega
    | succ r ih =>
      intro k hr hk
      refine la_go_R (la_row hm (by decide) (by decide)) 20 [2] ?_
      refine And.intro (fun (c1 : 19 ≤ k) => ?_) (fun (c1 : ¬ (19 ≤ k)) => ?_)
      · show Q none (cw_row m m_kept_ (t_w (m m_kept_) (0) 0 k (fun x => m m_aside_ (19 * q + x))))
        rw [show k = 19 by omega]
        exact h
      · refine And.intro (show -2147483648 ≤ 19 * q ∧ 19 * q < 2147483648 by omega) ?_
        refine And.intro (show -2147483648 ≤ (19 * q) + k ∧ (19 * q) + k < 2147483648 by omega) ?_
        refine And.intro (show 0 ≤ (19 * q) + k ∧ (19 * q) + k < 38 by omega) ?_
        refine And.intro (show 0 ≤ k ∧ k < 5658 by omega) ?_
        have hm2 : la_ok (cw_put (cw_row m m_kept_ (t_w (m m_kept_) (0) 0 k (fun x => m m_aside_ (19 * q + x)))) m_kept_ k (m m_aside_ ((19 * q) + k))) := la_put (la_row hm (by decide) (by decide)) (by decide) (Or.inr (by decide))
        refine And.intro (show -2147483648 ≤ k + 1 ∧ k + 1 < 2147483648 by omega) ?_
        show cw_R _ _ 2 [vr m_, vi q, vi (k + 1)] [] (cw_put (cw_row m m_kept_ (t_w (m m_kept_) (0) 0 k (fun x => m m_aside_ (19 * q + x)))) m_kept_ k (m m_aside_ ((19 * q) + k))) _
        refine la_go_R0 (m' := cw_row m m_kept_ (t_w (m m_kept_) (0) 0 (k + 1) (fun x => m m_aside_ (19 * q + x)))) (by rw [cw_row_put]; congr 1; refine Eq.trans ?_ (t_w_s hk.1); congr 1 <;> first | omega | rfl) ?_
        exact ih (k + 1) (by omega) (by omega)
  refine la_go_C hm 5 [2] ?_
  show cw_R _ _ 2 [vr m_, vi q, vi 0] [] (m) _
  refine la_go_R0 (m' := cw_row m m_kept_ (t_w (m m_kept_) (0) 0 0 (fun x => m m_aside_ (19 * q + x)))) (by rw [t_w0, cw_row_self]) ?_
  exact lp (19 + 1) 0 (by omega) (by omega)
