/-! Few slips, by the reference (wip/whole/tools/m97.py). -/
/-- one more mark: of the first k chances, slips s -/
def w_1 (s : Int) (c : Int → Int) (i : Int) : Int := c i * (10 - s) / 10 + (if 0 < i then c (i - 1) * s / 10 else 0)
def w_n (s : Int) : Nat → Int → Int
  | 0 => fun i => if i = 0 then 1000000000000 else 0
  | n + 1 => w_1 s (w_n s n)
theorem w_nr {s : Int} (hs : 0 ≤ s ∧ s ≤ 10) : ∀ (n : Nat) (i : Int), 0 ≤ w_n s n i ∧ w_n s n i ≤ 1000000000000
  | 0, i => by show 0 ≤ (if i = 0 then (1000000000000 : Int) else 0) ∧ (if i = 0 then (1000000000000 : Int) else 0) ≤ _; split <;> omega
  | n + 1, i => by
    show 0 ≤ w_1 s (w_n s n) i ∧ w_1 s (w_n s n) i ≤ _
    have a := w_nr hs n i
    have b := w_nr hs n (i - 1)
    have a0 : 0 ≤ w_n s n i * (10 - s) := Int.mul_nonneg a.1 (by omega)
    have a1 : w_n s n i * (10 - s) ≤ 1000000000000 * (10 - s) := Int.mul_le_mul_of_nonneg_right a.2 (by omega)
    have b0 : 0 ≤ w_n s n (i - 1) * s := Int.mul_nonneg b.1 (by omega)
    have b1 : w_n s n (i - 1) * s ≤ 1000000000000 * s := Int.mul_le_mul_of_nonneg_right b.2 (by omega)
    unfold w_1
    split <;> omega
theorem w_mu {s c : Int} (hs : 0 ≤ s ∧ s ≤ 10) (hc : 0 ≤ c ∧ c ≤ 1000000000000) : (0 ≤ c * s ∧ c * s ≤ 10000000000000) ∧ 0 ≤ c * (10 - s) ∧ c * (10 - s) ≤ 10000000000000 := by
  have a0 : 0 ≤ c * (10 - s) := Int.mul_nonneg hc.1 (by omega)
  have a1 : c * (10 - s) ≤ 1000000000000 * (10 - s) := Int.mul_le_mul_of_nonneg_right hc.2 (by omega)
  have b0 : 0 ≤ c * s := Int.mul_nonneg hc.1 (by omega)
  have b1 : c * s ≤ 1000000000000 * s := Int.mul_le_mul_of_nonneg_right hc.2 (by omega)
  omega
def w_s (c : Int → Int) : Nat → Int
  | 0 => 0
  | n + 1 => w_s c n + c n
theorem w_s1 {c : Int → Int} {i x : Int} (hi : 0 ≤ i) (hx : x = c i) : w_s c i.toNat + x = w_s c (i + 1).toNat := by
  rw [show (i + 1).toNat = i.toNat + 1 by omega, hx]
  show _ = w_s c i.toNat + c ((i.toNat : Nat) : Int)
  rw [show ((i.toNat : Nat) : Int) = i by omega]
theorem w_sr {c : Int → Int} (h : ∀ i, 0 ≤ c i ∧ c i ≤ 1000000000000) : ∀ n : Nat, 0 ≤ w_s c n ∧ w_s c n ≤ 1000000000000 * n
  | 0 => ⟨Int.le_refl 0, by show (0 : Int) ≤ _; omega⟩
  | n + 1 => by
    have a := w_sr h n
    have b := h n
    show 0 ≤ w_s c n + c n ∧ w_s c n + c n ≤ _
    omega
def q_few (K : Int → Int) (k n : Int) : Int := if (1 ≤ k ∧ k ≤ 20) ∧ 0 ≤ n ∧ n ≤ 99 then w_s (w_n (K 45) n.toNat) k.toNat else -1
theorem M_few151 {d : Nat} {m : cw_M} {Q : Option cw_V → cw_M → Prop} (hm : la_ok m) {c W : Int → Int} {k n : Int} (hk : 1 ≤ k ∧ k ≤ 20) (hWr : ∀ i, 0 ≤ W i ∧ W i ≤ 1000000000000) (hcW : ∀ i, 0 ≤ i → i < k → c i = W i) (hQ : Q (some (vl (w_s W k.toNat))) (cw_row m m_parts_ c)) : cw_R (d + 1) k_M_few 151 [vr m_, vi k, vi n, vl 0, none, vi 0] [] (cw_row m m_parts_ c) Q := by
  have hm2 : la_ok (cw_row m m_parts_ c) := la_row hm (by decide) (by decide)
  have l151 : ∀ (r : Nat) (i : Int), k < i + r → (0 ≤ i ∧ i ≤ k) → cw_R (d + 1) k_M_few 151 [vr m_, vi k, vi n, vl (w_s W i.toNat), none, vi i] [] (cw_row m m_parts_ c) Q := by
    intro r
    induction r with
    | zero =>
      intro i hr hi
      omega
    | succ r ih =>
      intro i hr hi
      have sr := w_sr hWr i.toNat
      have cv := hWr i
      have cw := hcW i hi.1
      refine la_go_R hm2 15 [151] ?_
      refine And.intro (fun (c21 : k ≤ i) => ?_) (fun (c21 : ¬ (k ≤ i)) => ?_)
      · show Q (some (vl (w_s W i.toNat))) (cw_row m m_parts_ c)
        rw [show i.toNat = k.toNat by omega]
        exact hQ
      · refine And.intro (show 0 ≤ i ∧ i < 21 by omega) ?_
        refine And.intro (show -9223372036854775808 ≤ (w_s W i.toNat) + (c i) ∧ (w_s W i.toNat) + (c i) < 9223372036854775808 by have e := cw (by omega); omega) ?_
        refine And.intro (show -2147483648 ≤ i + 1 ∧ i + 1 < 2147483648 by omega) ?_
        show cw_R _ _ 151 [vr m_, vi k, vi n, vl ((w_s W i.toNat) + (c i)), none, vi (i + 1)] [] (cw_row m m_parts_ c) _
        rw [w_s1 hi.1 (hcW i hi.1 (by omega))]
        exact ih (i + 1) (by omega) (by omega)
  exact l151 (k.toNat + 1) 0 (by omega) (by omega)
def w_m (m : cw_M) (ch : Int → Int) : cw_M := fun c => if c = m_parts_ then ch else m c
theorem w_m_ne {m : cw_M} {ch : Int → Int} {c : Int} (h0 : c ≠ m_parts_) : w_m m ch c = m c := by
  unfold w_m; rw [if_neg h0]
theorem w_m_ch {m : cw_M} {ch : Int → Int} : w_m m ch m_parts_ = ch := rfl
theorem w_m_ok {m : cw_M} {ch : Int → Int} (hm : la_ok m) : la_ok (w_m m ch) := by
  refine ⟨by rw [w_m_ne (by decide)]; exact hm.1, fun e he => ?_⟩
  obtain ⟨z1, h2, -, z4⟩ := la_lok e he
  have n0 : e.1 ≠ m_parts_ := fun q => by rw [q] at h2; revert h2; decide
  rw [w_m_ne n0 ]; exact hm.2 e he
theorem w_m_x {m M : cw_M} {ch : Int → Int} (r0 : M m_parts_ = ch)   (h : ∀ c, c ≠ m_parts_ → M c = m c) : M = w_m m ch := by
  funext c
  by_cases h0 : c = m_parts_
  · rw [h0, r0]; rfl
  rw [h c h0, w_m_ne h0]
theorem w_m_rch {m : cw_M} {ch : Int → Int} {f : Int → Int} : cw_row (w_m m ch) m_parts_ f = w_m m f := by
  refine w_m_x rfl  (fun c h0 => by rw [cw_row_ne h0, w_m_ne h0])
theorem w_m_pch {m : cw_M} {ch : Int → Int} {i v : Int} : cw_put (w_m m ch) m_parts_ i v = w_m m (cw_up ch i v) := by
  rw [cw_put_row, w_m_rch, w_m_ch]
theorem w_m_2 {m : cw_M} {ch : Int → Int} {ch' : Int → Int} : w_m (w_m m ch) ch' = w_m m ch' := by
  refine w_m_x rfl  (fun c h0 => by rw [w_m_ne h0, w_m_ne h0])
theorem w_m_self {m : cw_M} : w_m m (m m_parts_)  = m := by
  refine (w_m_x rfl  (fun _ _ => rfl)).symm
theorem t_10 {x : Int} (h : 0 ≤ x) : Int.tdiv x 10 = x / 10 := Int.tdiv_eq_ediv_of_nonneg h
theorem w_mr {m : cw_M} {f : Int → Int} : cw_row m m_parts_ f = w_m m f := by
  rw [← w_m_self (m := m), w_m_rch, w_m_2]
theorem M_few67 {d : Nat} {m : cw_M} {Q : Option cw_V → cw_M → Prop} (hm : la_ok m) (hK : K_r (m m_kept_)) {c W : Int → Int} {k n q : Int} {w5 : cw_V} (hk : 1 ≤ k ∧ k ≤ 20) (hq : 0 ≤ q ∧ q < 99) (hWr : ∀ i, 0 ≤ W i ∧ W i ≤ 1000000000000) (hcW : ∀ i, 0 ≤ i → i < k → c i = W i) (hck : 0 ≤ c k ∧ c k ≤ 1000000000000 * q) (fin : ∀ (c2 : Int → Int) (w5 : cw_V), (∀ i, 0 ≤ i → i < k → c2 i = w_1 (m m_kept_ 45) W i) → 0 ≤ c2 k ∧ c2 k ≤ 1000000000000 * (q + 1) → cw_R (d + 1) k_M_few 57 [vr m_, vi k, vi n, vi (q + 1), vi (-1), w5] [] (w_m m c2) Q) : cw_R (d + 1) k_M_few 67 [vr m_, vi k, vi n, vi q, vi (k - 1), w5] [] (w_m m c) Q := by
  have hs : 0 ≤ m m_kept_ 45 ∧ m m_kept_ 45 ≤ 10 := hK.2.2.2.2.2.2.2.2.1
  have l67 : ∀ (r : Nat) (i : Int) (c : Int → Int) (w5 : cw_V), i + 1 < r → (-1 ≤ i ∧ i < k) → ((∀ z, 0 ≤ z → z ≤ i → c z = W z) ∧ (∀ z, i + 1 < z → z < k → c z = w_1 (m m_kept_ 45) W z) ∧ (0 ≤ i + 1 → i + 1 < k → c (i + 1) = W (i + 1) * (10 - (m m_kept_ 45)) / 10) ∧ (0 ≤ c k ∧ c k ≤ 1000000000000 * (q + (if i + 1 = k then 0 else 1)))) → cw_R (d + 1) k_M_few 67 [vr m_, vi k, vi n, vi q, vi i, w5] [] (w_m m c) Q := by
    intro r
    induction r with
    | zero =>
      intro i c w5 hr hi hv
      omega
    | succ r ih =>
      intro i c w5 hr hi hv
      have hm2 : la_ok (w_m m c) := w_m_ok hm
      have wi := hWr i
      have ck := hv.2.2.2
      have ck : 0 ≤ c k ∧ c k ≤ 100000000000000 := by
        split at ck <;> omega
      have cI : 0 ≤ i → c i = W i := fun z => hv.1 i z (Int.le_refl _)
      have wi1 := hWr (i + 1)
      have mi := w_mu (s := (m m_kept_ 45)) (c := W i) hs (by omega)
      have mi1 := w_mu (s := (m m_kept_ 45)) (c := W (i + 1)) hs (by omega)
      have cI1 : 0 ≤ i → 0 ≤ c (i + 1) ∧ c (i + 1) ≤ 100000000000000 := fun z => by
        by_cases e : i + 1 = k
        · rw [e]; exact ck
        · rw [hv.2.2.1 (by omega) (by omega)]; omega
      refine la_go_R hm2 46 [57, 67] ?_
      refine And.intro (fun (c21 : i < 0) => ?_) (fun (c21 : ¬ (i < 0)) => ?_)
      · refine And.intro (show -2147483648 ≤ q + 1 ∧ q + 1 < 2147483648 by omega) ?_
        show cw_R _ _ 57 [vr m_, vi k, vi n, vi (q + 1), vi i, w5] [] (w_m m c) _
        rw [show i = (-1 : Int) by omega]
        refine fin c w5 (fun z z0 z1 => ?_) (by have := hv.2.2.2; rw [if_neg (by omega)] at this; omega)
        by_cases e : z = i + 1
        · rw [e]; unfold w_1; rw [if_neg (by omega), hv.2.2.1 (by omega) (by omega)]; omega
        · exact hv.2.1 z (by omega) z1
      · refine And.intro (show -2147483648 ≤ i + 1 ∧ i + 1 < 2147483648 by omega) ?_
        refine And.intro (show 0 ≤ i + 1 ∧ i + 1 < 21 by omega) ?_
        refine And.intro (show 0 ≤ i ∧ i < 21 by omega) ?_
        refine And.intro (show 0 ≤ 45 ∧ 45 < 5658 by omega) ?_
        refine And.intro (show -9223372036854775808 ≤ (c i) * (m m_kept_ 45) ∧ (c i) * (m m_kept_ 45) < 9223372036854775808 by rw [cI (by omega)]; omega) ?_
        refine And.intro (show (10 : Int) ≠ 0 ∧ -9223372036854775808 ≤ Int.tdiv ((c i) * (m m_kept_ 45)) 10 ∧ Int.tdiv ((c i) * (m m_kept_ 45)) 10 < 9223372036854775808 by rw [cI (by omega), t_10 (by omega)]; omega) ?_
        refine And.intro (show -9223372036854775808 ≤ (c (i + 1)) + (Int.tdiv ((c i) * (m m_kept_ 45)) 10) ∧ (c (i + 1)) + (Int.tdiv ((c i) * (m m_kept_ 45)) 10) < 9223372036854775808 by have c2 := cI1 (by omega); rw [cI (by omega), t_10 (by omega)]; omega) ?_
        refine And.intro (show 0 ≤ i + 1 ∧ i + 1 < 21 by omega) ?_
        have hm22 : la_ok (cw_put (w_m m c) m_parts_ (i + 1) ((c (i + 1)) + (Int.tdiv ((c i) * (m m_kept_ 45)) 10))) := la_put hm2 (by decide) (Or.inr (by decide))
        refine And.intro (show 0 ≤ i ∧ i < 21 by omega) ?_
        have e23 : (cw_put (w_m m c) m_parts_ (i + 1) ((c (i + 1)) + (Int.tdiv ((c i) * (m m_kept_ 45)) 10))) m_parts_ i = c i := cw_put_off (by omega)
        refine And.intro (show 0 ≤ 45 ∧ 45 < 5658 by omega) ?_
        refine And.intro (show -2147483648 ≤ 10 - (m m_kept_ 45) ∧ 10 - (m m_kept_ 45) < 2147483648 by omega) ?_
        refine And.intro (show -9223372036854775808 ≤ ((cw_put (w_m m c) m_parts_ (i + 1) ((c (i + 1)) + (Int.tdiv ((c i) * (m m_kept_ 45)) 10))) m_parts_ i) * (10 - (m m_kept_ 45)) ∧ ((cw_put (w_m m c) m_parts_ (i + 1) ((c (i + 1)) + (Int.tdiv ((c i) * (m m_kept_ 45)) 10))) m_parts_ i) * (10 - (m m_kept_ 45)) < 9223372036854775808 by rw [e23, cI (by omega)]; omega) ?_
        refine And.intro (show (10 : Int) ≠ 0 ∧ -9223372036854775808 ≤ Int.tdiv (((cw_put (w_m m c) m_parts_ (i + 1) ((c (i + 1)) + (Int.tdiv ((c i) * (m m_kept_ 45)) 10))) m_parts_ i) * (10 - (m m_kept_ 45))) 10 ∧ Int.tdiv (((cw_put (w_m m c) m_parts_ (i + 1) ((c (i + 1)) + (Int.tdiv ((c i) * (m m_kept_ 45)) 10))) m_parts_ i) * (10 - (m m_kept_ 45))) 10 < 9223372036854775808 by rw [e23, cI (by omega), t_10 (by omega)]; omega) ?_
        refine And.intro (show 0 ≤ i ∧ i < 21 by omega) ?_
        have hm24 : la_ok (cw_put (cw_put (w_m m c) m_parts_ (i + 1) ((c (i + 1)) + (Int.tdiv ((c i) * (m m_kept_ 45)) 10))) m_parts_ i (Int.tdiv (((cw_put (w_m m c) m_parts_ (i + 1) ((c (i + 1)) + (Int.tdiv ((c i) * (m m_kept_ 45)) 10))) m_parts_ i) * (10 - (m m_kept_ 45))) 10)) := la_put hm22 (by decide) (Or.inr (by decide))
        refine And.intro (show -2147483648 ≤ i + (-1) ∧ i + (-1) < 2147483648 by omega) ?_
        show cw_R _ _ 67 [vr m_, vi k, vi n, vi q, vi (i + (-1)), w5] [] (cw_put (cw_put (w_m m c) m_parts_ (i + 1) ((c (i + 1)) + (Int.tdiv ((c i) * (m m_kept_ 45)) 10))) m_parts_ i (Int.tdiv (((cw_put (w_m m c) m_parts_ (i + 1) ((c (i + 1)) + (Int.tdiv ((c i) * (m m_kept_ 45)) 10))) m_parts_ i) * (10 - (m m_kept_ 45))) 10)) _
        rw [e23, w_m_pch, w_m_pch]
        have ci := hv.1 i (by omega) (by omega)
        have wi := hWr i
        have wi1 := hWr (i + 1)
        have mi := w_mu (s := (m m_kept_ 45)) (c := W i) hs (by omega)
        have mi1 := w_mu (s := (m m_kept_ 45)) (c := W (i + 1)) hs (by omega)
        have eC : ∀ z, (cw_up (cw_up c (i + 1) (c (i + 1) + Int.tdiv (c i * (m m_kept_ 45)) 10)) i (Int.tdiv (c i * (10 - (m m_kept_ 45))) 10)) z = if z = i then W i * (10 - (m m_kept_ 45)) / 10 else if z = i + 1 then c (i + 1) + W i * (m m_kept_ 45) / 10 else c z := by
          intro z
          by_cases z1 : z = i
          · rw [z1, cw_up_eq, if_pos rfl]
            rw [ci, t_10 (by omega)]
          · rw [cw_up_ne z1, if_neg z1]
            by_cases z2 : z = i + 1
            · rw [z2, cw_up_eq, if_pos rfl, ci, t_10 (by omega)]
            · rw [cw_up_ne z2, if_neg z2]
        refine ih (i + -1) _ w5 (by omega) (by omega) ⟨fun z z0 z1 => ?_, fun z z0 z1 => ?_, fun z0 z1 => ?_, ?_⟩
        · rw [eC z, if_neg (by omega), if_neg (by omega)]; exact hv.1 z z0 (by omega)
        · rw [eC z, if_neg (by omega)]
          by_cases e : z = i + 1
          · rw [if_pos e, e]; unfold w_1; rw [if_pos (by omega), hv.2.2.1 (by omega) (by omega), show i + 1 - 1 = i by omega]
          · rw [if_neg e]; exact hv.2.1 z (by omega) z1
        · rw [show i + -1 + 1 = i by omega, eC i, if_pos rfl]
        · rw [eC k, if_neg (by omega), if_neg (show ¬ i + -1 + 1 = k by omega)]
          have ck := hv.2.2.2
          by_cases e : k = i + 1
          · rw [if_pos e]; rw [if_pos (by omega), e] at ck; omega
          · rw [if_neg e]; rw [if_neg (by omega)] at ck; exact ck
  exact l67 (k.toNat + 1) (k - 1) c w5 (by omega) (by omega) ⟨fun z z0 z1 => hcW z z0 (by omega), fun z z0 z1 => by omega, fun z0 z1 => by omega, by rw [if_pos (by omega)]; omega⟩
theorem M_few {d : Nat} {m : cw_M} {Q : Option cw_V → cw_M → Prop} (hm : la_ok m) (hK : K_r (m m_kept_)) {k n : Int} (h : ∀ M, la_ok M → S_f m M → Q (some (vl (q_few (m m_kept_) k n))) M) : cw_C (d + 1) k_M_few [vr m_, vi k, vi n] m Q := by
  refine la_go_C hm 15 [26] ?_
  show cw_C _ _ [vi k, vi 1, vi 20] (m) _
  refine M_lies (fun (a21 : 1 ≤ k) (a22 : k ≤ 20) => ⟨hm, ?_⟩) (fun (a23 : ¬ (1 ≤ k ∧ k ≤ 20)) => ⟨hm, ?_⟩)
  · refine br_f (show ¬ ((1 : Int) = 0) by decide) ?_
    show cw_C _ _ [vi n, vi 0, vi 99] (m) _
    refine M_lies (fun (a24 : 0 ≤ n) (a25 : n ≤ 99) => ⟨hm, ?_⟩) (fun (a26 : ¬ (0 ≤ n ∧ n ≤ 99)) => ⟨hm, ?_⟩)
    · refine br_t (show (1 : Int) ≠ 0 by decide) ?_
      show cw_R _ _ 26 [vr m_, vi k, vi n, vi 0, none, none] [] (m) _
      have hk : 1 ≤ k ∧ k ≤ 20 := by omega
      have hn : 0 ≤ n ∧ n ≤ 99 := by omega
      have hs : 0 ≤ m m_kept_ 45 ∧ m m_kept_ 45 ≤ 10 := hK.2.2.2.2.2.2.2.2.1
      have e : q_few (m m_kept_) k n = w_s (w_n (m m_kept_ 45) n.toNat) k.toNat := by unfold q_few; rw [if_pos ⟨hk, hn⟩]
      rw [e] at h
      have hQ : ∀ c, Q (some (vl (w_s (w_n (m m_kept_ 45) n.toNat) k.toNat))) (w_m m c) := fun c => h _ (w_m_ok hm) ⟨fun z a1 a2 a3 a4 a5 a6 a7 a8 a9 b1 b2 => w_m_ne b1, fun j a1 a2 a3 a4 a5 a6 a7 => by rw [w_m_ne (by decide)]⟩
      have l57 : ∀ (r : Nat) (q : Int) (c : Int → Int) (w4 w5 : cw_V), n < q + r → (0 ≤ q ∧ q ≤ n) → (∀ i, 0 ≤ i → i < k → c i = (w_n (m m_kept_ 45) q.toNat) i) → (0 ≤ c k ∧ c k ≤ 1000000000000 * q) → cw_R (d + 1) k_M_few 57 [vr m_, vi k, vi n, vi q, w4, w5] [] (w_m m c) Q := by
        intro r
        induction r with
        | zero =>
          intro q c w4 w5 hr hq hcW hck
          omega
        | succ r ih =>
          intro q c w4 w5 hr hq hcW hck
          have hm2 : la_ok (w_m m c) := w_m_ok hm
          refine la_go_R hm2 10 [57, 67, 151] ?_
          refine And.intro (fun (c21 : n ≤ q) => ?_) (fun (c21 : ¬ (n ≤ q)) => ?_)
          · show cw_R _ _ 151 [vr m_, vi k, vi n, vl 0, none, vi 0] [] (w_m m c) _
            refine la_go_R0 w_mr.symm ?_
            exact M_few151 hm hk (w_nr hs q.toNat) hcW (by rw [w_mr]; rw [show q.toNat = n.toNat by omega]; exact hQ c)
          · refine And.intro (show -2147483648 ≤ k - 1 ∧ k - 1 < 2147483648 by omega) ?_
            show cw_R _ _ 67 [vr m_, vi k, vi n, vi q, vi (k - 1), w5] [] (w_m m c) _
            exact M_few67 hm hK hk (by omega) (w_nr hs q.toNat) hcW hck (fun c2 w5 h2 h3 => ih (q + 1) c2 _ _ (by omega) (by omega) (fun i a b => by rw [show (q + 1).toNat = q.toNat + 1 by omega]; exact h2 i a b) h3)
      have l26 : ∀ (r : Nat) (i : Int) (c : Int → Int) (w4 w5 : cw_V), 21 < i + r → (0 ≤ i ∧ i ≤ 21) → (∀ z, 0 ≤ z → z < i → c z = if z = 0 then 1000000000000 else 0) → cw_R (d + 1) k_M_few 26 [vr m_, vi k, vi n, vi i, w4, w5] [] (w_m m c) Q := by
        intro r
        induction r with
        | zero =>
          intro i c w4 w5 hr hi hv
          omega
        | succ r ih =>
          intro i c w4 w5 hr hi hv
          have hm0 : la_ok m := hm
          have hm2 : la_ok (w_m m c) := w_m_ok hm
          refine la_go_R hm2 16 [26, 57] ?_
          refine And.intro (fun (c21 : 20 < i) => ?_) (fun (c21 : ¬ (20 < i)) => ?_)
          · show cw_R _ _ 57 [vr m_, vi k, vi n, vi 0, w4, w5] [] (w_m m c) _
            exact l57 (n.toNat + 1) 0 c _ _ (by omega) (by omega) (fun z z0 z1 => hv z z0 (by omega)) (by rw [hv k (by omega) (by omega), if_neg (by omega)]; omega)
          · refine And.intro (fun (c22 : i ≠ 0) => ?_) (fun (c22 : ¬ (i ≠ 0)) => ?_)
            · refine And.intro (show 0 ≤ i ∧ i < 21 by omega) ?_
              have hm23 : la_ok (cw_put (w_m m c) m_parts_ i 0) := la_put hm2 (by decide) (Or.inr (by decide))
              refine And.intro (show -2147483648 ≤ i + 1 ∧ i + 1 < 2147483648 by omega) ?_
              show cw_R _ _ 26 [vr m_, vi k, vi n, vi (i + 1), w4, w5] [] (cw_put (w_m m c) m_parts_ i 0) _
              rw [w_m_pch]
              have hm24 : la_ok (w_m m (cw_up c i 0)) := w_m_ok hm0
              refine ih (i + 1) _ _ _ (by omega) (by omega) (fun z z0 z1 => ?_)
              by_cases e : z = i
              · rw [e, cw_up_eq, if_neg (by omega)]
              · rw [cw_up_ne e]; exact hv z z0 (by omega)
            · refine And.intro (show 0 ≤ i ∧ i < 21 by omega) ?_
              have hm25 : la_ok (cw_put (w_m m c) m_parts_ i 1000000000000) := la_put hm2 (by decide) (Or.inr (by decide))
              refine And.intro (show -2147483648 ≤ i + 1 ∧ i + 1 < 2147483648 by omega) ?_
              show cw_R _ _ 26 [vr m_, vi k, vi n, vi (i + 1), w4, w5] [] (cw_put (w_m m c) m_parts_ i 1000000000000) _
              rw [w_m_pch]
              have hm26 : la_ok (w_m m (cw_up c i 1000000000000)) := w_m_ok hm0
              refine ih (i + 1) _ _ _ (by omega) (by omega) (fun z z0 z1 => ?_)
              by_cases e : z = i
              · rw [e, cw_up_eq, if_pos (by omega)]
              · rw [cw_up_ne e]; exact hv z z0 (by omega)
      refine la_go_R0 w_m_self.symm ?_
      exact l26 22 0 _ _ _ (by omega) (by omega) (fun z z0 z1 => by omega)
    · refine br_f (show ¬ ((0 : Int) ≠ 0) by decide) ?_
      show Q (some (vl (-1))) (m)
      have e : q_few (m m_kept_) k n = -1 := by unfold q_few; rw [if_neg (by omega)]
      rw [e] at h
      exact h m hm S_fr
  · refine br_t (show (0 : Int) = 0 by decide) ?_
    show Q (some (vl (-1))) (m)
    have e : q_few (m m_kept_) k n = -1 := by unfold q_few; rw [if_neg (by omega)]
    rw [e] at h
    exact h m hm S_fr
