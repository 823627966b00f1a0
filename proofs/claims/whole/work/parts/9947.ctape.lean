/-! The tape, rows of it, by the class (wip/whole/tools/m147.py). -/
theorem n_255 (k : Nat) : k &&& 255 = k % 256 := by
  first
    | exact Nat.and_two_pow_sub_one_eq_mod k 8
    | exact Nat.and_pow_two_sub_one_eq_mod k 8
    | exact Nat.and_pow_two_is_mod k 8
theorem i_255 (x : Int) : cw_iand x 255 = x % 256 := by
  have e : cw_iand x 255 = (BitVec.ofInt 32 x &&& 255#32).toInt := rfl
  have n : (BitVec.ofInt 32 x &&& 255#32).toNat = (x % 4294967296).toNat % 256 := by
    rw [BitVec.toNat_and, BitVec.toNat_ofInt]
    show (x % ((2 ^ 32 : Nat) : Int)).toNat &&& 255 = _
    rw [n_255]
    rfl
  rw [e, BitVec.toInt_eq_toNat_of_lt (by rw [n]; omega), n]
  omega
theorem i_255b {x : Int} : (0 ≤ cw_iand x 255 ∧ cw_iand x 255 ≤ 255) ∧ cw_i2b (cw_iand x 255) = cw_i2b x := by
  rw [i_255]
  unfold cw_i2b
  omega
def rx_m (m : cw_M) (ba : Int → Int) (le : Int) : cw_M := fun c => if c = x_reader_bytes_ then ba else if c = x_reader_ then (fun j => if j = 1 then le else m x_reader_ j) else m c
theorem rx_m_ne {m : cw_M} {ba : Int → Int} {le : Int} {c : Int} (h0 : c ≠ x_reader_bytes_) (h1 : c ≠ x_reader_) : rx_m m ba le c = m c := by
  unfold rx_m; rw [if_neg h0, if_neg h1]
theorem rx_m_ba {m : cw_M} {ba : Int → Int} {le : Int} : rx_m m ba le x_reader_bytes_ = ba := rfl
theorem rx_m_ox_reader_ {m : cw_M} {ba : Int → Int} {le : Int} {j : Int} (h0 : j ≠ 1) : rx_m m ba le x_reader_ j = m x_reader_ j := by
  show (if j = 1 then le else m x_reader_ j) = _
  rw [if_neg h0]
theorem rx_m_ok {m : cw_M} {ba : Int → Int} {le : Int} (hm : la_ok m) : la_ok (rx_m m ba le) := by
  refine ⟨by rw [rx_m_ne (by decide) (by decide)]; exact hm.1, fun e he => ?_⟩
  obtain ⟨z1, h2, -, z4⟩ := la_lok e he
  have n0 : e.1 ≠ x_reader_bytes_ := fun q => by rw [q] at h2; revert h2; decide
  by_cases q0 : e.1 = x_reader_
  · rw [q0, rx_m_ox_reader_ (fun q => by rw [q0, q] at z4; cases z4), ← q0]; exact hm.2 e he
  rw [rx_m_ne n0 q0]; exact hm.2 e he
theorem rx_m_x {m M : cw_M} {ba : Int → Int} {le : Int} (r0 : M x_reader_bytes_ = ba) (f0 : M x_reader_ 1 = le) (o0 : ∀ j, j ≠ 1 → M x_reader_ j = m x_reader_ j) (h : ∀ c, c ≠ x_reader_bytes_ → c ≠ x_reader_ → M c = m c) : M = rx_m m ba le := by
  funext c
  by_cases h0 : c = x_reader_bytes_
  · rw [h0, r0]; rfl
  by_cases h1 : c = x_reader_
  · funext j
    rw [h1]
    by_cases z0 : j = 1
    · rw [z0, f0]; rfl
    rw [o0 j z0, rx_m_ox_reader_ z0]
  rw [h c h0 h1, rx_m_ne h0 h1]
theorem rx_m_rba {m : cw_M} {ba : Int → Int} {le : Int} {f : Int → Int} : cw_row (rx_m m ba le) x_reader_bytes_ f = rx_m m f le := by
  refine rx_m_x rfl rfl (fun j z0 => by rw [cw_row_ne (by decide), rx_m_ox_reader_ z0]) (fun c h0 h1 => by rw [cw_row_ne h0, rx_m_ne h0 h1])
theorem rx_m_pba {m : cw_M} {ba : Int → Int} {le : Int} {i v : Int} : cw_put (rx_m m ba le) x_reader_bytes_ i v = rx_m m (cw_up ba i v) le := by
  rw [cw_put_row, rx_m_rba, rx_m_ba]
theorem rx_m_fle {m : cw_M} {ba : Int → Int} {le : Int} {v : Int} : cw_put (rx_m m ba le) x_reader_ 1 v = rx_m m ba v := by
  refine rx_m_x rfl rfl (fun j z0 => by rw [cw_put_off z0, rx_m_ox_reader_ z0]) (fun c h0 h1 => by rw [cw_put_ne h1, rx_m_ne h0 h1])
theorem rx_m_2 {m : cw_M} {ba : Int → Int} {le : Int} {ba' : Int → Int} {le' : Int} : rx_m (rx_m m ba le) ba' le' = rx_m m ba' le' := by
  refine rx_m_x rfl rfl (fun j z0 => by rw [rx_m_ox_reader_ z0, rx_m_ox_reader_ z0]) (fun c h0 h1 => by rw [rx_m_ne h0 h1, rx_m_ne h0 h1])
theorem rx_m_self {m : cw_M} : rx_m m (m x_reader_bytes_) (m x_reader_ 1) = m := by
  refine (rx_m_x rfl rfl (fun _ _ => rfl) (fun _ _ _ => rfl)).symm
theorem Re_append {d : Nat} {m : cw_M} {Q : Option cw_V → cw_M → Prop} (hm0 : la_ok m) {ba : Int → Int} {le v : Int} (hl : 0 ≤ le ∧ le + 4 ≤ 400) (h : ∀ ba', (∀ i, (i < le ∨ le + 4 ≤ i) → ba' i = ba i) → (∀ k, 0 ≤ k → k < 4 → ba' (le + k) = cw_iand (cw_ishr v (24 - 8 * k)) 255) → Q none (rx_m m ba' (le + 4))) : cw_C d k_Re_append [vr x_reader_, vi v] (rx_m m ba le) Q := by
  refine la_go_C (rx_m_ok hm0) 104 [] ?_
  refine br_f (show ¬ ((24 : Int) < 0) by decide) ?_
  refine br_f (show ¬ (400 ≤ le) by omega) ?_
  refine And.intro (show 0 ≤ le ∧ le < 400 by omega) ?_
  have hm21 : la_ok (cw_put (rx_m m ba le) x_reader_bytes_ le (cw_iand (cw_ishr v 24) 255)) := la_put (rx_m_ok hm0) (by decide) (Or.inr (by decide))
  refine And.intro (show -2147483648 ≤ le + 1 ∧ le + 1 < 2147483648 by omega) ?_
  have hm22 : la_ok (cw_put (cw_put (rx_m m ba le) x_reader_bytes_ le (cw_iand (cw_ishr v 24) 255)) x_reader_ 1 (le + 1)) := la_put hm21 (by decide) (Or.inl rfl)
  refine And.intro (show -2147483648 ≤ 16 ∧ 16 < 2147483648 by omega) ?_
  refine br_f (show ¬ ((16 : Int) < 0) by decide) ?_
  refine br_f (show ¬ (400 ≤ le + 1) by omega) ?_
  refine And.intro (show 0 ≤ le + 1 ∧ le + 1 < 400 by omega) ?_
  have hm23 : la_ok (cw_put (cw_put (cw_put (rx_m m ba le) x_reader_bytes_ le (cw_iand (cw_ishr v 24) 255)) x_reader_ 1 (le + 1)) x_reader_bytes_ (le + 1) (cw_iand (cw_ishr v 16) 255)) := la_put hm22 (by decide) (Or.inr (by decide))
  refine And.intro (show -2147483648 ≤ (le + 1) + 1 ∧ (le + 1) + 1 < 2147483648 by omega) ?_
  have hm24 : la_ok (cw_put (cw_put (cw_put (cw_put (rx_m m ba le) x_reader_bytes_ le (cw_iand (cw_ishr v 24) 255)) x_reader_ 1 (le + 1)) x_reader_bytes_ (le + 1) (cw_iand (cw_ishr v 16) 255)) x_reader_ 1 ((le + 1) + 1)) := la_put hm23 (by decide) (Or.inl rfl)
  refine And.intro (show -2147483648 ≤ 8 ∧ 8 < 2147483648 by omega) ?_
  refine br_f (show ¬ ((8 : Int) < 0) by decide) ?_
  refine br_f (show ¬ (400 ≤ (le + 1) + 1) by omega) ?_
  refine And.intro (show 0 ≤ (le + 1) + 1 ∧ (le + 1) + 1 < 400 by omega) ?_
  have hm25 : la_ok (cw_put (cw_put (cw_put (cw_put (cw_put (rx_m m ba le) x_reader_bytes_ le (cw_iand (cw_ishr v 24) 255)) x_reader_ 1 (le + 1)) x_reader_bytes_ (le + 1) (cw_iand (cw_ishr v 16) 255)) x_reader_ 1 ((le + 1) + 1)) x_reader_bytes_ ((le + 1) + 1) (cw_iand (cw_ishr v 8) 255)) := la_put hm24 (by decide) (Or.inr (by decide))
  refine And.intro (show -2147483648 ≤ ((le + 1) + 1) + 1 ∧ ((le + 1) + 1) + 1 < 2147483648 by omega) ?_
  have hm26 : la_ok (cw_put (cw_put (cw_put (cw_put (cw_put (cw_put (rx_m m ba le) x_reader_bytes_ le (cw_iand (cw_ishr v 24) 255)) x_reader_ 1 (le + 1)) x_reader_bytes_ (le + 1) (cw_iand (cw_ishr v 16) 255)) x_reader_ 1 ((le + 1) + 1)) x_reader_bytes_ ((le + 1) + 1) (cw_iand (cw_ishr v 8) 255)) x_reader_ 1 (((le + 1) + 1) + 1)) := la_put hm25 (by decide) (Or.inl rfl)
  refine And.intro (show -2147483648 ≤ 0 ∧ 0 < 2147483648 by omega) ?_
  refine br_f (show ¬ ((0 : Int) < 0) by decide) ?_
  refine br_f (show ¬ (400 ≤ ((le + 1) + 1) + 1) by omega) ?_
  refine And.intro (show 0 ≤ ((le + 1) + 1) + 1 ∧ ((le + 1) + 1) + 1 < 400 by omega) ?_
  have hm27 : la_ok (cw_put (cw_put (cw_put (cw_put (cw_put (cw_put (cw_put (rx_m m ba le) x_reader_bytes_ le (cw_iand (cw_ishr v 24) 255)) x_reader_ 1 (le + 1)) x_reader_bytes_ (le + 1) (cw_iand (cw_ishr v 16) 255)) x_reader_ 1 ((le + 1) + 1)) x_reader_bytes_ ((le + 1) + 1) (cw_iand (cw_ishr v 8) 255)) x_reader_ 1 (((le + 1) + 1) + 1)) x_reader_bytes_ (((le + 1) + 1) + 1) (cw_iand (cw_ishr v 0) 255)) := la_put hm26 (by decide) (Or.inr (by decide))
  refine And.intro (show -2147483648 ≤ (((le + 1) + 1) + 1) + 1 ∧ (((le + 1) + 1) + 1) + 1 < 2147483648 by omega) ?_
  have hm28 : la_ok (cw_put (cw_put (cw_put (cw_put (cw_put (cw_put (cw_put (cw_put (rx_m m ba le) x_reader_bytes_ le (cw_iand (cw_ishr v 24) 255)) x_reader_ 1 (le + 1)) x_reader_bytes_ (le + 1) (cw_iand (cw_ishr v 16) 255)) x_reader_ 1 ((le + 1) + 1)) x_reader_bytes_ ((le + 1) + 1) (cw_iand (cw_ishr v 8) 255)) x_reader_ 1 (((le + 1) + 1) + 1)) x_reader_bytes_ (((le + 1) + 1) + 1) (cw_iand (cw_ishr v 0) 255)) x_reader_ 1 ((((le + 1) + 1) + 1) + 1)) := la_put hm27 (by decide) (Or.inl rfl)
  refine And.intro (show -2147483648 ≤ (-8) ∧ (-8) < 2147483648 by omega) ?_
  refine br_t (show (-8 : Int) < 0 by decide) ?_
  show Q none (cw_put (cw_put (cw_put (cw_put (cw_put (cw_put (cw_put (cw_put (rx_m m ba le) x_reader_bytes_ le (cw_iand (cw_ishr v 24) 255)) x_reader_ 1 (le + 1)) x_reader_bytes_ (le + 1) (cw_iand (cw_ishr v 16) 255)) x_reader_ 1 ((le + 1) + 1)) x_reader_bytes_ ((le + 1) + 1) (cw_iand (cw_ishr v 8) 255)) x_reader_ 1 (((le + 1) + 1) + 1)) x_reader_bytes_ (((le + 1) + 1) + 1) (cw_iand (cw_ishr v 0) 255)) x_reader_ 1 ((((le + 1) + 1) + 1) + 1))
  rw [rx_m_pba, rx_m_fle, rx_m_pba, rx_m_fle, rx_m_pba, rx_m_fle, rx_m_pba, rx_m_fle]
  have hm29 : la_ok (rx_m m (cw_up (cw_up (cw_up (cw_up ba le (cw_iand (cw_ishr v 24) 255)) (le + 1) (cw_iand (cw_ishr v 16) 255)) ((le + 1) + 1) (cw_iand (cw_ishr v 8) 255)) (((le + 1) + 1) + 1) (cw_iand (cw_ishr v 0) 255)) ((((le + 1) + 1) + 1) + 1)) := rx_m_ok hm0
  rw [show (((le + 1) + 1) + 1) + 1 = le + 4 by omega]
  refine h _ (fun i q => ?_) (fun k a b => ?_)
  · rw [cw_up_ne (by omega), cw_up_ne (by omega), cw_up_ne (by omega), cw_up_ne (by omega)]
  · rcases (by omega : k = 0 ∨ k = 1 ∨ k = 2 ∨ k = 3) with e | e | e | e <;> subst e
    · rw [cw_up_ne (by omega), cw_up_ne (by omega), cw_up_ne (by omega), show (le : Int) + 0 = le by omega, cw_up_eq]
      try rfl
    · rw [cw_up_ne (by omega), cw_up_ne (by omega), show (le : Int) + 1 = (le + 1) by omega, cw_up_eq]
      try rfl
    · rw [cw_up_ne (by omega), show (le : Int) + 2 = ((le + 1) + 1) by omega, cw_up_eq]
      try rfl
    · rw [show (le : Int) + 3 = (((le + 1) + 1) + 1) by omega, cw_up_eq]
      try rfl
theorem C_feed {d : Nat} {m : cw_M} {Q : Option cw_V → cw_M → Prop} (hm0 : la_ok m) (hl : 0 ≤ m x_reader_ 1 ∧ m x_reader_ 1 ≤ 400) {a b c e f : Int} (h1 : m x_reader_ 1 + 20 ≤ 400 → ∀ ba, (∀ i, i < m x_reader_ 1 → ba i = m x_reader_bytes_ i) → (∀ k, 0 ≤ k → k < 20 → ba (m x_reader_ 1 + k) = cw_iand (f_20 a b c e f k) 255) → Q (some (vi (m x_reader_ 1 + 20))) (rx_m m ba (m x_reader_ 1 + 20))) (h0 : ¬ (m x_reader_ 1 + 20 ≤ 400) → Q (some (vi (-1))) m) : cw_C (d + 1) k_C_feed [vr x_, vi a, vi b, vi c, vi e, vi f] m Q := by
  refine la_go_C0 rx_m_self.symm ?_
  refine la_go_C (rx_m_ok hm0) 34 [] ?_
  refine And.intro (show -2147483648 ≤ (m x_reader_ 1) + 20 ∧ (m x_reader_ 1) + 20 < 2147483648 by omega) ?_
  refine And.intro (fun (c21 : (m x_reader_ 1) + 20 ≤ 400) => ?_) (fun (c21 : ¬ ((m x_reader_ 1) + 20 ≤ 400)) => ?_)
  · show cw_C _ _ [vr x_reader_, vi a] (rx_m m (m x_reader_bytes_) (m x_reader_ 1)) _
    refine Re_append hm0 (by omega) (fun (b1 : Int → Int) (o1 : ∀ i, (i < (m x_reader_ 1) ∨ (m x_reader_ 1) + 4 ≤ i) → b1 i = (m x_reader_bytes_) i) (n1 : ∀ k, 0 ≤ k → k < 4 → b1 ((m x_reader_ 1) + k) = cw_iand (cw_ishr a (24 - 8 * k)) 255) => ⟨(rx_m_ok hm0), ?_⟩)
    show cw_C _ _ [vr x_reader_, vi b] (rx_m m b1 ((m x_reader_ 1) + 4)) _
    refine Re_append hm0 (by omega) (fun (b2 : Int → Int) (o2 : ∀ i, (i < (m x_reader_ 1) + 4 ∨ (m x_reader_ 1) + 4 + 4 ≤ i) → b2 i = b1 i) (n2 : ∀ k, 0 ≤ k → k < 4 → b2 ((m x_reader_ 1) + 4 + k) = cw_iand (cw_ishr b (24 - 8 * k)) 255) => ⟨(rx_m_ok hm0), ?_⟩)
    show cw_C _ _ [vr x_reader_, vi c] (rx_m m b2 (((m x_reader_ 1) + 4) + 4)) _
    refine Re_append hm0 (by omega) (fun (b3 : Int → Int) (o3 : ∀ i, (i < ((m x_reader_ 1) + 4) + 4 ∨ ((m x_reader_ 1) + 4) + 4 + 4 ≤ i) → b3 i = b2 i) (n3 : ∀ k, 0 ≤ k → k < 4 → b3 (((m x_reader_ 1) + 4) + 4 + k) = cw_iand (cw_ishr c (24 - 8 * k)) 255) => ⟨(rx_m_ok hm0), ?_⟩)
    show cw_C _ _ [vr x_reader_, vi e] (rx_m m b3 ((((m x_reader_ 1) + 4) + 4) + 4)) _
    refine Re_append hm0 (by omega) (fun (b4 : Int → Int) (o4 : ∀ i, (i < (((m x_reader_ 1) + 4) + 4) + 4 ∨ (((m x_reader_ 1) + 4) + 4) + 4 + 4 ≤ i) → b4 i = b3 i) (n4 : ∀ k, 0 ≤ k → k < 4 → b4 ((((m x_reader_ 1) + 4) + 4) + 4 + k) = cw_iand (cw_ishr e (24 - 8 * k)) 255) => ⟨(rx_m_ok hm0), ?_⟩)
    show cw_C _ _ [vr x_reader_, vi f] (rx_m m b4 (((((m x_reader_ 1) + 4) + 4) + 4) + 4)) _
    refine Re_append hm0 (by omega) (fun (b5 : Int → Int) (o5 : ∀ i, (i < ((((m x_reader_ 1) + 4) + 4) + 4) + 4 ∨ ((((m x_reader_ 1) + 4) + 4) + 4) + 4 + 4 ≤ i) → b5 i = b4 i) (n5 : ∀ k, 0 ≤ k → k < 4 → b5 (((((m x_reader_ 1) + 4) + 4) + 4) + 4 + k) = cw_iand (cw_ishr f (24 - 8 * k)) 255) => ⟨(rx_m_ok hm0), ?_⟩)
    show Q (some (vi ((((((m x_reader_ 1) + 4) + 4) + 4) + 4) + 4))) (rx_m m b5 ((((((m x_reader_ 1) + 4) + 4) + 4) + 4) + 4))
    rw [show (((((m x_reader_ 1) + 4) + 4) + 4) + 4) + 4 = m x_reader_ 1 + 20 by omega]
    refine h1 (by omega) b5 (fun i a => ?_) (fun k a b => ?_)
    · rw [o5 i (by omega), o4 i (by omega), o3 i (by omega), o2 i (by omega), o1 i (by omega)]
    · unfold f_20 f_5
      rcases (by omega : k / 4 = 0 ∨ k / 4 = 1 ∨ k / 4 = 2 ∨ k / 4 = 3 ∨ k / 4 = 4) with e | e | e | e | e <;> rw [e]
      · rw [o5 _ (by omega), o4 _ (by omega), o3 _ (by omega), o2 _ (by omega), show m x_reader_ 1 + k = m x_reader_ 1 + (k - 0) by omega, n1 (k - 0) (by omega) (by omega), show 24 - 8 * (k - 0) = 24 - 8 * (k % 4) by omega]
        try rfl
      · rw [o5 _ (by omega), o4 _ (by omega), o3 _ (by omega), show m x_reader_ 1 + k = (m x_reader_ 1) + 4 + (k - 4) by omega, n2 (k - 4) (by omega) (by omega), show 24 - 8 * (k - 4) = 24 - 8 * (k % 4) by omega]
        try rfl
      · rw [o5 _ (by omega), o4 _ (by omega), show m x_reader_ 1 + k = ((m x_reader_ 1) + 4) + 4 + (k - 8) by omega, n3 (k - 8) (by omega) (by omega), show 24 - 8 * (k - 8) = 24 - 8 * (k % 4) by omega]
        try rfl
      · rw [o5 _ (by omega), show m x_reader_ 1 + k = (((m x_reader_ 1) + 4) + 4) + 4 + (k - 12) by omega, n4 (k - 12) (by omega) (by omega), show 24 - 8 * (k - 12) = 24 - 8 * (k % 4) by omega]
        try rfl
      · rw [show m x_reader_ 1 + k = ((((m x_reader_ 1) + 4) + 4) + 4) + 4 + (k - 16) by omega, n5 (k - 16) (by omega) (by omega), show 24 - 8 * (k - 16) = 24 - 8 * (k % 4) by omega]
        try rfl
  · show Q (some (vi (-1))) (rx_m m (m x_reader_bytes_) (m x_reader_ 1))
    rw [rx_m_self]
    exact h0 (by omega)
theorem C_takeFromTape {d : Nat} {m : cw_M} {Q : Option cw_V → cw_M → Prop} (hm : la_ok m) {at_ : Int} (hl : 0 ≤ m x_reader_ 1 ∧ m x_reader_ 1 ≤ 400) (ha : 0 ≤ at_ ∧ at_ < m x_reader_ 1) (hn : 0 ≤ m x_will_ 0 ∧ m x_will_ 0 ≤ 7) (h1 : (at_ + 3 ≤ m x_reader_ 1 ∧ m x_will_ 0 < 7 ∧ c_cj (m x_will_ 0) (m x_reader_bytes_ (at_)) (m x_reader_bytes_ (at_ + 1)) (m x_reader_bytes_ (at_ + 2))) → Q (some (vi 1)) (ap_m m (m x_reader_bytes_ (at_)) (m x_reader_bytes_ (at_ + 1)) (m x_reader_bytes_ (at_ + 2)))) (h0 : ¬ (at_ + 3 ≤ m x_reader_ 1 ∧ m x_will_ 0 < 7 ∧ c_cj (m x_will_ 0) (m x_reader_bytes_ (at_)) (m x_reader_bytes_ (at_ + 1)) (m x_reader_bytes_ (at_ + 2))) → Q (some (vi 0)) m) : cw_C (d + 2) k_C_takeFromTape [vr x_, vi at_] m Q := by
  refine la_go_C hm 52 [] ?_
  refine And.intro (show -2147483648 ≤ at_ + 3 ∧ at_ + 3 < 2147483648 by omega) ?_
  refine And.intro (fun (c21 : m x_reader_ 1 < at_ + 3) => ?_) (fun (c21 : ¬ (m x_reader_ 1 < at_ + 3)) => ?_)
  · refine And.intro (Or.inl rfl) ?_
    show Q (some (vi 0)) (m)
    first
      | exact h0 (fun z => aj z.2.2)
      | exact h0 (fun z => by omega)
  · refine And.intro (fun (c22 : m x_will_ 0 < 7) => ?_) (fun (c22 : ¬ (m x_will_ 0 < 7)) => ?_)
    · refine And.intro (show 0 ≤ at_ ∧ at_ < 400 by omega) ?_
      refine And.intro (show -2147483648 ≤ at_ + 1 ∧ at_ + 1 < 2147483648 by omega) ?_
      refine And.intro (show 0 ≤ at_ + 1 ∧ at_ + 1 < 400 by omega) ?_
      refine And.intro (show -2147483648 ≤ at_ + 2 ∧ at_ + 2 < 2147483648 by omega) ?_
      refine And.intro (show 0 ≤ at_ + 2 ∧ at_ + 2 < 400 by omega) ?_
      show cw_C _ _ [vr x_will_, vi (m x_reader_bytes_ at_), vi (m x_reader_bytes_ (at_ + 1)), vi (m x_reader_bytes_ (at_ + 2))] (m) _
      refine Wi_canJoin hm (fun (aj : c_cj (m x_will_ 0) (m x_reader_bytes_ (at_)) (m x_reader_bytes_ (at_ + 1)) (m x_reader_bytes_ (at_ + 2))) => ⟨hm, ?_⟩) (fun (aj : ¬ c_cj (m x_will_ 0) (m x_reader_bytes_ (at_)) (m x_reader_bytes_ (at_ + 1)) (m x_reader_bytes_ (at_ + 2))) => ⟨hm, ?_⟩)
      · refine br_t (show (1 : Int) ≠ 0 by decide) ?_
        show cw_C _ _ [vr x_will_, vi (m x_reader_bytes_ at_), vi (m x_reader_bytes_ (at_ + 1)), vi (m x_reader_bytes_ (at_ + 2))] (m) _
        refine Wi_appendQ hm (by omega) ⟨(ap_ok hm), ?_⟩
        refine And.intro (Or.inr rfl) ?_
        show Q (some (vi 1)) (ap_m m (m x_reader_bytes_ (at_)) (m x_reader_bytes_ (at_ + 1)) (m x_reader_bytes_ (at_ + 2)))
        exact h1 ⟨by omega, by omega, aj⟩
      · refine br_f (show ¬ ((0 : Int) ≠ 0) by decide) ?_
        refine And.intro (Or.inl rfl) ?_
        show Q (some (vi 0)) (m)
        first
          | exact h0 (fun z => aj z.2.2)
          | exact h0 (fun z => by omega)
    · refine And.intro (Or.inl rfl) ?_
      show Q (some (vi 0)) (m)
      first
        | exact h0 (fun z => aj z.2.2)
        | exact h0 (fun z => by omega)
theorem C_count {d : Nat} {m : cw_M} {Q : Option cw_V → cw_M → Prop} (hm : la_ok m) (hl : 0 ≤ m x_will_ 4 ∧ m x_will_ 4 < 64) {w : Int} (h : Q (some (vi (if w = 0 then m x_will_ 0 else if w = 1 then b_c (m x_will_ 4) else if w = 2 then m x_will_ 8 else if w = 3 then m x_will_ 6 else if w = 4 then m x_will_ 11 else if w = 5 then m x_log_ 0 else if w = 6 then m x_reader_ 1 else if w = 12 then m x_will_ 13 else if 7 ≤ w ∧ w ≤ 11 then m x_refusals_ (w - 7) else if 13 ≤ w ∧ w ≤ 16 then m x_will_terms_ (w - 13) else -1))) m) : cw_C (d + 1) k_C_count [vr x_, vi w] m Q := by
  refine la_go_C hm 5 [1] ?_
  refine la_ts rfl ?_
  by_cases k0 : w = 0
  · rw [k0]
    show cw_R _ _ 68 _ _ _ _
    refine la_go_R hm 7 [1] ?_
    show Q (some (vi (m x_will_ 0))) (m)
    have e : (if w = 0 then m x_will_ 0 else if w = 1 then b_c (m x_will_ 4) else if w = 2 then m x_will_ 8 else if w = 3 then m x_will_ 6 else if w = 4 then m x_will_ 11 else if w = 5 then m x_log_ 0 else if w = 6 then m x_reader_ 1 else if w = 12 then m x_will_ 13 else if 7 ≤ w ∧ w ≤ 11 then m x_refusals_ (w - 7) else if 13 ≤ w ∧ w ≤ 16 then m x_will_terms_ (w - 13) else -1) = m x_will_ 0 := by first | (rw [k0]; rfl) | ((repeat' split) <;> first | rfl | (exfalso; omega))
    rw [← e]
    exact h
  by_cases k0 : w = 1
  · rw [k0]
    show cw_R _ _ 76 _ _ _ _
    refine la_go_R hm 8 [1] ?_
    show cw_C _ _ [vi (m x_will_ 4)] (m) _
    refine Ji_bitCount hm hl ⟨hm, ?_⟩
    show Q (some (vi (b_c (m x_will_ 4)))) (m)
    have e : (if w = 0 then m x_will_ 0 else if w = 1 then b_c (m x_will_ 4) else if w = 2 then m x_will_ 8 else if w = 3 then m x_will_ 6 else if w = 4 then m x_will_ 11 else if w = 5 then m x_log_ 0 else if w = 6 then m x_reader_ 1 else if w = 12 then m x_will_ 13 else if 7 ≤ w ∧ w ≤ 11 then m x_refusals_ (w - 7) else if 13 ≤ w ∧ w ≤ 16 then m x_will_terms_ (w - 13) else -1) = b_c (m x_will_ 4) := by first | (rw [k0]; rfl) | ((repeat' split) <;> first | rfl | (exfalso; omega))
    rw [← e]
    exact h
  by_cases k0 : w = 2
  · rw [k0]
    show cw_R _ _ 87 _ _ _ _
    refine la_go_R hm 7 [1] ?_
    show Q (some (vi (m x_will_ 8))) (m)
    have e : (if w = 0 then m x_will_ 0 else if w = 1 then b_c (m x_will_ 4) else if w = 2 then m x_will_ 8 else if w = 3 then m x_will_ 6 else if w = 4 then m x_will_ 11 else if w = 5 then m x_log_ 0 else if w = 6 then m x_reader_ 1 else if w = 12 then m x_will_ 13 else if 7 ≤ w ∧ w ≤ 11 then m x_refusals_ (w - 7) else if 13 ≤ w ∧ w ≤ 16 then m x_will_terms_ (w - 13) else -1) = m x_will_ 8 := by first | (rw [k0]; rfl) | ((repeat' split) <;> first | rfl | (exfalso; omega))
    rw [← e]
    exact h
  by_cases k0 : w = 3
  · rw [k0]
    show cw_R _ _ 95 _ _ _ _
    refine la_go_R hm 7 [1] ?_
    show Q (some (vi (m x_will_ 6))) (m)
    have e : (if w = 0 then m x_will_ 0 else if w = 1 then b_c (m x_will_ 4) else if w = 2 then m x_will_ 8 else if w = 3 then m x_will_ 6 else if w = 4 then m x_will_ 11 else if w = 5 then m x_log_ 0 else if w = 6 then m x_reader_ 1 else if w = 12 then m x_will_ 13 else if 7 ≤ w ∧ w ≤ 11 then m x_refusals_ (w - 7) else if 13 ≤ w ∧ w ≤ 16 then m x_will_terms_ (w - 13) else -1) = m x_will_ 6 := by first | (rw [k0]; rfl) | ((repeat' split) <;> first | rfl | (exfalso; omega))
    rw [← e]
    exact h
  by_cases k0 : w = 4
  · rw [k0]
    show cw_R _ _ 103 _ _ _ _
    refine la_go_R hm 7 [1] ?_
    show Q (some (vi (m x_will_ 11))) (m)
    have e : (if w = 0 then m x_will_ 0 else if w = 1 then b_c (m x_will_ 4) else if w = 2 then m x_will_ 8 else if w = 3 then m x_will_ 6 else if w = 4 then m x_will_ 11 else if w = 5 then m x_log_ 0 else if w = 6 then m x_reader_ 1 else if w = 12 then m x_will_ 13 else if 7 ≤ w ∧ w ≤ 11 then m x_refusals_ (w - 7) else if 13 ≤ w ∧ w ≤ 16 then m x_will_terms_ (w - 13) else -1) = m x_will_ 11 := by first | (rw [k0]; rfl) | ((repeat' split) <;> first | rfl | (exfalso; omega))
    rw [← e]
    exact h
  by_cases k0 : w = 5
  · rw [k0]
    show cw_R _ _ 111 _ _ _ _
    refine la_go_R hm 7 [1] ?_
    show Q (some (vi (m x_log_ 0))) (m)
    have e : (if w = 0 then m x_will_ 0 else if w = 1 then b_c (m x_will_ 4) else if w = 2 then m x_will_ 8 else if w = 3 then m x_will_ 6 else if w = 4 then m x_will_ 11 else if w = 5 then m x_log_ 0 else if w = 6 then m x_reader_ 1 else if w = 12 then m x_will_ 13 else if 7 ≤ w ∧ w ≤ 11 then m x_refusals_ (w - 7) else if 13 ≤ w ∧ w ≤ 16 then m x_will_terms_ (w - 13) else -1) = m x_log_ 0 := by first | (rw [k0]; rfl) | ((repeat' split) <;> first | rfl | (exfalso; omega))
    rw [← e]
    exact h
  by_cases k0 : w = 6
  · rw [k0]
    show cw_R _ _ 119 _ _ _ _
    refine la_go_R hm 7 [1] ?_
    show Q (some (vi (m x_reader_ 1))) (m)
    have e : (if w = 0 then m x_will_ 0 else if w = 1 then b_c (m x_will_ 4) else if w = 2 then m x_will_ 8 else if w = 3 then m x_will_ 6 else if w = 4 then m x_will_ 11 else if w = 5 then m x_log_ 0 else if w = 6 then m x_reader_ 1 else if w = 12 then m x_will_ 13 else if 7 ≤ w ∧ w ≤ 11 then m x_refusals_ (w - 7) else if 13 ≤ w ∧ w ≤ 16 then m x_will_terms_ (w - 13) else -1) = m x_reader_ 1 := by first | (rw [k0]; rfl) | ((repeat' split) <;> first | rfl | (exfalso; omega))
    rw [← e]
    exact h
  by_cases k0 : w = 7
  · rw [show cw_ts 1 134 0 12 #[67, 75, 86, 94, 102, 110, 118, 134, 134, 134, 134, 134, 126] w = 135 by rw [k0]; rfl]
    show cw_R _ _ 135 _ _ _ _
    refine la_go_R hm 24 [1] ?_
    refine And.intro (fun (c29 : w < 7) => ?_) (fun (c29 : ¬ (w < 7)) => ?_)
    · refine And.intro (fun (c30 : w < 13) => ?_) (fun (c30 : ¬ (w < 13)) => ?_)
      · show Q (some (vi (-1))) (m)
        have e : (if w = 0 then m x_will_ 0 else if w = 1 then b_c (m x_will_ 4) else if w = 2 then m x_will_ 8 else if w = 3 then m x_will_ 6 else if w = 4 then m x_will_ 11 else if w = 5 then m x_log_ 0 else if w = 6 then m x_reader_ 1 else if w = 12 then m x_will_ 13 else if 7 ≤ w ∧ w ≤ 11 then m x_refusals_ (w - 7) else if 13 ≤ w ∧ w ≤ 16 then m x_will_terms_ (w - 13) else -1) = (-1) := by first | (rw [k0]; rfl) | ((repeat' split) <;> first | rfl | (exfalso; omega))
        rw [← e]
        exact h
      · refine And.intro (fun (c31 : 16 < w) => ?_) (fun (c31 : ¬ (16 < w)) => ?_)
        · show Q (some (vi (-1))) (m)
          have e : (if w = 0 then m x_will_ 0 else if w = 1 then b_c (m x_will_ 4) else if w = 2 then m x_will_ 8 else if w = 3 then m x_will_ 6 else if w = 4 then m x_will_ 11 else if w = 5 then m x_log_ 0 else if w = 6 then m x_reader_ 1 else if w = 12 then m x_will_ 13 else if 7 ≤ w ∧ w ≤ 11 then m x_refusals_ (w - 7) else if 13 ≤ w ∧ w ≤ 16 then m x_will_terms_ (w - 13) else -1) = (-1) := by first | (rw [k0]; rfl) | ((repeat' split) <;> first | rfl | (exfalso; omega))
          rw [← e]
          exact h
        · refine And.intro (show -2147483648 ≤ w - 13 ∧ w - 13 < 2147483648 by omega) ?_
          refine And.intro (show 0 ≤ w - 13 ∧ w - 13 < 4 by omega) ?_
          show Q (some (vi (m x_will_terms_ (w - 13)))) (m)
          have e : (if w = 0 then m x_will_ 0 else if w = 1 then b_c (m x_will_ 4) else if w = 2 then m x_will_ 8 else if w = 3 then m x_will_ 6 else if w = 4 then m x_will_ 11 else if w = 5 then m x_log_ 0 else if w = 6 then m x_reader_ 1 else if w = 12 then m x_will_ 13 else if 7 ≤ w ∧ w ≤ 11 then m x_refusals_ (w - 7) else if 13 ≤ w ∧ w ≤ 16 then m x_will_terms_ (w - 13) else -1) = m x_will_terms_ (w - 13) := by first | (rw [k0]; rfl) | ((repeat' split) <;> first | rfl | (exfalso; omega))
          rw [← e]
          exact h
    · refine And.intro (fun (c32 : 11 < w) => ?_) (fun (c32 : ¬ (11 < w)) => ?_)
      · refine And.intro (fun (c33 : w < 13) => ?_) (fun (c33 : ¬ (w < 13)) => ?_)
        · show Q (some (vi (-1))) (m)
          have e : (if w = 0 then m x_will_ 0 else if w = 1 then b_c (m x_will_ 4) else if w = 2 then m x_will_ 8 else if w = 3 then m x_will_ 6 else if w = 4 then m x_will_ 11 else if w = 5 then m x_log_ 0 else if w = 6 then m x_reader_ 1 else if w = 12 then m x_will_ 13 else if 7 ≤ w ∧ w ≤ 11 then m x_refusals_ (w - 7) else if 13 ≤ w ∧ w ≤ 16 then m x_will_terms_ (w - 13) else -1) = (-1) := by first | (rw [k0]; rfl) | ((repeat' split) <;> first | rfl | (exfalso; omega))
          rw [← e]
          exact h
        · refine And.intro (fun (c34 : 16 < w) => ?_) (fun (c34 : ¬ (16 < w)) => ?_)
          · show Q (some (vi (-1))) (m)
            have e : (if w = 0 then m x_will_ 0 else if w = 1 then b_c (m x_will_ 4) else if w = 2 then m x_will_ 8 else if w = 3 then m x_will_ 6 else if w = 4 then m x_will_ 11 else if w = 5 then m x_log_ 0 else if w = 6 then m x_reader_ 1 else if w = 12 then m x_will_ 13 else if 7 ≤ w ∧ w ≤ 11 then m x_refusals_ (w - 7) else if 13 ≤ w ∧ w ≤ 16 then m x_will_terms_ (w - 13) else -1) = (-1) := by first | (rw [k0]; rfl) | ((repeat' split) <;> first | rfl | (exfalso; omega))
            rw [← e]
            exact h
          · refine And.intro (show -2147483648 ≤ w - 13 ∧ w - 13 < 2147483648 by omega) ?_
            refine And.intro (show 0 ≤ w - 13 ∧ w - 13 < 4 by omega) ?_
            show Q (some (vi (m x_will_terms_ (w - 13)))) (m)
            have e : (if w = 0 then m x_will_ 0 else if w = 1 then b_c (m x_will_ 4) else if w = 2 then m x_will_ 8 else if w = 3 then m x_will_ 6 else if w = 4 then m x_will_ 11 else if w = 5 then m x_log_ 0 else if w = 6 then m x_reader_ 1 else if w = 12 then m x_will_ 13 else if 7 ≤ w ∧ w ≤ 11 then m x_refusals_ (w - 7) else if 13 ≤ w ∧ w ≤ 16 then m x_will_terms_ (w - 13) else -1) = m x_will_terms_ (w - 13) := by first | (rw [k0]; rfl) | ((repeat' split) <;> first | rfl | (exfalso; omega))
            rw [← e]
            exact h
      · refine And.intro (show -2147483648 ≤ w - 7 ∧ w - 7 < 2147483648 by omega) ?_
        refine And.intro (show 0 ≤ w - 7 ∧ w - 7 < 5 by omega) ?_
        show Q (some (vi (m x_refusals_ (w - 7)))) (m)
        have e : (if w = 0 then m x_will_ 0 else if w = 1 then b_c (m x_will_ 4) else if w = 2 then m x_will_ 8 else if w = 3 then m x_will_ 6 else if w = 4 then m x_will_ 11 else if w = 5 then m x_log_ 0 else if w = 6 then m x_reader_ 1 else if w = 12 then m x_will_ 13 else if 7 ≤ w ∧ w ≤ 11 then m x_refusals_ (w - 7) else if 13 ≤ w ∧ w ≤ 16 then m x_will_terms_ (w - 13) else -1) = m x_refusals_ (w - 7) := by first | (rw [k0]; rfl) | ((repeat' split) <;> first | rfl | (exfalso; omega))
        rw [← e]
        exact h
  by_cases k0 : w = 8
  · rw [show cw_ts 1 134 0 12 #[67, 75, 86, 94, 102, 110, 118, 134, 134, 134, 134, 134, 126] w = 135 by rw [k0]; rfl]
    show cw_R _ _ 135 _ _ _ _
    refine la_go_R hm 24 [1] ?_
    refine And.intro (fun (c36 : w < 7) => ?_) (fun (c36 : ¬ (w < 7)) => ?_)
    · refine And.intro (fun (c37 : w < 13) => ?_) (fun (c37 : ¬ (w < 13)) => ?_)
      · show Q (some (vi (-1))) (m)
        have e : (if w = 0 then m x_will_ 0 else if w = 1 then b_c (m x_will_ 4) else if w = 2 then m x_will_ 8 else if w = 3 then m x_will_ 6 else if w = 4 then m x_will_ 11 else if w = 5 then m x_log_ 0 else if w = 6 then m x_reader_ 1 else if w = 12 then m x_will_ 13 else if 7 ≤ w ∧ w ≤ 11 then m x_refusals_ (w - 7) else if 13 ≤ w ∧ w ≤ 16 then m x_will_terms_ (w - 13) else -1) = (-1) := by first | (rw [k0]; rfl) | ((repeat' split) <;> first | rfl | (exfalso; omega))
        rw [← e]
        exact h
      · refine And.intro (fun (c38 : 16 < w) => ?_) (fun (c38 : ¬ (16 < w)) => ?_)
        · show Q (some (vi (-1))) (m)
          have e : (if w = 0 then m x_will_ 0 else if w = 1 then b_c (m x_will_ 4) else if w = 2 then m x_will_ 8 else if w = 3 then m x_will_ 6 else if w = 4 then m x_will_ 11 else if w = 5 then m x_log_ 0 else if w = 6 then m x_reader_ 1 else if w = 12 then m x_will_ 13 else if 7 ≤ w ∧ w ≤ 11 then m x_refusals_ (w - 7) else if 13 ≤ w ∧ w ≤ 16 then m x_will_terms_ (w - 13) else -1) = (-1) := by first | (rw [k0]; rfl) | ((repeat' split) <;> first | rfl | (exfalso; omega))
          rw [← e]
          exact h
        · refine And.intro (show -2147483648 ≤ w - 13 ∧ w - 13 < 2147483648 by omega) ?_
          refine And.intro (show 0 ≤ w - 13 ∧ w - 13 < 4 by omega) ?_
          show Q (some (vi (m x_will_terms_ (w - 13)))) (m)
          have e : (if w = 0 then m x_will_ 0 else if w = 1 then b_c (m x_will_ 4) else if w = 2 then m x_will_ 8 else if w = 3 then m x_will_ 6 else if w = 4 then m x_will_ 11 else if w = 5 then m x_log_ 0 else if w = 6 then m x_reader_ 1 else if w = 12 then m x_will_ 13 else if 7 ≤ w ∧ w ≤ 11 then m x_refusals_ (w - 7) else if 13 ≤ w ∧ w ≤ 16 then m x_will_terms_ (w - 13) else -1) = m x_will_terms_ (w - 13) := by first | (rw [k0]; rfl) | ((repeat' split) <;> first | rfl | (exfalso; omega))
          rw [← e]
          exact h
    · refine And.intro (fun (c39 : 11 < w) => ?_) (fun (c39 : ¬ (11 < w)) => ?_)
      · refine And.intro (fun (c40 : w < 13) => ?_) (fun (c40 : ¬ (w < 13)) => ?_)
        · show Q (some (vi (-1))) (m)
          have e : (if w = 0 then m x_will_ 0 else if w = 1 then b_c (m x_will_ 4) else if w = 2 then m x_will_ 8 else if w = 3 then m x_will_ 6 else if w = 4 then m x_will_ 11 else if w = 5 then m x_log_ 0 else if w = 6 then m x_reader_ 1 else if w = 12 then m x_will_ 13 else if 7 ≤ w ∧ w ≤ 11 then m x_refusals_ (w - 7) else if 13 ≤ w ∧ w ≤ 16 then m x_will_terms_ (w - 13) else -1) = (-1) := by first | (rw [k0]; rfl) | ((repeat' split) <;> first | rfl | (exfalso; omega))
          rw [← e]
          exact h
        · refine And.intro (fun (c41 : 16 < w) => ?_) (fun (c41 : ¬ (16 < w)) => ?_)
          · show Q (some (vi (-1))) (m)
            have e : (if w = 0 then m x_will_ 0 else if w = 1 then b_c (m x_will_ 4) else if w = 2 then m x_will_ 8 else if w = 3 then m x_will_ 6 else if w = 4 then m x_will_ 11 else if w = 5 then m x_log_ 0 else if w = 6 then m x_reader_ 1 else if w = 12 then m x_will_ 13 else if 7 ≤ w ∧ w ≤ 11 then m x_refusals_ (w - 7) else if 13 ≤ w ∧ w ≤ 16 then m x_will_terms_ (w - 13) else -1) = (-1) := by first | (rw [k0]; rfl) | ((repeat' split) <;> first | rfl | (exfalso; omega))
            rw [← e]
            exact h
          · refine And.intro (show -2147483648 ≤ w - 13 ∧ w - 13 < 2147483648 by omega) ?_
            refine And.intro (show 0 ≤ w - 13 ∧ w - 13 < 4 by omega) ?_
            show Q (some (vi (m x_will_terms_ (w - 13)))) (m)
            have e : (if w = 0 then m x_will_ 0 else if w = 1 then b_c (m x_will_ 4) else if w = 2 then m x_will_ 8 else if w = 3 then m x_will_ 6 else if w = 4 then m x_will_ 11 else if w = 5 then m x_log_ 0 else if w = 6 then m x_reader_ 1 else if w = 12 then m x_will_ 13 else if 7 ≤ w ∧ w ≤ 11 then m x_refusals_ (w - 7) else if 13 ≤ w ∧ w ≤ 16 then m x_will_terms_ (w - 13) else -1) = m x_will_terms_ (w - 13) := by first | (rw [k0]; rfl) | ((repeat' split) <;> first | rfl | (exfalso; omega))
            rw [← e]
            exact h
      · refine And.intro (show -2147483648 ≤ w - 7 ∧ w - 7 < 2147483648 by omega) ?_
        refine And.intro (show 0 ≤ w - 7 ∧ w - 7 < 5 by omega) ?_
        show Q (some (vi (m x_refusals_ (w - 7)))) (m)
        have e : (if w = 0 then m x_will_ 0 else if w = 1 then b_c (m x_will_ 4) else if w = 2 then m x_will_ 8 else if w = 3 then m x_will_ 6 else if w = 4 then m x_will_ 11 else if w = 5 then m x_log_ 0 else if w = 6 then m x_reader_ 1 else if w = 12 then m x_will_ 13 else if 7 ≤ w ∧ w ≤ 11 then m x_refusals_ (w - 7) else if 13 ≤ w ∧ w ≤ 16 then m x_will_terms_ (w - 13) else -1) = m x_refusals_ (w - 7) := by first | (rw [k0]; rfl) | ((repeat' split) <;> first | rfl | (exfalso; omega))
        rw [← e]
        exact h
  by_cases k0 : w = 9
  · rw [show cw_ts 1 134 0 12 #[67, 75, 86, 94, 102, 110, 118, 134, 134, 134, 134, 134, 126] w = 135 by rw [k0]; rfl]
    show cw_R _ _ 135 _ _ _ _
    refine la_go_R hm 24 [1] ?_
    refine And.intro (fun (c43 : w < 7) => ?_) (fun (c43 : ¬ (w < 7)) => ?_)
    · refine And.intro (fun (c44 : w < 13) => ?_) (fun (c44 : ¬ (w < 13)) => ?_)
      · show Q (some (vi (-1))) (m)
        have e : (if w = 0 then m x_will_ 0 else if w = 1 then b_c (m x_will_ 4) else if w = 2 then m x_will_ 8 else if w = 3 then m x_will_ 6 else if w = 4 then m x_will_ 11 else if w = 5 then m x_log_ 0 else if w = 6 then m x_reader_ 1 else if w = 12 then m x_will_ 13 else if 7 ≤ w ∧ w ≤ 11 then m x_refusals_ (w - 7) else if 13 ≤ w ∧ w ≤ 16 then m x_will_terms_ (w - 13) else -1) = (-1) := by first | (rw [k0]; rfl) | ((repeat' split) <;> first | rfl | (exfalso; omega))
        rw [← e]
        exact h
      · refine And.intro (fun (c45 : 16 < w) => ?_) (fun (c45 : ¬ (16 < w)) => ?_)
        · show Q (some (vi (-1))) (m)
          have e : (if w = 0 then m x_will_ 0 else if w = 1 then b_c (m x_will_ 4) else if w = 2 then m x_will_ 8 else if w = 3 then m x_will_ 6 else if w = 4 then m x_will_ 11 else if w = 5 then m x_log_ 0 else if w = 6 then m x_reader_ 1 else if w = 12 then m x_will_ 13 else if 7 ≤ w ∧ w ≤ 11 then m x_refusals_ (w - 7) else if 13 ≤ w ∧ w ≤ 16 then m x_will_terms_ (w - 13) else -1) = (-1) := by first | (rw [k0]; rfl) | ((repeat' split) <;> first | rfl | (exfalso; omega))
          rw [← e]
          exact h
        · refine And.intro (show -2147483648 ≤ w - 13 ∧ w - 13 < 2147483648 by omega) ?_
          refine And.intro (show 0 ≤ w - 13 ∧ w - 13 < 4 by omega) ?_
          show Q (some (vi (m x_will_terms_ (w - 13)))) (m)
          have e : (if w = 0 then m x_will_ 0 else if w = 1 then b_c (m x_will_ 4) else if w = 2 then m x_will_ 8 else if w = 3 then m x_will_ 6 else if w = 4 then m x_will_ 11 else if w = 5 then m x_log_ 0 else if w = 6 then m x_reader_ 1 else if w = 12 then m x_will_ 13 else if 7 ≤ w ∧ w ≤ 11 then m x_refusals_ (w - 7) else if 13 ≤ w ∧ w ≤ 16 then m x_will_terms_ (w - 13) else -1) = m x_will_terms_ (w - 13) := by first | (rw [k0]; rfl) | ((repeat' split) <;> first | rfl | (exfalso; omega))
          rw [← e]
          exact h
    · refine And.intro (fun (c46 : 11 < w) => ?_) (fun (c46 : ¬ (11 < w)) => ?_)
      · refine And.intro (fun (c47 : w < 13) => ?_) (fun (c47 : ¬ (w < 13)) => ?_)
        · show Q (some (vi (-1))) (m)
          have e : (if w = 0 then m x_will_ 0 else if w = 1 then b_c (m x_will_ 4) else if w = 2 then m x_will_ 8 else if w = 3 then m x_will_ 6 else if w = 4 then m x_will_ 11 else if w = 5 then m x_log_ 0 else if w = 6 then m x_reader_ 1 else if w = 12 then m x_will_ 13 else if 7 ≤ w ∧ w ≤ 11 then m x_refusals_ (w - 7) else if 13 ≤ w ∧ w ≤ 16 then m x_will_terms_ (w - 13) else -1) = (-1) := by first | (rw [k0]; rfl) | ((repeat' split) <;> first | rfl | (exfalso; omega))
          rw [← e]
          exact h
        · refine And.intro (fun (c48 : 16 < w) => ?_) (fun (c48 : ¬ (16 < w)) => ?_)
          · show Q (some (vi (-1))) (m)
            have e : (if w = 0 then m x_will_ 0 else if w = 1 then b_c (m x_will_ 4) else if w = 2 then m x_will_ 8 else if w = 3 then m x_will_ 6 else if w = 4 then m x_will_ 11 else if w = 5 then m x_log_ 0 else if w = 6 then m x_reader_ 1 else if w = 12 then m x_will_ 13 else if 7 ≤ w ∧ w ≤ 11 then m x_refusals_ (w - 7) else if 13 ≤ w ∧ w ≤ 16 then m x_will_terms_ (w - 13) else -1) = (-1) := by first | (rw [k0]; rfl) | ((repeat' split) <;> first | rfl | (exfalso; omega))
            rw [← e]
            exact h
          · refine And.intro (show -2147483648 ≤ w - 13 ∧ w - 13 < 2147483648 by omega) ?_
            refine And.intro (show 0 ≤ w - 13 ∧ w - 13 < 4 by omega) ?_
            show Q (some (vi (m x_will_terms_ (w - 13)))) (m)
            have e : (if w = 0 then m x_will_ 0 else if w = 1 then b_c (m x_will_ 4) else if w = 2 then m x_will_ 8 else if w = 3 then m x_will_ 6 else if w = 4 then m x_will_ 11 else if w = 5 then m x_log_ 0 else if w = 6 then m x_reader_ 1 else if w = 12 then m x_will_ 13 else if 7 ≤ w ∧ w ≤ 11 then m x_refusals_ (w - 7) else if 13 ≤ w ∧ w ≤ 16 then m x_will_terms_ (w - 13) else -1) = m x_will_terms_ (w - 13) := by first | (rw [k0]; rfl) | ((repeat' split) <;> first | rfl | (exfalso; omega))
            rw [← e]
            exact h
      · refine And.intro (show -2147483648 ≤ w - 7 ∧ w - 7 < 2147483648 by omega) ?_
        refine And.intro (show 0 ≤ w - 7 ∧ w - 7 < 5 by omega) ?_
        show Q (some (vi (m x_refusals_ (w - 7)))) (m)
        have e : (if w = 0 then m x_will_ 0 else if w = 1 then b_c (m x_will_ 4) else if w = 2 then m x_will_ 8 else if w = 3 then m x_will_ 6 else if w = 4 then m x_will_ 11 else if w = 5 then m x_log_ 0 else if w = 6 then m x_reader_ 1 else if w = 12 then m x_will_ 13 else if 7 ≤ w ∧ w ≤ 11 then m x_refusals_ (w - 7) else if 13 ≤ w ∧ w ≤ 16 then m x_will_terms_ (w - 13) else -1) = m x_refusals_ (w - 7) := by first | (rw [k0]; rfl) | ((repeat' split) <;> first | rfl | (exfalso; omega))
        rw [← e]
        exact h
  by_cases k0 : w = 10
  · rw [show cw_ts 1 134 0 12 #[67, 75, 86, 94, 102, 110, 118, 134, 134, 134, 134, 134, 126] w = 135 by rw [k0]; rfl]
    show cw_R _ _ 135 _ _ _ _
    refine la_go_R hm 24 [1] ?_
    refine And.intro (fun (c50 : w < 7) => ?_) (fun (c50 : ¬ (w < 7)) => ?_)
    · refine And.intro (fun (c51 : w < 13) => ?_) (fun (c51 : ¬ (w < 13)) => ?_)
      · show Q (some (vi (-1))) (m)
        have e : (if w = 0 then m x_will_ 0 else if w = 1 then b_c (m x_will_ 4) else if w = 2 then m x_will_ 8 else if w = 3 then m x_will_ 6 else if w = 4 then m x_will_ 11 else if w = 5 then m x_log_ 0 else if w = 6 then m x_reader_ 1 else if w = 12 then m x_will_ 13 else if 7 ≤ w ∧ w ≤ 11 then m x_refusals_ (w - 7) else if 13 ≤ w ∧ w ≤ 16 then m x_will_terms_ (w - 13) else -1) = (-1) := by first | (rw [k0]; rfl) | ((repeat' split) <;> first | rfl | (exfalso; omega))
        rw [← e]
        exact h
      · refine And.intro (fun (c52 : 16 < w) => ?_) (fun (c52 : ¬ (16 < w)) => ?_)
        · show Q (some (vi (-1))) (m)
          have e : (if w = 0 then m x_will_ 0 else if w = 1 then b_c (m x_will_ 4) else if w = 2 then m x_will_ 8 else if w = 3 then m x_will_ 6 else if w = 4 then m x_will_ 11 else if w = 5 then m x_log_ 0 else if w = 6 then m x_reader_ 1 else if w = 12 then m x_will_ 13 else if 7 ≤ w ∧ w ≤ 11 then m x_refusals_ (w - 7) else if 13 ≤ w ∧ w ≤ 16 then m x_will_terms_ (w - 13) else -1) = (-1) := by first | (rw [k0]; rfl) | ((repeat' split) <;> first | rfl | (exfalso; omega))
          rw [← e]
          exact h
        · refine And.intro (show -2147483648 ≤ w - 13 ∧ w - 13 < 2147483648 by omega) ?_
          refine And.intro (show 0 ≤ w - 13 ∧ w - 13 < 4 by omega) ?_
          show Q (some (vi (m x_will_terms_ (w - 13)))) (m)
          have e : (if w = 0 then m x_will_ 0 else if w = 1 then b_c (m x_will_ 4) else if w = 2 then m x_will_ 8 else if w = 3 then m x_will_ 6 else if w = 4 then m x_will_ 11 else if w = 5 then m x_log_ 0 else if w = 6 then m x_reader_ 1 else if w = 12 then m x_will_ 13 else if 7 ≤ w ∧ w ≤ 11 then m x_refusals_ (w - 7) else if 13 ≤ w ∧ w ≤ 16 then m x_will_terms_ (w - 13) else -1) = m x_will_terms_ (w - 13) := by first | (rw [k0]; rfl) | ((repeat' split) <;> first | rfl | (exfalso; omega))
          rw [← e]
          exact h
    · refine And.intro (fun (c53 : 11 < w) => ?_) (fun (c53 : ¬ (11 < w)) => ?_)
      · refine And.intro (fun (c54 : w < 13) => ?_) (fun (c54 : ¬ (w < 13)) => ?_)
        · show Q (some (vi (-1))) (m)
          have e : (if w = 0 then m x_will_ 0 else if w = 1 then b_c (m x_will_ 4) else if w = 2 then m x_will_ 8 else if w = 3 then m x_will_ 6 else if w = 4 then m x_will_ 11 else if w = 5 then m x_log_ 0 else if w = 6 then m x_reader_ 1 else if w = 12 then m x_will_ 13 else if 7 ≤ w ∧ w ≤ 11 then m x_refusals_ (w - 7) else if 13 ≤ w ∧ w ≤ 16 then m x_will_terms_ (w - 13) else -1) = (-1) := by first | (rw [k0]; rfl) | ((repeat' split) <;> first | rfl | (exfalso; omega))
          rw [← e]
          exact h
        · refine And.intro (fun (c55 : 16 < w) => ?_) (fun (c55 : ¬ (16 < w)) => ?_)
          · show Q (some (vi (-1))) (m)
            have e : (if w = 0 then m x_will_ 0 else if w = 1 then b_c (m x_will_ 4) else if w = 2 then m x_will_ 8 else if w = 3 then m x_will_ 6 else if w = 4 then m x_will_ 11 else if w = 5 then m x_log_ 0 else if w = 6 then m x_reader_ 1 else if w = 12 then m x_will_ 13 else if 7 ≤ w ∧ w ≤ 11 then m x_refusals_ (w - 7) else if 13 ≤ w ∧ w ≤ 16 then m x_will_terms_ (w - 13) else -1) = (-1) := by first | (rw [k0]; rfl) | ((repeat' split) <;> first | rfl | (exfalso; omega))
            rw [← e]
            exact h
          · refine And.intro (show -2147483648 ≤ w - 13 ∧ w - 13 < 2147483648 by omega) ?_
            refine And.intro (show 0 ≤ w - 13 ∧ w - 13 < 4 by omega) ?_
            show Q (some (vi (m x_will_terms_ (w - 13)))) (m)
            have e : (if w = 0 then m x_will_ 0 else if w = 1 then b_c (m x_will_ 4) else if w = 2 then m x_will_ 8 else if w = 3 then m x_will_ 6 else if w = 4 then m x_will_ 11 else if w = 5 then m x_log_ 0 else if w = 6 then m x_reader_ 1 else if w = 12 then m x_will_ 13 else if 7 ≤ w ∧ w ≤ 11 then m x_refusals_ (w - 7) else if 13 ≤ w ∧ w ≤ 16 then m x_will_terms_ (w - 13) else -1) = m x_will_terms_ (w - 13) := by first | (rw [k0]; rfl) | ((repeat' split) <;> first | rfl | (exfalso; omega))
            rw [← e]
            exact h
      · refine And.intro (show -2147483648 ≤ w - 7 ∧ w - 7 < 2147483648 by omega) ?_
        refine And.intro (show 0 ≤ w - 7 ∧ w - 7 < 5 by omega) ?_
        show Q (some (vi (m x_refusals_ (w - 7)))) (m)
        have e : (if w = 0 then m x_will_ 0 else if w = 1 then b_c (m x_will_ 4) else if w = 2 then m x_will_ 8 else if w = 3 then m x_will_ 6 else if w = 4 then m x_will_ 11 else if w = 5 then m x_log_ 0 else if w = 6 then m x_reader_ 1 else if w = 12 then m x_will_ 13 else if 7 ≤ w ∧ w ≤ 11 then m x_refusals_ (w - 7) else if 13 ≤ w ∧ w ≤ 16 then m x_will_terms_ (w - 13) else -1) = m x_refusals_ (w - 7) := by first | (rw [k0]; rfl) | ((repeat' split) <;> first | rfl | (exfalso; omega))
        rw [← e]
        exact h
  by_cases k0 : w = 11
  · rw [show cw_ts 1 134 0 12 #[67, 75, 86, 94, 102, 110, 118, 134, 134, 134, 134, 134, 126] w = 135 by rw [k0]; rfl]
    show cw_R _ _ 135 _ _ _ _
    refine la_go_R hm 24 [1] ?_
    refine And.intro (fun (c57 : w < 7) => ?_) (fun (c57 : ¬ (w < 7)) => ?_)
    · refine And.intro (fun (c58 : w < 13) => ?_) (fun (c58 : ¬ (w < 13)) => ?_)
      · show Q (some (vi (-1))) (m)
        have e : (if w = 0 then m x_will_ 0 else if w = 1 then b_c (m x_will_ 4) else if w = 2 then m x_will_ 8 else if w = 3 then m x_will_ 6 else if w = 4 then m x_will_ 11 else if w = 5 then m x_log_ 0 else if w = 6 then m x_reader_ 1 else if w = 12 then m x_will_ 13 else if 7 ≤ w ∧ w ≤ 11 then m x_refusals_ (w - 7) else if 13 ≤ w ∧ w ≤ 16 then m x_will_terms_ (w - 13) else -1) = (-1) := by first | (rw [k0]; rfl) | ((repeat' split) <;> first | rfl | (exfalso; omega))
        rw [← e]
        exact h
      · refine And.intro (fun (c59 : 16 < w) => ?_) (fun (c59 : ¬ (16 < w)) => ?_)
        · show Q (some (vi (-1))) (m)
          have e : (if w = 0 then m x_will_ 0 else if w = 1 then b_c (m x_will_ 4) else if w = 2 then m x_will_ 8 else if w = 3 then m x_will_ 6 else if w = 4 then m x_will_ 11 else if w = 5 then m x_log_ 0 else if w = 6 then m x_reader_ 1 else if w = 12 then m x_will_ 13 else if 7 ≤ w ∧ w ≤ 11 then m x_refusals_ (w - 7) else if 13 ≤ w ∧ w ≤ 16 then m x_will_terms_ (w - 13) else -1) = (-1) := by first | (rw [k0]; rfl) | ((repeat' split) <;> first | rfl | (exfalso; omega))
          rw [← e]
          exact h
        · refine And.intro (show -2147483648 ≤ w - 13 ∧ w - 13 < 2147483648 by omega) ?_
          refine And.intro (show 0 ≤ w - 13 ∧ w - 13 < 4 by omega) ?_
          show Q (some (vi (m x_will_terms_ (w - 13)))) (m)
          have e : (if w = 0 then m x_will_ 0 else if w = 1 then b_c (m x_will_ 4) else if w = 2 then m x_will_ 8 else if w = 3 then m x_will_ 6 else if w = 4 then m x_will_ 11 else if w = 5 then m x_log_ 0 else if w = 6 then m x_reader_ 1 else if w = 12 then m x_will_ 13 else if 7 ≤ w ∧ w ≤ 11 then m x_refusals_ (w - 7) else if 13 ≤ w ∧ w ≤ 16 then m x_will_terms_ (w - 13) else -1) = m x_will_terms_ (w - 13) := by first | (rw [k0]; rfl) | ((repeat' split) <;> first | rfl | (exfalso; omega))
          rw [← e]
          exact h
    · refine And.intro (fun (c60 : 11 < w) => ?_) (fun (c60 : ¬ (11 < w)) => ?_)
      · refine And.intro (fun (c61 : w < 13) => ?_) (fun (c61 : ¬ (w < 13)) => ?_)
        · show Q (some (vi (-1))) (m)
          have e : (if w = 0 then m x_will_ 0 else if w = 1 then b_c (m x_will_ 4) else if w = 2 then m x_will_ 8 else if w = 3 then m x_will_ 6 else if w = 4 then m x_will_ 11 else if w = 5 then m x_log_ 0 else if w = 6 then m x_reader_ 1 else if w = 12 then m x_will_ 13 else if 7 ≤ w ∧ w ≤ 11 then m x_refusals_ (w - 7) else if 13 ≤ w ∧ w ≤ 16 then m x_will_terms_ (w - 13) else -1) = (-1) := by first | (rw [k0]; rfl) | ((repeat' split) <;> first | rfl | (exfalso; omega))
          rw [← e]
          exact h
        · refine And.intro (fun (c62 : 16 < w) => ?_) (fun (c62 : ¬ (16 < w)) => ?_)
          · show Q (some (vi (-1))) (m)
            have e : (if w = 0 then m x_will_ 0 else if w = 1 then b_c (m x_will_ 4) else if w = 2 then m x_will_ 8 else if w = 3 then m x_will_ 6 else if w = 4 then m x_will_ 11 else if w = 5 then m x_log_ 0 else if w = 6 then m x_reader_ 1 else if w = 12 then m x_will_ 13 else if 7 ≤ w ∧ w ≤ 11 then m x_refusals_ (w - 7) else if 13 ≤ w ∧ w ≤ 16 then m x_will_terms_ (w - 13) else -1) = (-1) := by first | (rw [k0]; rfl) | ((repeat' split) <;> first | rfl | (exfalso; omega))
            rw [← e]
            exact h
          · refine And.intro (show -2147483648 ≤ w - 13 ∧ w - 13 < 2147483648 by omega) ?_
            refine And.intro (show 0 ≤ w - 13 ∧ w - 13 < 4 by omega) ?_
            show Q (some (vi (m x_will_terms_ (w - 13)))) (m)
            have e : (if w = 0 then m x_will_ 0 else if w = 1 then b_c (m x_will_ 4) else if w = 2 then m x_will_ 8 else if w = 3 then m x_will_ 6 else if w = 4 then m x_will_ 11 else if w = 5 then m x_log_ 0 else if w = 6 then m x_reader_ 1 else if w = 12 then m x_will_ 13 else if 7 ≤ w ∧ w ≤ 11 then m x_refusals_ (w - 7) else if 13 ≤ w ∧ w ≤ 16 then m x_will_terms_ (w - 13) else -1) = m x_will_terms_ (w - 13) := by first | (rw [k0]; rfl) | ((repeat' split) <;> first | rfl | (exfalso; omega))
            rw [← e]
            exact h
      · refine And.intro (show -2147483648 ≤ w - 7 ∧ w - 7 < 2147483648 by omega) ?_
        refine And.intro (show 0 ≤ w - 7 ∧ w - 7 < 5 by omega) ?_
        show Q (some (vi (m x_refusals_ (w - 7)))) (m)
        have e : (if w = 0 then m x_will_ 0 else if w = 1 then b_c (m x_will_ 4) else if w = 2 then m x_will_ 8 else if w = 3 then m x_will_ 6 else if w = 4 then m x_will_ 11 else if w = 5 then m x_log_ 0 else if w = 6 then m x_reader_ 1 else if w = 12 then m x_will_ 13 else if 7 ≤ w ∧ w ≤ 11 then m x_refusals_ (w - 7) else if 13 ≤ w ∧ w ≤ 16 then m x_will_terms_ (w - 13) else -1) = m x_refusals_ (w - 7) := by first | (rw [k0]; rfl) | ((repeat' split) <;> first | rfl | (exfalso; omega))
        rw [← e]
        exact h
  by_cases k0 : w = 12
  · rw [k0]
    show cw_R _ _ 127 _ _ _ _
    refine la_go_R hm 7 [1] ?_
    show Q (some (vi (m x_will_ 13))) (m)
    have e : (if w = 0 then m x_will_ 0 else if w = 1 then b_c (m x_will_ 4) else if w = 2 then m x_will_ 8 else if w = 3 then m x_will_ 6 else if w = 4 then m x_will_ 11 else if w = 5 then m x_log_ 0 else if w = 6 then m x_reader_ 1 else if w = 12 then m x_will_ 13 else if 7 ≤ w ∧ w ≤ 11 then m x_refusals_ (w - 7) else if 13 ≤ w ∧ w ≤ 16 then m x_will_terms_ (w - 13) else -1) = m x_will_ 13 := by first | (rw [k0]; rfl) | ((repeat' split) <;> first | rfl | (exfalso; omega))
    rw [← e]
    exact h
  rw [la_tsd (by omega)]
  show cw_R _ _ 135 _ _ _ _
  refine la_go_R hm 24 [1] ?_
  refine And.intro (fun (c64 : w < 7) => ?_) (fun (c64 : ¬ (w < 7)) => ?_)
  · refine And.intro (fun (c65 : w < 13) => ?_) (fun (c65 : ¬ (w < 13)) => ?_)
    · show Q (some (vi (-1))) (m)
      have e : (if w = 0 then m x_will_ 0 else if w = 1 then b_c (m x_will_ 4) else if w = 2 then m x_will_ 8 else if w = 3 then m x_will_ 6 else if w = 4 then m x_will_ 11 else if w = 5 then m x_log_ 0 else if w = 6 then m x_reader_ 1 else if w = 12 then m x_will_ 13 else if 7 ≤ w ∧ w ≤ 11 then m x_refusals_ (w - 7) else if 13 ≤ w ∧ w ≤ 16 then m x_will_terms_ (w - 13) else -1) = (-1) := by first | (rw [k0]; rfl) | ((repeat' split) <;> first | rfl | (exfalso; omega))
      rw [← e]
      exact h
    · refine And.intro (fun (c66 : 16 < w) => ?_) (fun (c66 : ¬ (16 < w)) => ?_)
      · show Q (some (vi (-1))) (m)
        have e : (if w = 0 then m x_will_ 0 else if w = 1 then b_c (m x_will_ 4) else if w = 2 then m x_will_ 8 else if w = 3 then m x_will_ 6 else if w = 4 then m x_will_ 11 else if w = 5 then m x_log_ 0 else if w = 6 then m x_reader_ 1 else if w = 12 then m x_will_ 13 else if 7 ≤ w ∧ w ≤ 11 then m x_refusals_ (w - 7) else if 13 ≤ w ∧ w ≤ 16 then m x_will_terms_ (w - 13) else -1) = (-1) := by first | (rw [k0]; rfl) | ((repeat' split) <;> first | rfl | (exfalso; omega))
        rw [← e]
        exact h
      · refine And.intro (show -2147483648 ≤ w - 13 ∧ w - 13 < 2147483648 by omega) ?_
        refine And.intro (show 0 ≤ w - 13 ∧ w - 13 < 4 by omega) ?_
        show Q (some (vi (m x_will_terms_ (w - 13)))) (m)
        have e : (if w = 0 then m x_will_ 0 else if w = 1 then b_c (m x_will_ 4) else if w = 2 then m x_will_ 8 else if w = 3 then m x_will_ 6 else if w = 4 then m x_will_ 11 else if w = 5 then m x_log_ 0 else if w = 6 then m x_reader_ 1 else if w = 12 then m x_will_ 13 else if 7 ≤ w ∧ w ≤ 11 then m x_refusals_ (w - 7) else if 13 ≤ w ∧ w ≤ 16 then m x_will_terms_ (w - 13) else -1) = m x_will_terms_ (w - 13) := by first | (rw [k0]; rfl) | ((repeat' split) <;> first | rfl | (exfalso; omega))
        rw [← e]
        exact h
  · refine And.intro (fun (c67 : 11 < w) => ?_) (fun (c67 : ¬ (11 < w)) => ?_)
    · refine And.intro (fun (c68 : w < 13) => ?_) (fun (c68 : ¬ (w < 13)) => ?_)
      · show Q (some (vi (-1))) (m)
        have e : (if w = 0 then m x_will_ 0 else if w = 1 then b_c (m x_will_ 4) else if w = 2 then m x_will_ 8 else if w = 3 then m x_will_ 6 else if w = 4 then m x_will_ 11 else if w = 5 then m x_log_ 0 else if w = 6 then m x_reader_ 1 else if w = 12 then m x_will_ 13 else if 7 ≤ w ∧ w ≤ 11 then m x_refusals_ (w - 7) else if 13 ≤ w ∧ w ≤ 16 then m x_will_terms_ (w - 13) else -1) = (-1) := by first | (rw [k0]; rfl) | ((repeat' split) <;> first | rfl | (exfalso; omega))
        rw [← e]
        exact h
      · refine And.intro (fun (c69 : 16 < w) => ?_) (fun (c69 : ¬ (16 < w)) => ?_)
        · show Q (some (vi (-1))) (m)
          have e : (if w = 0 then m x_will_ 0 else if w = 1 then b_c (m x_will_ 4) else if w = 2 then m x_will_ 8 else if w = 3 then m x_will_ 6 else if w = 4 then m x_will_ 11 else if w = 5 then m x_log_ 0 else if w = 6 then m x_reader_ 1 else if w = 12 then m x_will_ 13 else if 7 ≤ w ∧ w ≤ 11 then m x_refusals_ (w - 7) else if 13 ≤ w ∧ w ≤ 16 then m x_will_terms_ (w - 13) else -1) = (-1) := by first | (rw [k0]; rfl) | ((repeat' split) <;> first | rfl | (exfalso; omega))
          rw [← e]
          exact h
        · refine And.intro (show -2147483648 ≤ w - 13 ∧ w - 13 < 2147483648 by omega) ?_
          refine And.intro (show 0 ≤ w - 13 ∧ w - 13 < 4 by omega) ?_
          show Q (some (vi (m x_will_terms_ (w - 13)))) (m)
          have e : (if w = 0 then m x_will_ 0 else if w = 1 then b_c (m x_will_ 4) else if w = 2 then m x_will_ 8 else if w = 3 then m x_will_ 6 else if w = 4 then m x_will_ 11 else if w = 5 then m x_log_ 0 else if w = 6 then m x_reader_ 1 else if w = 12 then m x_will_ 13 else if 7 ≤ w ∧ w ≤ 11 then m x_refusals_ (w - 7) else if 13 ≤ w ∧ w ≤ 16 then m x_will_terms_ (w - 13) else -1) = m x_will_terms_ (w - 13) := by first | (rw [k0]; rfl) | ((repeat' split) <;> first | rfl | (exfalso; omega))
          rw [← e]
          exact h
    · refine And.intro (show -2147483648 ≤ w - 7 ∧ w - 7 < 2147483648 by omega) ?_
      refine And.intro (show 0 ≤ w - 7 ∧ w - 7 < 5 by omega) ?_
      show Q (some (vi (m x_refusals_ (w - 7)))) (m)
      have e : (if w = 0 then m x_will_ 0 else if w = 1 then b_c (m x_will_ 4) else if w = 2 then m x_will_ 8 else if w = 3 then m x_will_ 6 else if w = 4 then m x_will_ 11 else if w = 5 then m x_log_ 0 else if w = 6 then m x_reader_ 1 else if w = 12 then m x_will_ 13 else if 7 ≤ w ∧ w ≤ 11 then m x_refusals_ (w - 7) else if 13 ≤ w ∧ w ≤ 16 then m x_will_terms_ (w - 13) else -1) = m x_refusals_ (w - 7) := by first | (rw [k0]; rfl) | ((repeat' split) <;> first | rfl | (exfalso; omega))
      rw [← e]
      exact h
