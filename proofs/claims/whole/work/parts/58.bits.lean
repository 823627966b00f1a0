/-! Bits of longs; readings by what lies right above what. -/
def l_b (x : Int) (k : Nat) : Bool := (Int64.ofInt x).toBitVec.getLsbD k
theorem l_bof (x : Int64) (k : Nat) : l_b x.toInt k = x.toBitVec.getLsbD k := by unfold l_b; rw [Int64.ofInt_toInt]
theorem l_or (x y : Int) (k : Nat) : l_b (cw_lor x y) k = (l_b x k || l_b y k) := by
  unfold cw_lor
  rw [l_bof, Int64.toBitVec_or, BitVec.getLsbD_or]
  rfl
theorem l_0 (k : Nat) : l_b 0 k = false := by
  unfold l_b
  rw [show (Int64.ofInt 0).toBitVec = 0#64 from rfl, BitVec.getLsbD_zero]
theorem l_sh : ∀ k : Fin 64, (Int32.ofInt k.val).toInt64 &&& 63 = Int64.ofNat k.val := by decide +kernel
theorem l_smod : ∀ k : Fin 64, (Int64.ofNat k.val).toBitVec.smod 64 = BitVec.ofNat 64 k.val := by decide +kernel
theorem l_shr (x : Int) (k : Fin 64) : cw_lshr x k.val = (Int64.ofBitVec ((Int64.ofInt x).toBitVec.sshiftRight k.val)).toInt := by
  unfold cw_lshr
  rw [l_sh k]
  congr 1
  apply Int64.toBitVec.inj
  rw [Int64.toBitVec_shiftRight, l_smod]
  show BitVec.sshiftRight _ (BitVec.ofNat 64 k.val).toNat = _
  rw [BitVec.toNat_ofNat, Nat.mod_eq_of_lt (by have := k.isLt; omega)]
  rfl
theorem l_bit {x k : Int} (hk : 0 ≤ k ∧ k < 64) : cw_land (cw_lshr x k) 1 = if l_b x k.toNat then 1 else 0 := by
  have e : k = ((⟨k.toNat, by omega⟩ : Fin 64).val : Int) := by show k = (k.toNat : Int); omega
  have e2 := l_shr x ⟨k.toNat, by omega⟩
  rw [← e] at e2
  rw [e2]
  unfold cw_land
  rw [Int64.ofInt_toInt]
  have h : (Int64.ofBitVec ((Int64.ofInt x).toBitVec.sshiftRight k.toNat) &&& Int64.ofInt 1) = if l_b x k.toNat then 1 else 0 := by
    apply Int64.toBitVec.inj
    rw [Int64.toBitVec_and]
    apply BitVec.eq_of_getLsbD_eq
    intro i hi
    rw [BitVec.getLsbD_and]
    show (((Int64.ofInt x).toBitVec.sshiftRight k.toNat).getLsbD i && (1#64).getLsbD i) = _
    rw [BitVec.getLsbD_sshiftRight, BitVec.getLsbD_one]
    by_cases h0 : i = 0
    · subst h0
      have : k.toNat + 0 < 64 := by omega
      unfold l_b
      cases hb : (Int64.ofInt x).toBitVec.getLsbD k.toNat
      · simp [hb]; omega
      · simp [hb]; omega
    · have : ((if l_b x k.toNat = true then (1 : Int64) else 0).toBitVec).getLsbD i = false := by
        split
        · show (1#64).getLsbD i = false
          rw [BitVec.getLsbD_one]; simp; omega
        · show (0#64).getLsbD i = false
          rw [BitVec.getLsbD_zero]
      rw [this]
      simp; intro _ _; omega
  rw [h]
  split <;> rfl
theorem l_shl1 : ∀ j k : Fin 64, l_b (cw_lshl 1 j.val) k.val = decide (k = j) := by decide +kernel
theorem l_shl {j : Int} {k : Nat} (hj : 0 ≤ j ∧ j < 64) (hk : k < 64) : l_b (cw_lshl 1 j) k = decide ((k : Int) = j) := by
  have e : j = ((⟨j.toNat, by omega⟩ : Fin 64).val : Int) := by show j = (j.toNat : Int); omega
  have h := l_shl1 ⟨j.toNat, by omega⟩ ⟨k, hk⟩
  rw [← e] at h
  rw [h]
  by_cases q : (k : Int) = j
  · rw [decide_eq_true q, decide_eq_true (by apply Fin.ext; show k = j.toNat; omega)]
  · rw [decide_eq_false q, decide_eq_false (fun z => by have := congrArg Fin.val z; have : k = j.toNat := this; omega)]
theorem l_sub {w a : Int} : cw_land w (cw_lxor a (-1)) = 0 ↔ ∀ k : Nat, k < 64 → l_b w k = true → l_b a k = true := by
  unfold cw_land cw_lxor
  rw [Int64.ofInt_toInt]
  have e : ((Int64.ofInt w &&& (Int64.ofInt a ^^^ Int64.ofInt (-1))).toInt = 0) ↔ (Int64.ofInt w &&& (Int64.ofInt a ^^^ Int64.ofInt (-1))).toBitVec = 0#64 := by
    constructor
    · intro h
      have : (Int64.ofInt w &&& (Int64.ofInt a ^^^ Int64.ofInt (-1))) = Int64.ofInt 0 := by
        apply Int64.toInt.inj; rw [h]; rfl
      rw [this]; rfl
    · intro h
      have : (Int64.ofInt w &&& (Int64.ofInt a ^^^ Int64.ofInt (-1))) = Int64.ofInt 0 := by
        apply Int64.toBitVec.inj; rw [h]; rfl
      rw [this]; rfl
  rw [e, Int64.toBitVec_and, Int64.toBitVec_xor, show (Int64.ofInt (-1)).toBitVec = BitVec.allOnes 64 from rfl]
  constructor
  · intro h k hk hw
    have h1 := congrArg (fun z => BitVec.getLsbD z k) h
    simp only [BitVec.getLsbD_and, BitVec.getLsbD_xor, BitVec.getLsbD_zero, BitVec.getLsbD_allOnes] at h1
    unfold l_b at hw ⊢
    rw [hw] at h1
    simpa [hk] using h1
  · intro h
    apply BitVec.eq_of_getLsbD_eq
    intro i hi
    rw [BitVec.getLsbD_and, BitVec.getLsbD_xor, BitVec.getLsbD_zero, BitVec.getLsbD_allOnes]
    have := h i hi
    unfold l_b at this
    cases hw : (Int64.ofInt w).toBitVec.getLsbD i
    · rfl
    · rw [this hw]; simp [hi]
theorem l_a63 : ∀ t : Fin 192, cw_iand t.val 63 = ((t.val : Int) % 64) ∧ cw_ishr t.val 6 = ((t.val : Int) / 64) := by decide +kernel
theorem l_63 {t : Int} (h : 0 ≤ t ∧ t < 192) : cw_iand t 63 = t % 64 ∧ cw_ishr t 6 = t / 64 := by
  have e : t = ((⟨t.toNat, by omega⟩ : Fin 192).val : Int) := by show t = (t.toNat : Int); omega
  have := l_a63 ⟨t.toNat, by omega⟩
  rw [← e] at this
  exact this
/-! A tree is a reading if no join lies right above one with a greater mark. -/
theorem t_updown {mk : Int → Int} : ∀ (f : Nat) {a n k dp ov : Int}, n ≤ f → 1 ≤ n ∧ n ≤ 6 → 0 ≤ k ∧ k < t_c n → ((∀ x, a ≤ x → x < a + n → x ≠ a + t_top n k → mk x ≤ mk (t_q f a n k dp ov x).2.2.2) ↔ ∀ j, a ≤ j → j < a + n → ∀ i, (t_q f a n k dp ov j).1 ≤ i → i < (t_q f a n k dp ov j).2.1 → mk i ≤ mk j)
  | 0, a, n, k, dp, ov, hf, hn, hk => by omega
  | f + 1, a, n, k, dp, ov, hf, hn, hk => by
    obtain ⟨h1, h2, h3, -, -⟩ := t_ok hn hk
    have IL := fun (q : 1 ≤ t_top n k) => t_updown (mk := mk) f (a := a) (n := t_top n k) (k := t_lk n k) (dp := dp + 1) (ov := a + t_top n k) (by omega) (by omega) h2
    have IR := fun (q : 1 ≤ n - t_top n k - 1) => t_updown (mk := mk) f (a := a + t_top n k + 1) (n := n - t_top n k - 1) (k := t_rk n k) (dp := dp + 1) (ov := a + t_top n k) (by omega) (by omega) h3
    have tl := fun (q : 1 ≤ t_top n k) => t_ok (n := t_top n k) (k := t_lk n k) (by omega) h2
    have tr := fun (q : 1 ≤ n - t_top n k - 1) => t_ok (n := n - t_top n k - 1) (k := t_rk n k) (by omega) h3
    constructor
    · intro H
      have HL : 1 ≤ t_top n k → ∀ j, a ≤ j → j < a + t_top n k → ∀ i, (t_q f a (t_top n k) (t_lk n k) (dp + 1) (a + t_top n k) j).1 ≤ i → i < (t_q f a (t_top n k) (t_lk n k) (dp + 1) (a + t_top n k) j).2.1 → mk i ≤ mk j := fun q => (IL q).mp (fun x x0 x1 x2 => by
        have := H x x0 (by omega) (by omega)
        rw [t_q_left x1] at this; exact this)
      have HR : 1 ≤ n - t_top n k - 1 → ∀ j, a + t_top n k + 1 ≤ j → j < a + t_top n k + 1 + (n - t_top n k - 1) → ∀ i, (t_q f (a + t_top n k + 1) (n - t_top n k - 1) (t_rk n k) (dp + 1) (a + t_top n k) j).1 ≤ i → i < (t_q f (a + t_top n k + 1) (n - t_top n k - 1) (t_rk n k) (dp + 1) (a + t_top n k) j).2.1 → mk i ≤ mk j := fun q => (IR q).mp (fun x x0 x1 x2 => by
        have := H x (by omega) (by omega) (by omega)
        rw [t_q_right (by omega)] at this; exact this)
      · intro j j0 j1 i i0 i1
        rcases (by omega : j = a + t_top n k ∨ j < a + t_top n k ∨ a + t_top n k < j) with e | e | e
        · rw [e, t_q_top] at i0 i1
          have i0 : a ≤ i := i0
          have i1 : i < a + n := i1
          rw [e]
          rcases (by omega : i = a + t_top n k ∨ i < a + t_top n k ∨ a + t_top n k < i) with e2 | e2 | e2
          · rw [e2]; exact Int.le_refl _
          · have q : 1 ≤ t_top n k := by omega
            obtain ⟨l1, -, -, -, -⟩ := tl q
            obtain ⟨f, rfl⟩ : ∃ g, f = g + 1 := ⟨f - 1, by omega⟩
            have a1 := HL q (a + t_top (t_top n k) (t_lk n k)) (by omega) (by omega) i (by rw [t_q_top]; exact i0) (by rw [t_q_top]; exact e2)
            have a2 := H (a + t_top (t_top n k) (t_lk n k)) (by omega) (by omega) (by omega)
            rw [t_q_left (by omega), t_q_top] at a2
            exact Int.le_trans a1 a2
          · have q : 1 ≤ n - t_top n k - 1 := by omega
            obtain ⟨l1, -, -, -, -⟩ := tr q
            obtain ⟨f, rfl⟩ : ∃ g, f = g + 1 := ⟨f - 1, by omega⟩
            have a1 := HR q (a + t_top n k + 1 + t_top (n - t_top n k - 1) (t_rk n k)) (by omega) (by omega) i (by rw [t_q_top]; show a + t_top n k + 1 ≤ i; omega) (by rw [t_q_top]; show i < a + t_top n k + 1 + (n - t_top n k - 1); omega)
            have a2 := H (a + t_top n k + 1 + t_top (n - t_top n k - 1) (t_rk n k)) (by omega) (by omega) (by omega)
            rw [t_q_right (by omega), t_q_top] at a2
            exact Int.le_trans a1 a2
        · rw [t_q_left e] at i0 i1
          exact HL (by omega) j j0 e i i0 i1
        · rw [t_q_right e] at i0 i1
          exact HR (by omega) j (by omega) (by omega) i i0 i1
    · intro H x x0 x1 x2
      rcases (by omega : x < a + t_top n k ∨ a + t_top n k < x) with e | e
      · have q : 1 ≤ t_top n k := by omega
        rw [t_q_left e]
        by_cases e3 : x = a + t_top (t_top n k) (t_lk n k)
        · obtain ⟨f, rfl⟩ : ∃ g, f = g + 1 := ⟨f - 1, by omega⟩
          rw [e3, t_q_top, ← e3]
          exact H (a + t_top n k) (by omega) (by omega) x (by rw [t_q_top]; exact x0) (by rw [t_q_top]; exact x1)
        · refine (IL q).mpr (fun j j0 j1 i i0 i1 => ?_) x x0 e e3
          exact H j j0 (by omega) i (by rw [t_q_left j1]; exact i0) (by rw [t_q_left j1]; exact i1)
      · have q : 1 ≤ n - t_top n k - 1 := by omega
        rw [t_q_right e]
        by_cases e3 : x = a + t_top n k + 1 + t_top (n - t_top n k - 1) (t_rk n k)
        · obtain ⟨f, rfl⟩ : ∃ g, f = g + 1 := ⟨f - 1, by omega⟩
          rw [e3, t_q_top, ← e3]
          exact H (a + t_top n k) (by omega) (by omega) x (by rw [t_q_top]; exact x0) (by rw [t_q_top]; exact x1)
        · refine (IR q).mpr (fun j j0 j1 i i0 i1 => ?_) x (by omega) (by omega) e3
          exact H j (by omega) (by omega) i (by rw [t_q_right (by omega)]; exact i0) (by rw [t_q_right (by omega)]; exact i1)
theorem t_Rov {mk : Int → Int} {n t : Int} (hn : n ≤ 6) (ht : 0 ≤ t ∧ t < t_c n) (h1 : 1 ≤ n) : t_R mk n t ↔ ∀ x, 0 ≤ x → x < n → t_ov n t x ≠ -1 → mk x ≤ mk (t_ov n t x) := by
  have h := t_updown (mk := mk) 6 (a := 0) (n := n) (k := t) (dp := 0) (ov := -1) (by omega) (by omega) ht
  have top : ∀ x, 0 ≤ x → x < n → (x = 0 + t_top n t ↔ t_ov n t x = -1) := by
    intro x x0 x1
    constructor
    · intro e; unfold t_ov; rw [e, t_q_top]
    · intro e
      by_cases q : x = 0 + t_top n t
      · exact q
      · have := (t_q_in 6 (a := 0) (n := n) (k := t) (dp := 0) (ov := -1) (x := x) (by omega) (by omega) ht (by omega)).2.2.2 q
        unfold t_ov at e
        omega
  constructor
  · intro hR x x0 x1 x2
    refine h.mpr (fun j j0 j1 i i0 i1 => hR j j0 (by omega) i i0 i1) x x0 (by omega) ?_
    intro e; exact x2 ((top x x0 x1).mp e)
  · intro H j j0 j1 i i0 i1
    refine h.mp (fun x x0 x1 x2 => ?_) j j0 (by omega) i i0 i1
    exact H x x0 (by omega) (fun e => x2 ((top x x0 (by omega)).mpr e))
