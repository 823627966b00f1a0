/-! Trees, as numbers: where the top of a piece lies, how far a piece reaches, how deep each join lies, what lies right above it. -/
def t_c (n : Int) : Int := match n with
  | .ofNat 0 => 1
  | .ofNat 1 => 1
  | .ofNat 2 => 2
  | .ofNat 3 => 5
  | .ofNat 4 => 14
  | .ofNat 5 => 42
  | .ofNat 6 => 132
  | _ => 0
/-- the offset of the top of the k-th tree of n joins, and what is left of k -/
def t_find (n : Int) : Nat → Int → Int → Int × Int
  | 0, j, k => (j, k)
  | f + 1, j, k => if k < t_c j * t_c (n - j - 1) then (j, k) else t_find n f (j + 1) (k - t_c j * t_c (n - j - 1))
def t_top (n k : Int) : Int := (t_find n n.toNat 0 k).1
def t_rem (n k : Int) : Int := (t_find n n.toNat 0 k).2
/-- the left and the right piece's numbers -/
def t_lk (n k : Int) : Int := t_rem n k / t_c (n - t_top n k - 1)
def t_rk (n k : Int) : Int := t_rem n k % t_c (n - t_top n k - 1)
/-- of join x in the piece from a, n joins, the k-th: low, high, depth, over -/
def t_q : Nat → Int → Int → Int → Int → Int → Int → Int × Int × Int × Int
  | 0, _, _, _, _, _, _ => (0, 0, 0, 0)
  | f + 1, a, n, k, dp, ov, x =>
    if x = a + t_top n k then (a, a + n, dp, ov)
    else if x < a + t_top n k then t_q f a (t_top n k) (t_lk n k) (dp + 1) (a + t_top n k) x
    else t_q f (a + t_top n k + 1) (n - t_top n k - 1) (t_rk n k) (dp + 1) (a + t_top n k) x
def t_lo (n t x : Int) : Int := (t_q 6 0 n t 0 (-1) x).1
def t_hi (n t x : Int) : Int := (t_q 6 0 n t 0 (-1) x).2.1
def t_dp (n t x : Int) : Int := (t_q 6 0 n t 0 (-1) x).2.2.1
def t_ov (n t x : Int) : Int := (t_q 6 0 n t 0 (-1) x).2.2.2
theorem t_cpos {n : Int} (h : 0 ≤ n ∧ n ≤ 6) : 0 < t_c n ∧ t_c n ≤ 132 := by
  rcases (by omega : n = 0 ∨ n = 1 ∨ n = 2 ∨ n = 3 ∨ n = 4 ∨ n = 5 ∨ n = 6) with h | h | h | h | h | h | h <;> subst h <;> decide
theorem t_fin {P : Int → Int → Prop} (h : ∀ (n : Fin 7) (k : Fin 132), (k.val : Int) < t_c n.val → P n.val k.val) {n k : Int} (hn : 0 ≤ n ∧ n ≤ 6) (hk : 0 ≤ k ∧ k < t_c n) : P n k := by
  have := t_cpos hn
  have e1 : n = ((⟨n.toNat, by omega⟩ : Fin 7).val : Int) := by show n = (n.toNat : Int); omega
  have e2 : k = ((⟨k.toNat, by omega⟩ : Fin 132).val : Int) := by show k = (k.toNat : Int); omega
  have := h ⟨n.toNat, by omega⟩ ⟨k.toNat, by omega⟩ (by rw [← e1, ← e2]; exact hk.2)
  rw [← e1, ← e2] at this
  exact this
theorem t_ok {n k : Int} (hn : 1 ≤ n ∧ n ≤ 6) (hk : 0 ≤ k ∧ k < t_c n) : (0 ≤ t_top n k ∧ t_top n k < n) ∧ (0 ≤ t_lk n k ∧ t_lk n k < t_c (t_top n k)) ∧ (0 ≤ t_rk n k ∧ t_rk n k < t_c (n - t_top n k - 1)) ∧ 0 ≤ t_rem n k ∧ t_rem n k < t_c (t_top n k) * t_c (n - t_top n k - 1) := by
  have key : 1 ≤ n → (0 ≤ t_top n k ∧ t_top n k < n) ∧ (0 ≤ t_lk n k ∧ t_lk n k < t_c (t_top n k)) ∧ (0 ≤ t_rk n k ∧ t_rk n k < t_c (n - t_top n k - 1)) ∧ 0 ≤ t_rem n k ∧ t_rem n k < t_c (t_top n k) * t_c (n - t_top n k - 1) := by
    refine t_fin (P := fun n k => 1 ≤ n → (0 ≤ t_top n k ∧ t_top n k < n) ∧ (0 ≤ t_lk n k ∧ t_lk n k < t_c (t_top n k)) ∧ (0 ≤ t_rk n k ∧ t_rk n k < t_c (n - t_top n k - 1)) ∧ 0 ≤ t_rem n k ∧ t_rem n k < t_c (t_top n k) * t_c (n - t_top n k - 1)) ?_ (by omega) hk
    decide +kernel
  exact key hn.1
/-- the same piece, with more fuel -/
theorem t_qf : ∀ (f g : Nat) {a n k dp ov x : Int}, n ≤ f → n ≤ g → 1 ≤ n ∧ n ≤ 6 → 0 ≤ k ∧ k < t_c n → a ≤ x ∧ x < a + n → t_q f a n k dp ov x = t_q g a n k dp ov x
  | 0, g, a, n, k, dp, ov, x, hf, hg, hn, hk, hx => by omega
  | f + 1, 0, a, n, k, dp, ov, x, hf, hg, hn, hk, hx => by omega
  | f + 1, g + 1, a, n, k, dp, ov, x, hf, hg, hn, hk, hx => by
    obtain ⟨h1, h2, h3, -, -⟩ := t_ok hn hk
    show (if x = a + t_top n k then (a, a + n, dp, ov) else if x < a + t_top n k then t_q f a (t_top n k) (t_lk n k) (dp + 1) (a + t_top n k) x else t_q f (a + t_top n k + 1) (n - t_top n k - 1) (t_rk n k) (dp + 1) (a + t_top n k) x) = (if x = a + t_top n k then (a, a + n, dp, ov) else if x < a + t_top n k then t_q g a (t_top n k) (t_lk n k) (dp + 1) (a + t_top n k) x else t_q g (a + t_top n k + 1) (n - t_top n k - 1) (t_rk n k) (dp + 1) (a + t_top n k) x)
    by_cases e1 : x = a + t_top n k
    · rw [if_pos e1, if_pos e1]
    · rw [if_neg e1, if_neg e1]
      by_cases e2 : x < a + t_top n k
      · rw [if_pos e2, if_pos e2]
        exact t_qf f g (by omega) (by omega) (by omega) h2 (by omega)
      · rw [if_neg e2, if_neg e2]
        exact t_qf f g (by omega) (by omega) (by omega) h3 (by omega)
/-- what a piece's numbers are -/
theorem t_q_top {f : Nat} {a n k dp ov : Int} : t_q (f + 1) a n k dp ov (a + t_top n k) = (a, a + n, dp, ov) := by
  show (if a + t_top n k = a + t_top n k then (a, a + n, dp, ov) else _) = _
  rw [if_pos rfl]
theorem t_q_left {f : Nat} {a n k dp ov x : Int} (h : x < a + t_top n k) : t_q (f + 1) a n k dp ov x = t_q f a (t_top n k) (t_lk n k) (dp + 1) (a + t_top n k) x := by
  show (if x = a + t_top n k then (a, a + n, dp, ov) else if x < a + t_top n k then t_q f a (t_top n k) (t_lk n k) (dp + 1) (a + t_top n k) x else _) = _
  rw [if_neg (by omega), if_pos h]
theorem t_q_right {f : Nat} {a n k dp ov x : Int} (h : a + t_top n k < x) : t_q (f + 1) a n k dp ov x = t_q f (a + t_top n k + 1) (n - t_top n k - 1) (t_rk n k) (dp + 1) (a + t_top n k) x := by
  show (if x = a + t_top n k then (a, a + n, dp, ov) else if x < a + t_top n k then _ else t_q f (a + t_top n k + 1) (n - t_top n k - 1) (t_rk n k) (dp + 1) (a + t_top n k) x) = _
  rw [if_neg (by omega), if_neg (by omega)]
theorem t_q_in : ∀ (f : Nat) {a n k dp ov x : Int}, n ≤ f → 1 ≤ n ∧ n ≤ 6 → 0 ≤ k ∧ k < t_c n → a ≤ x ∧ x < a + n → (a ≤ (t_q f a n k dp ov x).1 ∧ (t_q f a n k dp ov x).1 ≤ x) ∧ (x < (t_q f a n k dp ov x).2.1 ∧ (t_q f a n k dp ov x).2.1 ≤ a + n) ∧ (dp ≤ (t_q f a n k dp ov x).2.2.1 ∧ (t_q f a n k dp ov x).2.2.1 < dp + n) ∧ (x ≠ a + t_top n k → dp < (t_q f a n k dp ov x).2.2.1 ∧ (a < (t_q f a n k dp ov x).1 ∨ (t_q f a n k dp ov x).2.1 < a + n) ∧ a ≤ (t_q f a n k dp ov x).2.2.2 ∧ (t_q f a n k dp ov x).2.2.2 < a + n)
  | 0, a, n, k, dp, ov, x, hf, hn, hk, hx => by omega
  | f + 1, a, n, k, dp, ov, x, hf, hn, hk, hx => by
    obtain ⟨h1, h2, h3, -, -⟩ := t_ok hn hk
    rcases (by omega : x = a + t_top n k ∨ x < a + t_top n k ∨ a + t_top n k < x) with e | e | e
    · rw [e, t_q_top]
      refine ⟨⟨by show a ≤ a; omega, by show a ≤ a + t_top n k; omega⟩, ⟨by show a + t_top n k < a + n; omega, by show a + n ≤ a + n; omega⟩, ⟨by show dp ≤ dp; omega, by show dp < dp + n; omega⟩, fun q => absurd rfl q⟩
    · rw [t_q_left e]
      obtain ⟨q1, q2, q3, q4⟩ := t_q_in f (a := a) (n := t_top n k) (k := t_lk n k) (dp := dp + 1) (ov := a + t_top n k) (x := x) (by omega) (by omega) h2 (by omega)
      have q5 : x = a + t_top (t_top n k) (t_lk n k) → (t_q f a (t_top n k) (t_lk n k) (dp + 1) (a + t_top n k) x).2.2.2 = a + t_top n k := fun q => by
        obtain ⟨f, rfl⟩ : ∃ g, f = g + 1 := ⟨f - 1, by omega⟩
        rw [q, t_q_top]
      refine ⟨by omega, by omega, by omega, fun _ => ⟨by omega, by omega, ?_⟩⟩
      by_cases q6 : x = a + t_top (t_top n k) (t_lk n k)
      · rw [q5 q6]; omega
      · have := q4 q6; omega
    · rw [t_q_right e]
      obtain ⟨q1, q2, q3, q4⟩ := t_q_in f (a := a + t_top n k + 1) (n := n - t_top n k - 1) (k := t_rk n k) (dp := dp + 1) (ov := a + t_top n k) (x := x) (by omega) (by omega) h3 (by omega)
      have q5 : x = a + t_top n k + 1 + t_top (n - t_top n k - 1) (t_rk n k) → (t_q f (a + t_top n k + 1) (n - t_top n k - 1) (t_rk n k) (dp + 1) (a + t_top n k) x).2.2.2 = a + t_top n k := fun q => by
        obtain ⟨f, rfl⟩ : ∃ g, f = g + 1 := ⟨f - 1, by omega⟩
        rw [q, t_q_top]
      refine ⟨by omega, by omega, by omega, fun _ => ⟨by omega, by omega, ?_⟩⟩
      by_cases q6 : x = a + t_top n k + 1 + t_top (n - t_top n k - 1) (t_rk n k)
      · rw [q5 q6]; omega
      · have := q4 q6; omega
/-- a stretch of a row written anew -/
def t_w (old : Int → Int) (b a n : Int) (g : Int → Int) : Int → Int := fun i => if b + a ≤ i ∧ i < b + a + n then g (i - b) else old i
theorem t_w0 {old g : Int → Int} {b a : Int} : t_w old b a 0 g = old := by funext i; unfold t_w; rw [if_neg (by omega)]
theorem t_wi {old g : Int → Int} {b a n x : Int} (h : a ≤ x ∧ x < a + n) : t_w old b a n g (b + x) = g x := by unfold t_w; rw [if_pos (by omega)]; congr 1; omega
theorem t_wo {old g : Int → Int} {b a n i : Int} (h : i < b + a ∨ b + a + n ≤ i) : t_w old b a n g i = old i := by unfold t_w; rw [if_neg (by omega)]
theorem t_w3 {old g g1 g2 : Int → Int} {b a n j v : Int} (hj : 0 ≤ j ∧ j < n) (h0 : g (a + j) = v) (h1 : ∀ x, a ≤ x → x < a + j → g x = g1 x) (h2 : ∀ x, a + j < x → x < a + n → g x = g2 x) : t_w (t_w (cw_up old (b + (a + j)) v) b a j g1) b (a + j + 1) (n - j - 1) g2 = t_w old b a n g := by
  funext i
  unfold t_w cw_up
  by_cases c : b + a ≤ i ∧ i < b + a + n
  · rw [if_pos c]
    rcases (by omega : i - b < a + j ∨ i - b = a + j ∨ a + j < i - b) with e | e | e
    · rw [if_neg (by omega), if_pos (by omega)]; exact (h1 _ (by omega) e).symm
    · rw [if_neg (by omega), if_neg (by omega), if_pos (by omega), e, h0]
    · rw [if_pos (by omega)]; exact (h2 _ e (by omega)).symm
  · rw [if_neg c, if_neg (by omega), if_neg (by omega), if_neg (by omega)]
