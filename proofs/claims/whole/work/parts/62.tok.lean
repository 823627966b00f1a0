/-! Tokens, as numbers: where they lie, what they are. -/
def k_sm (x : Int) : Bool := decide (97 ≤ x ∧ x ≤ 122)
def k_dg (x : Int) : Bool := decide (48 ≤ x ∧ x ≤ 57)
def k_sp (x : Int) : Bool := decide (x = 32)
theorem k_smt {x : Int} : k_sm x = true ↔ 97 ≤ x ∧ x ≤ 122 := by unfold k_sm; exact decide_eq_true_iff
theorem k_dgt {x : Int} : k_dg x = true ↔ 48 ≤ x ∧ x ≤ 57 := by unfold k_dg; exact decide_eq_true_iff
theorem k_spt {x : Int} : k_sp x = true ↔ x = 32 := by unfold k_sp; exact decide_eq_true_iff
def k_run (b : Int → Int) (n : Int) (p : Int → Bool) : Nat → Int → Int
  | 0, k => k
  | f + 1, k => if k < n ∧ p (b k) = true then k_run b n p f (k + 1) else k
def k_rn (b : Int → Int) (n : Int) (p : Int → Bool) (k : Int) : Int := k_run b n p (n - k).toNat k
section KRN
variable {b : Int → Int} {n k : Int} {p : Int → Bool}
theorem k_rn1 (h : k < n) (hp : p (b k) = true) : k_rn b n p k = k_rn b n p (k + 1) := by
  unfold k_rn
  rw [show (n - k).toNat = (n - (k + 1)).toNat + 1 by omega]
  show (if k < n ∧ p (b k) = true then _ else _) = _
  rw [if_pos ⟨h, hp⟩]
theorem k_rn0 (h : ¬ (k < n ∧ p (b k) = true)) : k_rn b n p k = k := by
  unfold k_rn
  cases (n - k).toNat with
  | zero => rfl
  | succ f =>
    show (if k < n ∧ p (b k) = true then _ else _) = _
    rw [if_neg h]
theorem k_rnr : ∀ (f : Nat) {k : Int}, (n - k).toNat ≤ f → k ≤ k_rn b n p k ∧ k_rn b n p k ≤ max k n ∧ ¬ (k_rn b n p k < n ∧ p (b (k_rn b n p k)) = true) ∧ ∀ i, k ≤ i → i < k_rn b n p k → p (b i) = true
  | 0, k, hf => by
    rw [k_rn0 (by omega)]
    exact ⟨by omega, by omega, by omega, fun i a c => by omega⟩
  | f + 1, k, hf => by
    by_cases h : k < n ∧ p (b k) = true
    · rw [k_rn1 h.1 h.2]
      obtain ⟨h1, h2, h3, h4⟩ := k_rnr f (k := k + 1) (by omega)
      refine ⟨by omega, by omega, h3, fun i a c => ?_⟩
      by_cases e : i = k
      · rw [e]; exact h.2
      · exact h4 i (by omega) c
    · rw [k_rn0 h]
      exact ⟨by omega, by omega, h, fun i a c => by omega⟩
end KRN
/-- where a token that begins at k ends -/
def k_end (b : Int → Int) (n k : Int) : Int := if k_sm (b k) = true then k_rn b n k_sm (k + 1) else if k_dg (b k) = true then k_rn b n k_dg (k + 1) else k + 1
def k_en (b : Int → Int) (n k : Int) : Int := if k < n then k_end b n k else k
def k_bl (b : Int → Int) (n k : Int) : Int := k_rn b n k_sp k
/-- where the i-th token begins -/
def k_pl (b : Int → Int) (n : Int) : Nat → Int
  | 0 => k_bl b n 0
  | i + 1 => k_bl b n (k_en b n (k_pl b n i))
section KPL
variable {b : Int → Int} {n k : Int}
theorem k_endr (h : k < n) : k < k_end b n k ∧ k_end b n k ≤ n := by
  unfold k_end
  have h1 := k_rnr (b := b) (n := n) (p := k_sm) _ (k := k + 1) (Nat.le_refl _)
  have h2 := k_rnr (b := b) (n := n) (p := k_dg) _ (k := k + 1) (Nat.le_refl _)
  split
  · omega
  · split <;> omega
theorem k_blr (h : k ≤ n) : k ≤ k_bl b n k ∧ k_bl b n k ≤ n := by
  have h1 := k_rnr (b := b) (n := n) (p := k_sp) _ (k := k) (Nat.le_refl _)
  unfold k_bl
  omega
theorem k_plr (hn : 0 ≤ n) : ∀ i : Nat, 0 ≤ k_pl b n i ∧ k_pl b n i ≤ n
  | 0 => by
    have := k_blr (b := b) hn
    exact this
  | i + 1 => by
    have h := k_plr hn i
    have h2 : k_pl b n i ≤ k_en b n (k_pl b n i) ∧ k_en b n (k_pl b n i) ≤ n := by
      unfold k_en
      split
      · rename_i q; have := k_endr (b := b) q; omega
      · omega
    have h3 := k_blr (b := b) (n := n) h2.2
    show 0 ≤ k_bl b n (k_en b n (k_pl b n i)) ∧ k_bl b n (k_en b n (k_pl b n i)) ≤ n
    omega
theorem k_plm (hn : 0 ≤ n) (i : Nat) (h : k_pl b n i < n) : k_pl b n i < k_pl b n (i + 1) := by
  have h2 := k_endr (b := b) h
  have h3 := k_blr (b := b) (n := n) (k := k_en b n (k_pl b n i)) (by unfold k_en; rw [if_pos h]; exact h2.2)
  have h4 : k_end b n (k_pl b n i) ≤ k_pl b n (i + 1) := by
    have : k_en b n (k_pl b n i) = k_end b n (k_pl b n i) := by unfold k_en; rw [if_pos h]
    rw [this] at h3
    show _ ≤ k_bl b n (k_en b n (k_pl b n i))
    rw [this]; exact h3.1
  omega
theorem k_ple (hn : 0 ≤ n) (i : Nat) (h : ¬ k_pl b n i < n) : k_pl b n (i + 1) = n := by
  have h1 := k_plr (b := b) hn i
  have h2 := k_plr (b := b) hn (i + 1)
  have h3 : k_en b n (k_pl b n i) = k_pl b n i := by unfold k_en; rw [if_neg h]
  have h4 := k_blr (b := b) (n := n) (k := k_pl b n i) h1.2
  have : k_pl b n (i + 1) = k_bl b n (k_pl b n i) := by show k_bl b n (k_en b n (k_pl b n i)) = _; rw [h3]
  omega
theorem k_pli (hn : 0 ≤ n) : ∀ i : Nat, k_pl b n i < n → (i : Int) ≤ k_pl b n i
  | 0, _ => (k_plr hn 0).1
  | i + 1, h => by
    by_cases q : k_pl b n i < n
    · have h1 := k_pli hn i q
      have h2 := k_plm hn i q
      omega
    · have := k_ple hn i q; omega
end KPL
/-- a word's letters stand from s to e -/
def k_is (b : Int → Int) : Int → Int → List Int → Bool
  | s, e, [] => decide (s = e)
  | s, e, c :: t => decide (s < e) && decide (b s = c) && k_is b (s + 1) e t
theorem k_ist {b : Int → Int} : ∀ {x : List Int} {s e : Int}, k_is b s e x = true ↔ (e - s = x.length ∧ ∀ i : Nat, i < x.length → b (s + i) = x.getD i 0)
  | [], s, e => by
    show decide (s = e) = true ↔ _
    rw [decide_eq_true_iff]
    constructor
    · intro h; exact ⟨by show e - s = ((0 : Nat) : Int); omega, fun i hi => by cases hi⟩
    · rintro ⟨h, -⟩; have h : e - s = ((0 : Nat) : Int) := h; omega
  | c :: t, s, e => by
    show (decide (s < e) && decide (b s = c) && k_is b (s + 1) e t) = true ↔ _
    rw [Bool.and_eq_true, Bool.and_eq_true, decide_eq_true_iff, decide_eq_true_iff, k_ist]
    constructor
    · rintro ⟨⟨h1, h2⟩, h3, h4⟩
      refine ⟨by rw [List.length_cons]; omega, fun i hi => ?_⟩
      cases i with
      | zero => rw [show s + ((0 : Nat) : Int) = s by omega]; exact h2
      | succ i =>
        have := h4 i (by rw [List.length_cons] at hi; omega)
        rw [show s + ((i + 1 : Nat) : Int) = s + 1 + i by omega, this]; rfl
    · rintro ⟨h1, h2⟩
      rw [List.length_cons] at h1
      have h3 := h2 0 (by rw [List.length_cons]; omega)
      rw [show s + ((0 : Nat) : Int) = s by omega] at h3
      refine ⟨⟨by omega, h3⟩, by omega, fun i hi => ?_⟩
      have := h2 (i + 1) (by rw [List.length_cons]; omega)
      rw [show s + ((i + 1 : Nat) : Int) = s + 1 + i by omega] at this
      rw [this]; rfl
/-- which word it is, from w on -/
def k_wd (b : Int → Int) (s e : Int) : List (List Int) → Int → Int
  | [], _ => 0
  | x :: t, w => if k_is b s e x = true then w else k_wd b s e t (w + 1)
/-- the words of both languages -/
def k_WL : List (List Int) := [[115, 104, 97, 114, 101, 115], [116, 97, 120, 101, 115], [98, 97, 114, 115], [105, 102], [111, 114], [97, 110, 100], [110, 111, 116], [106, 111, 105, 110], [108, 101, 102, 116], [114, 105, 103, 104, 116], [119, 111, 114, 116, 104], [104, 101, 105, 114], [116, 105, 109, 101, 115], [109, 111, 111, 100], [121, 101, 97, 114], [100, 111, 110, 101], [108, 97, 116, 101, 115, 116], [114, 101, 97, 100, 105, 110, 103, 115], [108, 105, 118, 105, 110, 103], [109, 97, 114, 107], [107, 105, 110, 100], [97, 115], [116, 117, 114, 110], [116, 111], [100, 105, 101], [112, 97, 115, 115]]
/-- a token's code and value -/
def k_cd (b : Int → Int) (n k : Int) : Int := if k < n then (if k_sm (b k) = true then k_wd b k (k_end b n k) k_WL 1 else if k_dg (b k) = true then 50 else 100 + b k) else 0
def k_nv (b : Int → Int) (s : Int) : Nat → Int
  | 0 => 0
  | q + 1 => if 1000000 < k_nv b s q then k_nv b s q else 10 * k_nv b s q + b (s + q) - 48
def k_vl (b : Int → Int) (n k : Int) : Int := if k < n ∧ k_dg (b k) = true then k_nv b k (k_end b n k - k).toNat else 0
def k_cv (b : Int → Int) (s : Int) : Nat → Int
  | 0 => 0
  | q + 1 => min 10000 (10 * k_cv b s q + b (s + q) - 48)
theorem k_nvr {b : Int → Int} {s : Int} : ∀ q : Nat, (∀ i : Nat, i < q → k_dg (b (s + i)) = true) → (0 ≤ k_nv b s q ∧ k_nv b s q ≤ 10000009) ∧ k_cv b s q = min 10000 (k_nv b s q)
  | 0, _ => ⟨⟨Int.le_refl 0, by show (0 : Int) ≤ 10000009; omega⟩, by show (0 : Int) = min 10000 0; omega⟩
  | q + 1, h => by
    obtain ⟨h1, h2⟩ := k_nvr q (fun i hi => h i (by omega))
    have h3 := k_dgt.mp (h q (by omega))
    have e1 : k_nv b s (q + 1) = if 1000000 < k_nv b s q then k_nv b s q else 10 * k_nv b s q + b (s + q) - 48 := rfl
    have e2 : k_cv b s (q + 1) = min 10000 (10 * k_cv b s q + b (s + q) - 48) := rfl
    rw [e1, e2, h2]
    split <;> omega
theorem k_vlr {b : Int → Int} {n k : Int} : 0 ≤ k_vl b n k ∧ k_vl b n k ≤ 10000009 ∧ (k < n → k_dg (b k) = true → k_cv b k (k_end b n k - k).toNat = min 10000 (k_vl b n k)) := by
  unfold k_vl
  by_cases h : k < n ∧ k_dg (b k) = true
  · rw [if_pos h]
    have hs : ¬ k_sm (b k) = true := by rw [k_smt]; have := k_dgt.mp h.2; omega
    have he : k_end b n k = k_rn b n k_dg (k + 1) := by unfold k_end; rw [if_neg hs, if_pos h.2]
    obtain ⟨h1, h2, h3, h4⟩ := k_rnr (b := b) (n := n) (p := k_dg) _ (k := k + 1) (Nat.le_refl _)
    have := k_nvr (b := b) (s := k) (k_end b n k - k).toNat (fun i hi => by
      by_cases e : i = 0
      · rw [e, show k + ((0 : Nat) : Int) = k by omega]; exact h.2
      · exact h4 (k + i) (by omega) (by rw [← he]; omega))
    exact ⟨this.1.1, this.1.2, fun _ _ => this.2⟩
  · rw [if_neg h]
    exact ⟨by omega, by omega, fun a c => absurd ⟨a, c⟩ h⟩
/-- no two words stand at one place -/
theorem k_isu {b : Int → Int} {s e : Int} {x y : List Int} (hx : k_is b s e x = true) (hy : k_is b s e y = true) : x = y := by
  obtain ⟨h1, h2⟩ := k_ist.mp hx
  obtain ⟨h3, h4⟩ := k_ist.mp hy
  apply List.ext_getElem
  · omega
  · intro i a c
    have e1 := h2 i a
    have e2 := h4 i c
    rw [e1] at e2
    simpa [List.getD_eq_getElem?_getD, a, c] using e2
theorem k_wdn {b : Int → Int} {s e : Int} : ∀ {l : List (List Int)} {w : Int}, (∀ x ∈ l, k_is b s e x = false) → k_wd b s e l w = 0
  | [], _, _ => rfl
  | x :: t, w, h => by
    show (if k_is b s e x = true then w else k_wd b s e t (w + 1)) = 0
    rw [if_neg (by rw [h x List.mem_cons_self]; decide)]
    exact k_wdn (fun y hy => h y (List.mem_cons_of_mem _ hy))
theorem k_wdr {b : Int → Int} {s e : Int} : ∀ {l : List (List Int)} {w : Int}, k_wd b s e l w = 0 ∨ (w ≤ k_wd b s e l w ∧ k_wd b s e l w < w + l.length ∧ ∃ x, l[(k_wd b s e l w - w).toNat]? = some x ∧ k_is b s e x = true)
  | [], _ => Or.inl rfl
  | x :: t, w => by
    show (if k_is b s e x = true then w else k_wd b s e t (w + 1)) = 0 ∨ (w ≤ (if k_is b s e x = true then w else k_wd b s e t (w + 1)) ∧ (if k_is b s e x = true then w else k_wd b s e t (w + 1)) < w + (x :: t).length ∧ ∃ y, (x :: t)[((if k_is b s e x = true then w else k_wd b s e t (w + 1)) - w).toNat]? = some y ∧ k_is b s e y = true)
    by_cases h : k_is b s e x = true
    · rw [if_pos h]
      right
      refine ⟨by omega, by rw [List.length_cons]; omega, x, ?_, h⟩
      rw [show (w - w).toNat = 0 by omega]; rfl
    · rw [if_neg h]
      rcases k_wdr (b := b) (s := s) (e := e) (l := t) (w := w + 1) with q | ⟨q1, q2, y, q3, q4⟩
      · exact Or.inl q
      · right
        refine ⟨by omega, by rw [List.length_cons]; omega, y, ?_, q4⟩
        rw [show (k_wd b s e t (w + 1) - w).toNat = (k_wd b s e t (w + 1) - (w + 1)).toNat + 1 by omega, List.getElem?_cons_succ]
        exact q3
theorem k_wdp {b : Int → Int} {s e : Int} {l : List (List Int)} {w : Int} {j : Nat} {x : List Int} (hd : l.Nodup) (hj : l[j]? = some x) (hw : 0 < w) : k_is b s e x = true ↔ k_wd b s e l w = w + j := by
  constructor
  · intro h
    rcases k_wdr (b := b) (s := s) (e := e) (l := l) (w := w) with q | ⟨q1, q2, y, q3, q4⟩
    · exfalso
      have : ∀ (l : List (List Int)) (w : Int) (j : Nat), 0 < w → l[j]? = some x → k_wd b s e l w ≠ 0 := by
        intro l
        induction l with
        | nil => intro w j _ hj; simp at hj
        | cons z t ih =>
          intro w j hw hj
          show (if k_is b s e z = true then w else k_wd b s e t (w + 1)) ≠ 0
          by_cases hz : k_is b s e z = true
          · rw [if_pos hz]; omega
          · rw [if_neg hz]
            cases j with
            | zero =>
              rw [List.getElem?_cons_zero] at hj
              exact absurd (by rw [Option.some.inj hj]; exact h) hz
            | succ j =>
              rw [List.getElem?_cons_succ] at hj
              exact ih (w + 1) j (by omega) hj
      exact this l w j hw hj q
    · have e1 := k_isu h q4
      subst e1
      have hlt : j < l.length := by
        rcases Nat.lt_or_ge j l.length with z | z
        · exact z
        · rw [List.getElem?_eq_none z] at hj; cases hj
      have := (List.getElem?_inj (by omega) hd).mp (q3.trans hj.symm)
      omega
  · intro h
    rcases k_wdr (b := b) (s := s) (e := e) (l := l) (w := w) with q | ⟨q1, q2, y, q3, q4⟩
    · omega
    · rw [h, show (w + (j : Int) - w).toNat = j by omega, hj] at q3
      rw [Option.some.inj q3]; exact q4
theorem k_WLd : k_WL.Nodup := by decide
theorem k_WLs : ∀ x ∈ k_WL, ∃ c t, x = c :: t ∧ k_sm c = true := by
  intro x hx
  have : ∀ x ∈ k_WL, k_sm (x.getD 0 0) = true ∧ x ≠ [] := by decide
  obtain ⟨h1, h2⟩ := this x hx
  cases x with
  | nil => exact absurd rfl h2
  | cons c t => exact ⟨c, t, rfl, h1⟩
/-- a token is the j-th word iff its code says so -/
theorem k_word {b : Int → Int} {n k : Int} {j : Nat} {x : List Int} (hb : ∀ i, 0 ≤ i → i < n → 0 ≤ b i) (hk : 0 ≤ k) (hj : k_WL[j]? = some x) : k_is b k (k_en b n k) x = true ↔ k_cd b n k = 1 + j := by
  have hlt : j < 26 := by
    rcases Nat.lt_or_ge j 26 with z | z
    · exact z
    · rw [List.getElem?_eq_none (by exact z)] at hj; cases hj
  obtain ⟨c, t, rfl, hc⟩ := k_WLs x (List.mem_of_getElem? hj)
  unfold k_cd k_en
  by_cases h : k < n
  · rw [if_pos h, if_pos h]
    by_cases hs : k_sm (b k) = true
    · rw [if_pos hs]
      exact k_wdp k_WLd hj (by omega)
    · rw [if_neg hs]
      constructor
      · intro q
        have q : (decide (k < k_end b n k) && decide (b k = c) && k_is b (k + 1) (k_end b n k) t) = true := q
        rw [Bool.and_eq_true, Bool.and_eq_true, decide_eq_true_iff, decide_eq_true_iff] at q
        rw [q.1.2] at hs; exact absurd hc hs
      · intro q
        have := hb k hk h
        split at q <;> omega
  · rw [if_neg h, if_neg h]
    constructor
    · intro q
      have q : (decide (k < k) && decide (b k = c) && k_is b (k + 1) k t) = true := q
      rw [Bool.and_eq_true, Bool.and_eq_true, decide_eq_true_iff, decide_eq_true_iff] at q
      omega
    · intro q; omega
theorem k_cdr {b : Int → Int} {n k : Int} (hb : ∀ i, 0 ≤ i → i < n → 0 ≤ b i ∧ b i ≤ 255) (hk : 0 ≤ k) : 0 ≤ k_cd b n k ∧ k_cd b n k ≤ 355 := by
  unfold k_cd
  by_cases h : k < n
  · rw [if_pos h]
    have := hb k hk h
    split
    · rcases k_wdr (b := b) (s := k) (e := k_end b n k) (l := k_WL) (w := 1) with q | ⟨q1, q2, -⟩
      · rw [q]; omega
      · have : (k_WL.length : Int) = 26 := rfl
        omega
    · split <;> omega
  · rw [if_neg h]; omega
/-- signs and numbers -/
theorem k_sign {b : Int → Int} {n k ch : Int} (hb : ∀ i, 0 ≤ i → i < n → 0 ≤ b i ∧ b i ≤ 255) (hk : 0 ≤ k) (h1 : k_sm ch = false) (h2 : k_dg ch = false) (h0 : 0 ≤ ch) : (k < n ∧ b k = ch) ↔ k_cd b n k = 100 + ch := by
  unfold k_cd
  by_cases h : k < n
  · rw [if_pos h]
    have := hb k hk h
    by_cases hs : k_sm (b k) = true
    · rw [if_pos hs]
      constructor
      · rintro ⟨-, e⟩; rw [e, h1] at hs; cases hs
      · intro q
        rcases k_wdr (b := b) (s := k) (e := k_end b n k) (l := k_WL) (w := 1) with z | ⟨z1, z2, -⟩
        · omega
        · have : (k_WL.length : Int) = 26 := rfl
          omega
    · rw [if_neg hs]
      by_cases hd : k_dg (b k) = true
      · rw [if_pos hd]
        constructor
        · rintro ⟨-, e⟩; rw [e, h2] at hd; cases hd
        · intro q; omega
      · rw [if_neg hd]
        constructor
        · rintro ⟨-, e⟩; rw [e]
        · intro q; exact ⟨h, by omega⟩
  · rw [if_neg h]
    constructor
    · rintro ⟨q, -⟩; exact absurd q h
    · intro q; omega
theorem k_numb {b : Int → Int} {n k : Int} (hb : ∀ i, 0 ≤ i → i < n → 0 ≤ b i ∧ b i ≤ 255) (hk : 0 ≤ k) : (k < n ∧ k_dg (b k) = true) ↔ k_cd b n k = 50 := by
  unfold k_cd
  by_cases h : k < n
  · rw [if_pos h]
    have := hb k hk h
    by_cases hs : k_sm (b k) = true
    · rw [if_pos hs]
      constructor
      · rintro ⟨-, e⟩; have := k_smt.mp hs; have := k_dgt.mp e; omega
      · intro q
        rcases k_wdr (b := b) (s := k) (e := k_end b n k) (l := k_WL) (w := 1) with z | ⟨z1, z2, -⟩
        · omega
        · have : (k_WL.length : Int) = 26 := rfl
          omega
    · rw [if_neg hs]
      by_cases hd : k_dg (b k) = true
      · rw [if_pos hd]; exact ⟨fun _ => rfl, fun _ => ⟨h, hd⟩⟩
      · rw [if_neg hd]
        constructor
        · rintro ⟨-, e⟩; exact absurd e hd
        · intro q; omega
  · rw [if_neg h]
    constructor
    · rintro ⟨q, -⟩; exact absurd q h
    · intro q; omega
