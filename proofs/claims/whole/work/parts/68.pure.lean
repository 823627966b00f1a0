/-! A text's clauses; that the fuel is enough; where a good end lies. -/
def p_b (r : p_R) (k : Int → Int → p_D → p_R) : p_R := match r with
  | .error e => .error e
  | .ok (i1, l1, D) => k i1 l1 D
def p_N (n i l : Int) (st : Bool) (r : p_R) : Prop := match r with
  | .error e => i ≤ e ∧ e ≤ n
  | .ok (i1, l1, _) => i ≤ i1 ∧ i1 ≤ n ∧ l ≤ l1 ∧ l1 ≤ 50 ∧ (st = true → i < i1 ∧ l < l1)
theorem p_Nb {n i l i0 l0 : Int} {st st1 st2 : Bool} {r : p_R} {k : Int → Int → p_D → p_R} (hr : p_N n i0 l0 st1 r) (hi : i ≤ i0) (hl : l ≤ l0) (hs : st = true → st1 = true) (hk : ∀ i1 l1 D, r = .ok (i1, l1, D) → i0 ≤ i1 → i1 ≤ n → l0 ≤ l1 → l1 ≤ 50 → (st1 = true → i0 < i1 ∧ l0 < l1) → p_N n i1 l1 st2 (k i1 l1 D)) : p_N n i l st (p_b r k) := by
  cases r with
  | error e => have hr : i0 ≤ e ∧ e ≤ n := hr; show i ≤ e ∧ e ≤ n; omega
  | ok q =>
    obtain ⟨i1, l1, D⟩ := q
    have hr : i0 ≤ i1 ∧ i1 ≤ n ∧ l0 ≤ l1 ∧ l1 ≤ 50 ∧ (st1 = true → i0 < i1 ∧ l0 < l1) := hr
    have h := hk i1 l1 D rfl hr.1 hr.2.1 hr.2.2.1 hr.2.2.2.1 hr.2.2.2.2
    show p_N n i l st (k i1 l1 D)
    revert h
    cases k i1 l1 D with
    | error e => intro h; have h : i1 ≤ e ∧ e ≤ n := h; show i ≤ e ∧ e ≤ n; omega
    | ok q =>
      obtain ⟨i2, l2, D2⟩ := q
      intro h
      have h : i1 ≤ i2 ∧ i2 ≤ n ∧ l1 ≤ l2 ∧ l2 ≤ 50 ∧ (st2 = true → i1 < i2 ∧ l1 < l2) := h
      refine ⟨by omega, by omega, by omega, by omega, fun q => ?_⟩
      have := hr.2.2.2.2 (hs q)
      omega
section PN
variable {c v : Int → Int} {o : Bool} {n : Int}
theorem p_s0 {f : Nat} {dp i l : Int} {acc : p_D} : p_s c v o (f + 1) 0 dp i l acc = (if c i = 191 then (if dp = 8 then .error i else p_b (p_s c v o f 3 (dp + 1) (i + 1) l acc) (fun i1 l1 D => if c i1 = 193 then .ok (i1 + 1, l1, D) else .error i1)) else if (c i = 50 ∧ v i ≤ 1000) ∨ (p_fw o ≤ c i ∧ c i ≤ p_la o) then (if l = 50 then .error i else if c i = 50 then .ok (i + 1, l + 1, fun _ => some (v i)) else if o = true ∧ (c i = 20 ∨ c i = 21) then (if c (i + 1) = 50 ∧ v (i + 1) ≤ 5 then .ok (i + 2, l + 1, fun E => some (E (p_wn o (c i) (v (i + 1))))) else .error (i + 1)) else .ok (i + 1, l + 1, fun E => some (E (p_wn o (c i) 0)))) else .error i) := rfl
theorem p_s1 {f : Nat} {dp i l : Int} {acc : p_D} : p_s c v o (f + 1) 1 dp i l acc = p_b (p_s c v o f 0 dp i l acc) (fun i1 l1 D => p_s c v o f 2 dp i1 l1 D) := rfl
theorem p_s2 {f : Nat} {dp i l : Int} {acc : p_D} : p_s c v o (f + 1) 2 dp i l acc = if c i = 142 ∨ c i = 147 ∨ c i = 137 then p_b (p_s c v o f 0 dp (i + 1) l acc) (fun i1 l1 D => p_s c v o f 2 dp i1 l1 (p_bin (c i) acc D)) else .ok (i, l, acc) := rfl
theorem p_s3 {f : Nat} {dp i l : Int} {acc : p_D} : p_s c v o (f + 1) 3 dp i l acc = p_b (p_s c v o f 1 dp i l acc) (fun i1 l1 D => p_s c v o f 4 dp i1 l1 D) := rfl
theorem p_s4 {f : Nat} {dp i l : Int} {acc : p_D} : p_s c v o (f + 1) 4 dp i l acc = if c i = 143 ∨ c i = 145 then p_b (p_s c v o f 1 dp (i + 1) l acc) (fun i1 l1 D => p_s c v o f 4 dp i1 l1 (p_bin (c i) acc D)) else .ok (i, l, acc) := rfl
theorem p_t0 {f : Nat} {dp i l : Int} {acc : p_D} {ng : Bool} : p_t c v o (f + 1) 0 dp i l acc ng = (if c i = 7 then p_t c v o f 0 dp (i + 1) l acc (!ng) else if c i = 140 then (if dp = 8 then .error i else p_b (p_t c v o f 3 (dp + 1) (i + 1) l acc false) (fun i1 l1 D => if c i1 = 141 then .ok (i1 + 1, l1, if ng = true then p_not D else D) else .error i1)) else p_b (p_s c v o f 3 dp i l acc) (fun i1 l1 A => if c i1 = 160 ∨ c i1 = 162 ∨ c i1 = 161 then p_b (p_s c v o f 3 dp (i1 + 1) l1 acc) (fun i2 l2 B => .ok (i2, l2, if ng = true then p_not (p_cmp (c i1) A B) else p_cmp (c i1) A B)) else .error i1)) := rfl
theorem p_t1 {f : Nat} {dp i l : Int} {acc : p_D} {ng : Bool} : p_t c v o (f + 1) 1 dp i l acc ng = p_b (p_t c v o f 0 dp i l acc false) (fun i1 l1 D => p_t c v o f 2 dp i1 l1 D false) := rfl
theorem p_t2 {f : Nat} {dp i l : Int} {acc : p_D} {ng : Bool} : p_t c v o (f + 1) 2 dp i l acc ng = if c i = 6 then p_b (p_t c v o f 0 dp (i + 1) l acc false) (fun i1 l1 D => p_t c v o f 2 dp i1 l1 (p_and acc D) false) else .ok (i, l, acc) := rfl
theorem p_t3 {f : Nat} {dp i l : Int} {acc : p_D} {ng : Bool} : p_t c v o (f + 1) 3 dp i l acc ng = p_b (p_t c v o f 1 dp i l acc false) (fun i1 l1 D => p_t c v o f 4 dp i1 l1 D false) := rfl
theorem p_t4 {f : Nat} {dp i l : Int} {acc : p_D} {ng : Bool} : p_t c v o (f + 1) 4 dp i l acc ng = if c i = 5 then p_b (p_t c v o f 1 dp (i + 1) l acc false) (fun i1 l1 D => p_t c v o f 4 dp i1 l1 (p_or acc D) false) else .ok (i, l, acc) := rfl
theorem p_fw8 : 8 ≤ p_fw o := by unfold p_fw; split <;> omega
/-- with fuel enough -/
theorem p_sN (hz : c n = 0) : ∀ (f : Nat) {dp i l : Int} {acc : p_D}, 0 ≤ i → i ≤ n → 0 ≤ l → l ≤ 50 → (1 + 5 * (n - i) ≤ f → p_N n i l true (p_s c v o f 0 dp i l acc)) ∧ (2 + 5 * (n - i) ≤ f → p_N n i l true (p_s c v o f 1 dp i l acc)) ∧ (1 + 5 * (n - i) ≤ f → p_N n i l false (p_s c v o f 2 dp i l acc)) ∧ (3 + 5 * (n - i) ≤ f → p_N n i l true (p_s c v o f 3 dp i l acc)) ∧ (1 + 5 * (n - i) ≤ f → p_N n i l false (p_s c v o f 4 dp i l acc))
  | 0, dp, i, l, acc, h0, hn, hl, hl2 => ⟨fun q => by omega, fun q => by omega, fun q => by omega, fun q => by omega, fun q => by omega⟩
  | f + 1, dp, i, l, acc, h0, hn, hl, hl2 => by
    have hlt : c i ≠ 0 → i < n := fun q => by
      by_cases e : i = n
      · rw [e] at q; exact absurd hz q
      · omega
    refine ⟨fun hf => ?_, fun hf => ?_, fun hf => ?_, fun hf => ?_, fun hf => ?_⟩
    · rw [p_s0]
      by_cases h1 : c i = 191
      · rw [if_pos h1]
        have := hlt (by omega)
        by_cases h2 : dp = 8
        · rw [if_pos h2]; exact ⟨by omega, by omega⟩
        · rw [if_neg h2]
          refine p_Nb (st2 := false) ((p_sN hz f (i := i + 1) (by omega) (by omega) hl hl2).2.2.2.1 (by omega)) (by omega) (by omega) (fun _ => rfl) (fun i1 l1 D _ a b _ _ _ => ?_)
          by_cases h3 : c i1 = 193
          · rw [if_pos h3]
            have : i1 ≠ n := fun e => by rw [e, hz] at h3; omega
            exact ⟨by omega, by omega, by omega, by omega, fun q => by cases q⟩
          · rw [if_neg h3]; exact ⟨by omega, by omega⟩
      · rw [if_neg h1]
        by_cases h2 : (c i = 50 ∧ v i ≤ 1000) ∨ (p_fw o ≤ c i ∧ c i ≤ p_la o)
        · rw [if_pos h2]
          have hin : i < n := hlt (by have := p_fw8 (o := o); omega)
          by_cases h3 : l = 50
          · rw [if_pos h3]; exact ⟨by omega, by omega⟩
          · rw [if_neg h3]
            by_cases h4 : c i = 50
            · rw [if_pos h4]; exact ⟨by omega, by omega, by omega, by omega, fun _ => by omega⟩
            · rw [if_neg h4]
              by_cases h5 : o = true ∧ (c i = 20 ∨ c i = 21)
              · rw [if_pos h5]
                by_cases h6 : c (i + 1) = 50 ∧ v (i + 1) ≤ 5
                · rw [if_pos h6]
                  have : i + 1 ≠ n := fun e => by rw [e, hz] at h6; omega
                  exact ⟨by omega, by omega, by omega, by omega, fun _ => by omega⟩
                · rw [if_neg h6]; exact ⟨by omega, by omega⟩
              · rw [if_neg h5]; exact ⟨by omega, by omega, by omega, by omega, fun _ => by omega⟩
        · rw [if_neg h2]; exact ⟨by omega, by omega⟩
    · rw [p_s1]
      exact p_Nb ((p_sN hz f h0 hn hl hl2).1 (by omega)) (Int.le_refl _) (Int.le_refl _) (fun _ => rfl) (fun i1 l1 D _ a b _ _ g => (p_sN hz f (by omega) (by omega) (by omega) (by omega)).2.2.1 (by have := g rfl; omega))
    · rw [p_s2]
      by_cases h1 : c i = 142 ∨ c i = 147 ∨ c i = 137
      · rw [if_pos h1]
        have := hlt (by omega)
        exact p_Nb ((p_sN hz f (i := i + 1) (by omega) (by omega) hl hl2).1 (by omega)) (by omega) (by omega) (fun q => by cases q) (fun i1 l1 D _ a b _ _ g => (p_sN hz f (by omega) (by omega) (by omega) (by omega)).2.2.1 (by have := g rfl; omega))
      · rw [if_neg h1]; exact ⟨by omega, by omega, by omega, by omega, fun q => by cases q⟩
    · rw [p_s3]
      exact p_Nb ((p_sN hz f h0 hn hl hl2).2.1 (by omega)) (Int.le_refl _) (Int.le_refl _) (fun _ => rfl) (fun i1 l1 D _ a b _ _ g => (p_sN hz f (by omega) (by omega) (by omega) (by omega)).2.2.2.2 (by have := g rfl; omega))
    · rw [p_s4]
      by_cases h1 : c i = 143 ∨ c i = 145
      · rw [if_pos h1]
        have := hlt (by omega)
        exact p_Nb ((p_sN hz f (i := i + 1) (by omega) (by omega) hl hl2).2.1 (by omega)) (by omega) (by omega) (fun q => by cases q) (fun i1 l1 D _ a b _ _ g => (p_sN hz f (by omega) (by omega) (by omega) (by omega)).2.2.2.2 (by have := g rfl; omega))
      · rw [if_neg h1]; exact ⟨by omega, by omega, by omega, by omega, fun q => by cases q⟩
theorem p_tN (hz : c n = 0) : ∀ (f : Nat) {dp i l : Int} {acc : p_D} {ng : Bool}, 0 ≤ i → i ≤ n → 0 ≤ l → l ≤ 50 → (4 + 5 * (n - i) ≤ f → p_N n i l true (p_t c v o f 0 dp i l acc ng)) ∧ (5 + 5 * (n - i) ≤ f → p_N n i l true (p_t c v o f 1 dp i l acc ng)) ∧ (1 + 5 * (n - i) ≤ f → p_N n i l false (p_t c v o f 2 dp i l acc ng)) ∧ (6 + 5 * (n - i) ≤ f → p_N n i l true (p_t c v o f 3 dp i l acc ng)) ∧ (1 + 5 * (n - i) ≤ f → p_N n i l false (p_t c v o f 4 dp i l acc ng))
  | 0, dp, i, l, acc, ng, h0, hn, hl, hl2 => ⟨fun q => by omega, fun q => by omega, fun q => by omega, fun q => by omega, fun q => by omega⟩
  | f + 1, dp, i, l, acc, ng, h0, hn, hl, hl2 => by
    have hlt : c i ≠ 0 → i < n := fun q => by
      by_cases e : i = n
      · rw [e] at q; exact absurd hz q
      · omega
    refine ⟨fun hf => ?_, fun hf => ?_, fun hf => ?_, fun hf => ?_, fun hf => ?_⟩
    · rw [p_t0]
      by_cases h0' : c i = 7
      · rw [if_pos h0']
        have := hlt (by omega)
        have h := (p_tN hz f (dp := dp) (i := i + 1) (l := l) (acc := acc) (ng := !ng) (by omega) (by omega) hl hl2).1 (by omega)
        revert h
        cases p_t c v o f 0 dp (i + 1) l acc (!ng) with
        | error e => intro h; have h : i + 1 ≤ e ∧ e ≤ n := h; show i ≤ e ∧ e ≤ n; omega
        | ok q =>
          obtain ⟨i2, l2, D2⟩ := q
          intro h
          have h : i + 1 ≤ i2 ∧ i2 ≤ n ∧ l ≤ l2 ∧ l2 ≤ 50 ∧ (true = true → i + 1 < i2 ∧ l < l2) := h
          have h2 := h.2.2.2.2 rfl
          exact ⟨by omega, by omega, by omega, by omega, fun _ => by omega⟩
      · rw [if_neg h0']
        by_cases h1 : c i = 140
        · rw [if_pos h1]
          have := hlt (by omega)
          by_cases h2 : dp = 8
          · rw [if_pos h2]; exact ⟨by omega, by omega⟩
          · rw [if_neg h2]
            refine p_Nb (st2 := false) ((p_tN hz f (i := i + 1) (by omega) (by omega) hl hl2).2.2.2.1 (by omega)) (by omega) (by omega) (fun _ => rfl) (fun i1 l1 D _ a b _ _ _ => ?_)
            by_cases h3 : c i1 = 141
            · rw [if_pos h3]
              have : i1 ≠ n := fun e => by rw [e, hz] at h3; omega
              exact ⟨by omega, by omega, by omega, by omega, fun q => by cases q⟩
            · rw [if_neg h3]; exact ⟨by omega, by omega⟩
        · rw [if_neg h1]
          refine p_Nb (st2 := false) ((p_sN hz f h0 hn hl hl2).2.2.2.1 (by omega)) (Int.le_refl _) (Int.le_refl _) (fun _ => rfl) (fun i1 l1 D _ a b _ _ g => ?_)
          have g := g rfl
          by_cases h3 : c i1 = 160 ∨ c i1 = 162 ∨ c i1 = 161
          · rw [if_pos h3]
            have : i1 ≠ n := fun e => by rw [e, hz] at h3; omega
            exact p_Nb (st2 := false) ((p_sN hz f (i := i1 + 1) (by omega) (by omega) (by omega) (by omega)).2.2.2.1 (by omega)) (by omega) (by omega) (fun _ => rfl) (fun i2 l2 D _ a b _ _ g => ⟨by omega, by omega, by omega, by omega, fun q => by cases q⟩)
          · rw [if_neg h3]; exact ⟨by omega, by omega⟩
    · rw [p_t1]
      exact p_Nb ((p_tN hz f h0 hn hl hl2).1 (by omega)) (Int.le_refl _) (Int.le_refl _) (fun _ => rfl) (fun i1 l1 D _ a b _ _ g => (p_tN hz f (by omega) (by omega) (by omega) (by omega)).2.2.1 (by have := g rfl; omega))
    · rw [p_t2]
      by_cases h1 : c i = 6
      · rw [if_pos h1]
        have := hlt (by omega)
        exact p_Nb ((p_tN hz f (i := i + 1) (by omega) (by omega) hl hl2).1 (by omega)) (by omega) (by omega) (fun q => by cases q) (fun i1 l1 D _ a b _ _ g => (p_tN hz f (by omega) (by omega) (by omega) (by omega)).2.2.1 (by have := g rfl; omega))
      · rw [if_neg h1]; exact ⟨by omega, by omega, by omega, by omega, fun q => by cases q⟩
    · rw [p_t3]
      exact p_Nb ((p_tN hz f h0 hn hl hl2).2.1 (by omega)) (Int.le_refl _) (Int.le_refl _) (fun _ => rfl) (fun i1 l1 D _ a b _ _ g => (p_tN hz f (by omega) (by omega) (by omega) (by omega)).2.2.2.2 (by have := g rfl; omega))
    · rw [p_t4]
      by_cases h1 : c i = 5
      · rw [if_pos h1]
        have := hlt (by omega)
        exact p_Nb ((p_tN hz f (i := i + 1) (by omega) (by omega) hl hl2).2.1 (by omega)) (by omega) (by omega) (fun q => by cases q) (fun i1 l1 D _ a b _ _ g => (p_tN hz f (by omega) (by omega) (by omega) (by omega)).2.2.2.2 (by have := g rfl; omega))
      · rw [if_neg h1]; exact ⟨by omega, by omega, by omega, by omega, fun q => by cases q⟩
end PN
/-- a clause: its head, two sums, how often, its test -/
abbrev p_K : Type := Int × p_D × p_D × Int × Option p_D
abbrev p_z : p_D := fun _ => none
section PC
variable (c v : Int → Int) (o : Bool) (n : Int)
def p_ift (h : Int) (A B : p_D) (k i l : Int) : Except Int (Int × Int × p_K) := if c i = 4 then (match p_t c v o 2100 3 0 (i + 1) l p_z false with
  | .error e => .error e
  | .ok (i1, l1, T) => .ok (i1, l1, h, A, B, k, some T)) else .ok (i, l, h, A, B, k, none)
def p_tim (h : Int) (A B : p_D) (i l : Int) : Except Int (Int × Int × p_K) := if c i = 13 then (if c (i + 1) = 50 ∧ 1 ≤ v (i + 1) ∧ v (i + 1) ≤ 20 then p_ift c v o h A B (v (i + 1)) (i + 2) l else .error (i + 1)) else p_ift c v o h A B 1 i l
def p_two (h w i l : Int) : Except Int (Int × Int × p_K) := match p_s c v o 2100 3 0 (i + 1) l p_z with
  | .error e => .error e
  | .ok (i1, l1, A) => if c i1 = w then (match p_s c v o 2100 3 0 (i1 + 1) l1 p_z with
    | .error e => .error e
    | .ok (i2, l2, B) => p_tim c v o h A B i2 l2) else .error i1
def p_one (i l : Int) : Except Int (Int × Int × p_K) := if o = true then (if c i = 20 then p_two c v o 0 22 i l else if c i = 23 then p_two c v o 1 24 i l else if c i = 25 then (match p_s c v o 2100 3 0 (i + 1) l p_z with
    | .error e => .error e
    | .ok (i1, l1, A) => p_tim c v o 2 A p_z i1 l1) else if c i = 26 then p_tim c v o 3 p_z p_z (i + 1) l else .error i)
  else (if c i = 1 ∨ c i = 2 then (match p_s c v o 2100 3 0 (i + 1) l p_z with
    | .error e => .error e
    | .ok (i1, l1, A) => p_ift c v o (c i - 1) A p_z 1 i1 l1) else if c i = 3 then p_ift c v o 2 p_z p_z 1 (i + 1) l else .error i)
/-- the clauses from a place on, where so many were read -/
def p_rest : Nat → Int → Int → Int → List p_K → Except Int (List p_K)
  | 0, _, _, _, _ => .error (-1)
  | f + 1, k, i, l, acc => if c i = 159 then (if k = 12 then .error (i + 1) else match p_one c v o (i + 1) l with
    | .error e => .error e
    | .ok (i1, l1, K) => p_rest f (k + 1) i1 l1 (acc ++ [K])) else if i < n then .error i else .ok acc
def p_all : Except Int (List p_K) := match p_one c v o 0 0 with
  | .error e => .error e
  | .ok (i1, l1, K) => p_rest c v o n 13 1 i1 l1 [K]
end PC
