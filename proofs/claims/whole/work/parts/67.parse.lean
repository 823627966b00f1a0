/-! What a text is: read token by token, with what its sums and tests come to. -/
abbrev p_D : Type := (Int → Int) → Option Int
abbrev p_R : Type := Except Int (Int × Int × p_D)
def p_w (x : Int) : Option Int := if -1000000000 ≤ x ∧ x ≤ 1000000000 then some x else none
def p_op (o x y : Int) : Option Int := if o = 143 then p_w (x + y) else if o = 145 then p_w (x - y) else if o = 142 then p_w (x * y) else if y = 0 then none else if o = 147 then p_w (x.tdiv y) else p_w (x.tmod y)
def p_bin (o : Int) (A B : p_D) : p_D := fun E => match A E, B E with
  | some x, some y => p_op o x y
  | _, _ => none
def p_rel (o x y : Int) : Int := if o = 160 then (if x < y then 1 else 0) else if o = 162 then (if y < x then 1 else 0) else (if x = y then 1 else 0)
def p_cmp (o : Int) (A B : p_D) : p_D := fun E => match A E, B E with
  | some x, some y => some (p_rel o x y)
  | _, _ => none
def p_not (A : p_D) : p_D := fun E => match A E with
  | some x => some (1 - x)
  | none => none
def p_and (A B : p_D) : p_D := fun E => match A E with
  | some x => if x = 0 then some x else B E
  | none => none
def p_or (A B : p_D) : p_D := fun E => match A E with
  | some x => if x = 0 then B E else some x
  | none => none
/-- the number of a law's word -/
def p_lw (c : Int) : Int := if c = 15 then 6 else if c = 14 then 7 else c - 8
def p_fw (o : Bool) : Int := if o = true then 15 else 8
def p_la (o : Bool) : Int := if o = true then 21 else 15
def p_lf (o : Bool) (c v : Int) : Prop := (c = 50 ∧ v ≤ 1000) ∨ (p_fw o ≤ c ∧ c ≤ p_la o)
def p_wn (o : Bool) (c k : Int) : Int := if o = true then (if c = 20 then 5 + k else if c = 21 then 11 + k else c - 15) else p_lw c
section PS
variable (c v : Int → Int) (o : Bool)
/-- 0 a part, 1 a term, 2 the rest of a term, 3 a sum, 4 the rest of a sum -/
def p_s : Nat → Nat → Int → Int → Int → p_D → p_R
  | 0, _, _, _, _, _ => .error (-1)
  | f + 1, md, dp, i, l, acc => match md with
    | 0 =>
      if c i = 191 then (if dp = 8 then .error i else match p_s f 3 (dp + 1) (i + 1) l acc with
        | .error e => .error e
        | .ok (i1, l1, D) => if c i1 = 193 then .ok (i1 + 1, l1, D) else .error i1)
      else if (c i = 50 ∧ v i ≤ 1000) ∨ (p_fw o ≤ c i ∧ c i ≤ p_la o) then (if l = 50 then .error i else
        if c i = 50 then .ok (i + 1, l + 1, fun _ => some (v i))
        else if o = true ∧ (c i = 20 ∨ c i = 21) then (if c (i + 1) = 50 ∧ v (i + 1) ≤ 5 then .ok (i + 2, l + 1, fun E => some (E (p_wn o (c i) (v (i + 1))))) else .error (i + 1))
        else .ok (i + 1, l + 1, fun E => some (E (p_wn o (c i) 0))))
      else .error i
    | 1 => match p_s f 0 dp i l acc with
      | .error e => .error e
      | .ok (i1, l1, D) => p_s f 2 dp i1 l1 D
    | 2 => if c i = 142 ∨ c i = 147 ∨ c i = 137 then (match p_s f 0 dp (i + 1) l acc with
        | .error e => .error e
        | .ok (i1, l1, D) => p_s f 2 dp i1 l1 (p_bin (c i) acc D)) else .ok (i, l, acc)
    | 3 => match p_s f 1 dp i l acc with
      | .error e => .error e
      | .ok (i1, l1, D) => p_s f 4 dp i1 l1 D
    | _ => if c i = 143 ∨ c i = 145 then (match p_s f 1 dp (i + 1) l acc with
        | .error e => .error e
        | .ok (i1, l1, D) => p_s f 4 dp i1 l1 (p_bin (c i) acc D)) else .ok (i, l, acc)
/-- 0 a plain test, 1 a both, 2 the rest of a both, 3 a test, 4 the rest of a test -/
def p_t : Nat → Nat → Int → Int → Int → p_D → Bool → p_R
  | 0, _, _, _, _, _, _ => .error (-1)
  | f + 1, md, dp, i, l, acc, ng => match md with
    | 0 =>
      if c i = 7 then p_t f 0 dp (i + 1) l acc (!ng)
      else if c i = 140 then (if dp = 8 then .error i else match p_t f 3 (dp + 1) (i + 1) l acc false with
        | .error e => .error e
        | .ok (i1, l1, D) => if c i1 = 141 then .ok (i1 + 1, l1, if ng = true then p_not D else D) else .error i1)
      else match p_s c v o f 3 dp i l acc with
        | .error e => .error e
        | .ok (i1, l1, A) => if c i1 = 160 ∨ c i1 = 162 ∨ c i1 = 161 then (match p_s c v o f 3 dp (i1 + 1) l1 acc with
          | .error e => .error e
          | .ok (i2, l2, B) => .ok (i2, l2, if ng = true then p_not (p_cmp (c i1) A B) else p_cmp (c i1) A B)) else .error i1
    | 1 => match p_t f 0 dp i l acc false with
      | .error e => .error e
      | .ok (i1, l1, D) => p_t f 2 dp i1 l1 D false
    | 2 => if c i = 6 then (match p_t f 0 dp (i + 1) l acc false with
        | .error e => .error e
        | .ok (i1, l1, D) => p_t f 2 dp i1 l1 (p_and acc D) false) else .ok (i, l, acc)
    | 3 => match p_t f 1 dp i l acc false with
      | .error e => .error e
      | .ok (i1, l1, D) => p_t f 4 dp i1 l1 D false
    | _ => if c i = 5 then (match p_t f 1 dp (i + 1) l acc false with
        | .error e => .error e
        | .ok (i1, l1, D) => p_t f 4 dp i1 l1 (p_or acc D) false) else .ok (i, l, acc)
end PS
section PSL
variable {c v : Int → Int} {o : Bool} {n : Int}
/-- what a good end tells -/
theorem p_sr (hc : ∀ i, 0 ≤ i → i < n → True) (hz : c n = 0) : ∀ (f md : Nat) {dp i l : Int} {acc : p_D}, 0 ≤ i → i ≤ n → (∀ i', 0 ≤ i' → i' ≤ n → c i' ≠ 0 → i' < n) → 0 ≤ l → l ≤ 50 → match p_s c v o f md dp i l acc with
    | .error e => e = -1 ∨ (i ≤ e ∧ e ≤ n)
    | .ok (i1, l1, _) => (i ≤ i1 ∧ i1 ≤ n) ∧ (l ≤ l1 ∧ l1 ≤ 50) ∧ (md = 0 ∨ md = 1 ∨ md = 3 → i < i1 ∧ l < l1)
  | 0, md, dp, i, l, acc, h0, hn, hq, hl, hl2 => by exact Or.inl rfl
  | f + 1, md, dp, i, l, acc, h0, hn, hq, hl, hl2 => by
    have hlt : c i ≠ 0 → i < n := hq i h0 hn
    match md with
    | 0 =>
      show match (if c i = 191 then (if dp = 8 then Except.error i else match p_s c v o f 3 (dp + 1) (i + 1) l acc with
        | .error e => .error e
        | .ok (i1, l1, D) => if c i1 = 193 then .ok (i1 + 1, l1, D) else .error i1)
      else if (c i = 50 ∧ v i ≤ 1000) ∨ (p_fw o ≤ c i ∧ c i ≤ p_la o) then (if l = 50 then .error i else
        if c i = 50 then .ok (i + 1, l + 1, fun _ => some (v i))
        else if o = true ∧ (c i = 20 ∨ c i = 21) then (if c (i + 1) = 50 ∧ v (i + 1) ≤ 5 then .ok (i + 2, l + 1, fun E => some (E (p_wn o (c i) (v (i + 1))))) else .error (i + 1))
        else .ok (i + 1, l + 1, fun E => some (E (p_wn o (c i) 0))))
      else .error i : p_R) with
        | .error e => e = -1 ∨ (i ≤ e ∧ e ≤ n)
        | .ok (i1, l1, _) => (i ≤ i1 ∧ i1 ≤ n) ∧ (l ≤ l1 ∧ l1 ≤ 50) ∧ (0 = 0 ∨ 0 = 1 ∨ 0 = 3 → i < i1 ∧ l < l1)
      by_cases h1 : c i = 191
      · rw [if_pos h1]
        by_cases h2 : dp = 8
        · rw [if_pos h2]; exact Or.inr ⟨by omega, by omega⟩
        · rw [if_neg h2]
          have := hlt (by omega)
          have ih := p_sr hc hz f 3 (dp := dp + 1) (i := i + 1) (l := l) (acc := acc) (by omega) (by omega) hq hl hl2
          revert ih
          cases p_s c v o f 3 (dp + 1) (i + 1) l acc with
          | error e => intro ih; have ih : e = -1 ∨ (i + 1 ≤ e ∧ e ≤ n) := ih; show e = -1 ∨ (i ≤ e ∧ e ≤ n); omega
          | ok q =>
            obtain ⟨i1, l1, D⟩ := q
            intro ih
            have ih : (i + 1 ≤ i1 ∧ i1 ≤ n) ∧ (l ≤ l1 ∧ l1 ≤ 50) ∧ (3 = 0 ∨ 3 = 1 ∨ 3 = 3 → i + 1 < i1 ∧ l < l1) := ih
            have i3 := ih.2.2 (by omega)
            show match (if c i1 = 193 then Except.ok (i1 + 1, l1, D) else .error i1 : p_R) with
              | .error e => e = -1 ∨ (i ≤ e ∧ e ≤ n)
              | .ok (i1, l1, _) => (i ≤ i1 ∧ i1 ≤ n) ∧ (l ≤ l1 ∧ l1 ≤ 50) ∧ (0 = 0 ∨ 0 = 1 ∨ 0 = 3 → i < i1 ∧ l < l1)
            by_cases h3 : c i1 = 193
            · rw [if_pos h3]
              have := hq i1 (by omega) (by omega) (by omega)
              exact ⟨by omega, by omega, fun _ => by omega⟩
            · rw [if_neg h3]
              show i1 = -1 ∨ (i ≤ i1 ∧ i1 ≤ n); omega
      · rw [if_neg h1]
        by_cases h2 : (c i = 50 ∧ v i ≤ 1000) ∨ (p_fw o ≤ c i ∧ c i ≤ p_la o)
        · rw [if_pos h2]
          have : i < n := hlt (by rcases h2 with h2 | h2; omega; have : 8 ≤ p_fw o := by unfold p_fw; split <;> omega
                                  omega)
          by_cases h3 : l = 50
          · rw [if_pos h3]; show i = -1 ∨ (i ≤ i ∧ i ≤ n); omega
          · rw [if_neg h3]
            by_cases h4 : c i = 50
            · rw [if_pos h4]; exact ⟨by omega, by omega, fun _ => by omega⟩
            · rw [if_neg h4]
              by_cases h5 : o = true ∧ (c i = 20 ∨ c i = 21)
              · rw [if_pos h5]
                by_cases h6 : c (i + 1) = 50 ∧ v (i + 1) ≤ 5
                · rw [if_pos h6]
                  have := hq (i + 1) (by omega) (by omega) (by omega)
                  exact ⟨by omega, by omega, fun _ => by omega⟩
                · rw [if_neg h6]; show i + 1 = -1 ∨ (i ≤ i + 1 ∧ i + 1 ≤ n); omega
              · rw [if_neg h5]; exact ⟨by omega, by omega, fun _ => by omega⟩
        · rw [if_neg h2]; show i = -1 ∨ (i ≤ i ∧ i ≤ n); omega
    | 1 =>
      show match (match p_s c v o f 0 dp i l acc with
        | .error e => Except.error e
        | .ok (i1, l1, D) => p_s c v o f 2 dp i1 l1 D : p_R) with
        | .error e => e = -1 ∨ (i ≤ e ∧ e ≤ n)
        | .ok (i1, l1, _) => (i ≤ i1 ∧ i1 ≤ n) ∧ (l ≤ l1 ∧ l1 ≤ 50) ∧ (1 = 0 ∨ 1 = 1 ∨ 1 = 3 → i < i1 ∧ l < l1)
      have ih := p_sr hc hz f 0 (dp := dp) (i := i) (l := l) (acc := acc) h0 hn hq hl hl2
      revert ih
      cases p_s c v o f 0 dp i l acc with
      | error e => intro ih; exact ih
      | ok q =>
        obtain ⟨i1, l1, D⟩ := q
        intro ih
        have ih : (i ≤ i1 ∧ i1 ≤ n) ∧ (l ≤ l1 ∧ l1 ≤ 50) ∧ (0 = 0 ∨ 0 = 1 ∨ 0 = 3 → i < i1 ∧ l < l1) := ih
        have i3 := ih.2.2 (by omega)
        have ih2 := p_sr hc hz f 2 (dp := dp) (i := i1) (l := l1) (acc := D) (by omega) (by omega) hq (by omega) (by omega)
        show match p_s c v o f 2 dp i1 l1 D with
          | .error e => e = -1 ∨ (i ≤ e ∧ e ≤ n)
          | .ok (i1, l1, _) => (i ≤ i1 ∧ i1 ≤ n) ∧ (l ≤ l1 ∧ l1 ≤ 50) ∧ (1 = 0 ∨ 1 = 1 ∨ 1 = 3 → i < i1 ∧ l < l1)
        revert ih2
        cases p_s c v o f 2 dp i1 l1 D with
        | error e => intro ih2; have ih2 : e = -1 ∨ (i1 ≤ e ∧ e ≤ n) := ih2; show e = -1 ∨ (i ≤ e ∧ e ≤ n); omega
        | ok q =>
          obtain ⟨i2, l2, D2⟩ := q
          intro ih2
          have ih2 : (i1 ≤ i2 ∧ i2 ≤ n) ∧ (l1 ≤ l2 ∧ l2 ≤ 50) ∧ (2 = 0 ∨ 2 = 1 ∨ 2 = 3 → i1 < i2 ∧ l1 < l2) := ih2
          exact ⟨by omega, by omega, fun _ => by omega⟩
    | 2 =>
      show match (if c i = 142 ∨ c i = 147 ∨ c i = 137 then (match p_s c v o f 0 dp (i + 1) l acc with
        | .error e => Except.error e
        | .ok (i1, l1, D) => p_s c v o f 2 dp i1 l1 (p_bin (c i) acc D)) else .ok (i, l, acc) : p_R) with
        | .error e => e = -1 ∨ (i ≤ e ∧ e ≤ n)
        | .ok (i1, l1, _) => (i ≤ i1 ∧ i1 ≤ n) ∧ (l ≤ l1 ∧ l1 ≤ 50) ∧ (2 = 0 ∨ 2 = 1 ∨ 2 = 3 → i < i1 ∧ l < l1)
      by_cases h1 : c i = 142 ∨ c i = 147 ∨ c i = 137
      · rw [if_pos h1]
        have := hlt (by omega)
        have ih := p_sr hc hz f 0 (dp := dp) (i := i + 1) (l := l) (acc := acc) (by omega) (by omega) hq hl hl2
        revert ih
        cases p_s c v o f 0 dp (i + 1) l acc with
        | error e => intro ih; have ih : e = -1 ∨ (i + 1 ≤ e ∧ e ≤ n) := ih; show e = -1 ∨ (i ≤ e ∧ e ≤ n); omega
        | ok q =>
          obtain ⟨i1, l1, D⟩ := q
          intro ih
          have ih : (i + 1 ≤ i1 ∧ i1 ≤ n) ∧ (l ≤ l1 ∧ l1 ≤ 50) ∧ (0 = 0 ∨ 0 = 1 ∨ 0 = 3 → i + 1 < i1 ∧ l < l1) := ih
          have ih2 := p_sr hc hz f 2 (dp := dp) (i := i1) (l := l1) (acc := p_bin (c i) acc D) (by omega) (by omega) hq (by omega) (by omega)
          show match p_s c v o f 2 dp i1 l1 (p_bin (c i) acc D) with
            | .error e => e = -1 ∨ (i ≤ e ∧ e ≤ n)
            | .ok (i1, l1, _) => (i ≤ i1 ∧ i1 ≤ n) ∧ (l ≤ l1 ∧ l1 ≤ 50) ∧ (2 = 0 ∨ 2 = 1 ∨ 2 = 3 → i < i1 ∧ l < l1)
          revert ih2
          cases p_s c v o f 2 dp i1 l1 (p_bin (c i) acc D) with
          | error e => intro ih2; have ih2 : e = -1 ∨ (i1 ≤ e ∧ e ≤ n) := ih2; show e = -1 ∨ (i ≤ e ∧ e ≤ n); omega
          | ok q =>
            obtain ⟨i2, l2, D2⟩ := q
            intro ih2
            have ih2 : (i1 ≤ i2 ∧ i2 ≤ n) ∧ (l1 ≤ l2 ∧ l2 ≤ 50) ∧ (2 = 0 ∨ 2 = 1 ∨ 2 = 3 → i1 < i2 ∧ l1 < l2) := ih2
            exact ⟨by omega, by omega, fun _ => by omega⟩
      · rw [if_neg h1]; exact ⟨by omega, by omega, fun q => by omega⟩
    | 3 =>
      show match (match p_s c v o f 1 dp i l acc with
        | .error e => Except.error e
        | .ok (i1, l1, D) => p_s c v o f 4 dp i1 l1 D : p_R) with
        | .error e => e = -1 ∨ (i ≤ e ∧ e ≤ n)
        | .ok (i1, l1, _) => (i ≤ i1 ∧ i1 ≤ n) ∧ (l ≤ l1 ∧ l1 ≤ 50) ∧ (3 = 0 ∨ 3 = 1 ∨ 3 = 3 → i < i1 ∧ l < l1)
      have ih := p_sr hc hz f 1 (dp := dp) (i := i) (l := l) (acc := acc) h0 hn hq hl hl2
      revert ih
      cases p_s c v o f 1 dp i l acc with
      | error e => intro ih; exact ih
      | ok q =>
        obtain ⟨i1, l1, D⟩ := q
        intro ih
        have ih : (i ≤ i1 ∧ i1 ≤ n) ∧ (l ≤ l1 ∧ l1 ≤ 50) ∧ (1 = 0 ∨ 1 = 1 ∨ 1 = 3 → i < i1 ∧ l < l1) := ih
        have i3 := ih.2.2 (by omega)
        have ih2 := p_sr hc hz f 4 (dp := dp) (i := i1) (l := l1) (acc := D) (by omega) (by omega) hq (by omega) (by omega)
        show match p_s c v o f 4 dp i1 l1 D with
          | .error e => e = -1 ∨ (i ≤ e ∧ e ≤ n)
          | .ok (i1, l1, _) => (i ≤ i1 ∧ i1 ≤ n) ∧ (l ≤ l1 ∧ l1 ≤ 50) ∧ (3 = 0 ∨ 3 = 1 ∨ 3 = 3 → i < i1 ∧ l < l1)
        revert ih2
        cases p_s c v o f 4 dp i1 l1 D with
        | error e => intro ih2; have ih2 : e = -1 ∨ (i1 ≤ e ∧ e ≤ n) := ih2; show e = -1 ∨ (i ≤ e ∧ e ≤ n); omega
        | ok q =>
          obtain ⟨i2, l2, D2⟩ := q
          intro ih2
          have ih2 : (i1 ≤ i2 ∧ i2 ≤ n) ∧ (l1 ≤ l2 ∧ l2 ≤ 50) ∧ (4 = 0 ∨ 4 = 1 ∨ 4 = 3 → i1 < i2 ∧ l1 < l2) := ih2
          exact ⟨by omega, by omega, fun _ => by omega⟩
    | k + 4 =>
      show match (if c i = 143 ∨ c i = 145 then (match p_s c v o f 1 dp (i + 1) l acc with
        | .error e => Except.error e
        | .ok (i1, l1, D) => p_s c v o f 4 dp i1 l1 (p_bin (c i) acc D)) else .ok (i, l, acc) : p_R) with
        | .error e => e = -1 ∨ (i ≤ e ∧ e ≤ n)
        | .ok (i1, l1, _) => (i ≤ i1 ∧ i1 ≤ n) ∧ (l ≤ l1 ∧ l1 ≤ 50) ∧ (k + 4 = 0 ∨ k + 4 = 1 ∨ k + 4 = 3 → i < i1 ∧ l < l1)
      by_cases h1 : c i = 143 ∨ c i = 145
      · rw [if_pos h1]
        have := hlt (by omega)
        have ih := p_sr hc hz f 1 (dp := dp) (i := i + 1) (l := l) (acc := acc) (by omega) (by omega) hq hl hl2
        revert ih
        cases p_s c v o f 1 dp (i + 1) l acc with
        | error e => intro ih; have ih : e = -1 ∨ (i + 1 ≤ e ∧ e ≤ n) := ih; show e = -1 ∨ (i ≤ e ∧ e ≤ n); omega
        | ok q =>
          obtain ⟨i1, l1, D⟩ := q
          intro ih
          have ih : (i + 1 ≤ i1 ∧ i1 ≤ n) ∧ (l ≤ l1 ∧ l1 ≤ 50) ∧ (1 = 0 ∨ 1 = 1 ∨ 1 = 3 → i + 1 < i1 ∧ l < l1) := ih
          have ih2 := p_sr hc hz f 4 (dp := dp) (i := i1) (l := l1) (acc := p_bin (c i) acc D) (by omega) (by omega) hq (by omega) (by omega)
          show match p_s c v o f 4 dp i1 l1 (p_bin (c i) acc D) with
            | .error e => e = -1 ∨ (i ≤ e ∧ e ≤ n)
            | .ok (i1, l1, _) => (i ≤ i1 ∧ i1 ≤ n) ∧ (l ≤ l1 ∧ l1 ≤ 50) ∧ (k + 4 = 0 ∨ k + 4 = 1 ∨ k + 4 = 3 → i < i1 ∧ l < l1)
          revert ih2
          cases p_s c v o f 4 dp i1 l1 (p_bin (c i) acc D) with
          | error e => intro ih2; have ih2 : e = -1 ∨ (i1 ≤ e ∧ e ≤ n) := ih2; show e = -1 ∨ (i ≤ e ∧ e ≤ n); omega
          | ok q =>
            obtain ⟨i2, l2, D2⟩ := q
            intro ih2
            have ih2 : (i1 ≤ i2 ∧ i2 ≤ n) ∧ (l1 ≤ l2 ∧ l2 ≤ 50) ∧ (4 = 0 ∨ 4 = 1 ∨ 4 = 3 → i1 < i2 ∧ l1 < l2) := ih2
            exact ⟨by omega, by omega, fun q => by omega⟩
      · rw [if_neg h1]; exact ⟨by omega, by omega, fun q => by omega⟩
end PSL
