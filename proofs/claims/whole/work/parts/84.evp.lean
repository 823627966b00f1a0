/-! What the reference's evaluation comes to: pure lemmas. -/
theorem p_bok {r : p_R} {k : Int → Int → p_D → p_R} {z : Int × Int × p_D} (h : p_b r k = .ok z) : ∃ i l D, r = .ok (i, l, D) ∧ k i l D = .ok z := by
  unfold p_b at h
  cases r with
  | error e => cases h
  | ok q => obtain ⟨i, l, D⟩ := q; exact ⟨i, l, D, rfl, h⟩
theorem p_okx {i l i1 l1 : Int} {D D1 : p_D} (h : (Except.ok (i, l, D) : p_R) = .ok (i1, l1, D1)) : i = i1 ∧ l = l1 ∧ D = D1 := by
  injection h with h
  injection h with h1 h2
  injection h2 with h2 h3
  exact ⟨h1, h2, h3⟩
section PI
variable {c v : Int → Int} {o : Bool}
theorem p_s0i {f : Nat} {dp i l i1 l1 : Int} {acc D : p_D} (h : p_s c v o (f + 1) 0 dp i l acc = .ok (i1, l1, D)) : (c i = 191 ∧ dp ≠ 8 ∧ ∃ i2, p_s c v o f 3 (dp + 1) (i + 1) l acc = .ok (i2, l1, D) ∧ c i2 = 193 ∧ i1 = i2 + 1) ∨ (c i = 50 ∧ v i ≤ 1000 ∧ i1 = i + 1 ∧ D = fun _ => some (v i)) ∨ (o = true ∧ (c i = 20 ∨ c i = 21) ∧ c (i + 1) = 50 ∧ v (i + 1) ≤ 5 ∧ i1 = i + 2 ∧ D = fun E => some (E (p_wn o (c i) (v (i + 1))))) ∨ (p_fw o ≤ c i ∧ c i ≤ p_la o ∧ ¬ (o = true ∧ (c i = 20 ∨ c i = 21)) ∧ c i ≠ 191 ∧ c i ≠ 50 ∧ i1 = i + 1 ∧ D = fun E => some (E (p_wn o (c i) 0))) := by
  rw [p_s0] at h
  by_cases q1 : c i = 191
  · rw [if_pos q1] at h
    by_cases q2 : dp = 8
    · rw [if_pos q2] at h; cases h
    rw [if_neg q2] at h
    obtain ⟨i2, l2, D2, e1, e2⟩ := p_bok h
    by_cases q3 : c i2 = 193
    · rw [if_pos q3] at e2
      obtain ⟨a1, a2, a3⟩ := p_okx e2
      exact Or.inl ⟨q1, q2, i2, by rw [e1, a2, a3], q3, a1.symm⟩
    · rw [if_neg q3] at e2; cases e2
  rw [if_neg q1] at h
  by_cases q2 : (c i = 50 ∧ v i ≤ 1000) ∨ (p_fw o ≤ c i ∧ c i ≤ p_la o)
  · rw [if_pos q2] at h
    by_cases q3 : l = 50
    · rw [if_pos q3] at h; cases h
    rw [if_neg q3] at h
    by_cases q4 : c i = 50
    · rw [if_pos q4] at h
      obtain ⟨a1, a2, a3⟩ := p_okx h
      refine Or.inr (Or.inl ⟨q4, ?_, a1.symm, a3.symm⟩)
      rcases q2 with q2 | q2
      · exact q2.2
      · exfalso
        have : p_la o ≤ 21 := by unfold p_la; split <;> omega
        omega
    rw [if_neg q4] at h
    by_cases q5 : o = true ∧ (c i = 20 ∨ c i = 21)
    · rw [if_pos q5] at h
      by_cases q6 : c (i + 1) = 50 ∧ v (i + 1) ≤ 5
      · rw [if_pos q6] at h
        obtain ⟨a1, a2, a3⟩ := p_okx h
        exact Or.inr (Or.inr (Or.inl ⟨q5.1, q5.2, q6.1, q6.2, a1.symm, a3.symm⟩))
      · rw [if_neg q6] at h; cases h
    rw [if_neg q5] at h
    obtain ⟨a1, a2, a3⟩ := p_okx h
    have q7 : p_fw o ≤ c i ∧ c i ≤ p_la o := by
      rcases q2 with q2 | q2
      · exact absurd q2.1 q4
      · exact q2
    exact Or.inr (Or.inr (Or.inr ⟨q7.1, q7.2, q5, q1, q4, a1.symm, a3.symm⟩))
  · rw [if_neg q2] at h; cases h
theorem p_s1i {f : Nat} {dp i l i1 l1 : Int} {acc D : p_D} (h : p_s c v o (f + 1) 1 dp i l acc = .ok (i1, l1, D)) : ∃ i2 l2 D2, p_s c v o f 0 dp i l acc = .ok (i2, l2, D2) ∧ p_s c v o f 2 dp i2 l2 D2 = .ok (i1, l1, D) := by
  rw [p_s1] at h; exact p_bok h
theorem p_s3i {f : Nat} {dp i l i1 l1 : Int} {acc D : p_D} (h : p_s c v o (f + 1) 3 dp i l acc = .ok (i1, l1, D)) : ∃ i2 l2 D2, p_s c v o f 1 dp i l acc = .ok (i2, l2, D2) ∧ p_s c v o f 4 dp i2 l2 D2 = .ok (i1, l1, D) := by
  rw [p_s3] at h; exact p_bok h
theorem p_s2i {f : Nat} {dp i l i1 l1 : Int} {acc D : p_D} (h : p_s c v o (f + 1) 2 dp i l acc = .ok (i1, l1, D)) : ((c i = 142 ∨ c i = 147 ∨ c i = 137) ∧ ∃ i2 l2 D2, p_s c v o f 0 dp (i + 1) l acc = .ok (i2, l2, D2) ∧ p_s c v o f 2 dp i2 l2 (p_bin (c i) acc D2) = .ok (i1, l1, D)) ∨ (¬ (c i = 142 ∨ c i = 147 ∨ c i = 137) ∧ i1 = i ∧ l1 = l ∧ D = acc) := by
  rw [p_s2] at h
  by_cases q : c i = 142 ∨ c i = 147 ∨ c i = 137
  · rw [if_pos q] at h; exact Or.inl ⟨q, p_bok h⟩
  · rw [if_neg q] at h
    obtain ⟨a1, a2, a3⟩ := p_okx h
    exact Or.inr ⟨q, a1.symm, a2.symm, a3.symm⟩
theorem p_s4i {f : Nat} {dp i l i1 l1 : Int} {acc D : p_D} (h : p_s c v o (f + 1) 4 dp i l acc = .ok (i1, l1, D)) : ((c i = 143 ∨ c i = 145) ∧ ∃ i2 l2 D2, p_s c v o f 1 dp (i + 1) l acc = .ok (i2, l2, D2) ∧ p_s c v o f 4 dp i2 l2 (p_bin (c i) acc D2) = .ok (i1, l1, D)) ∨ (¬ (c i = 143 ∨ c i = 145) ∧ i1 = i ∧ l1 = l ∧ D = acc) := by
  rw [p_s4] at h
  by_cases q : c i = 143 ∨ c i = 145
  · rw [if_pos q] at h; exact Or.inl ⟨q, p_bok h⟩
  · rw [if_neg q] at h
    obtain ⟨a1, a2, a3⟩ := p_okx h
    exact Or.inr ⟨q, a1.symm, a2.symm, a3.symm⟩
theorem p_t0i {f : Nat} {dp i l i1 l1 : Int} {acc D : p_D} {ng : Bool} (h : p_t c v o (f + 1) 0 dp i l acc ng = .ok (i1, l1, D)) : (c i = 7 ∧ p_t c v o f 0 dp (i + 1) l acc (!ng) = .ok (i1, l1, D)) ∨ (c i = 140 ∧ dp ≠ 8 ∧ ∃ i2 D2, p_t c v o f 3 (dp + 1) (i + 1) l acc false = .ok (i2, l1, D2) ∧ c i2 = 141 ∧ i1 = i2 + 1 ∧ D = if ng = true then p_not D2 else D2) ∨ (c i ≠ 7 ∧ c i ≠ 140 ∧ ∃ i2 l2 A B, p_s c v o f 3 dp i l acc = .ok (i2, l2, A) ∧ (c i2 = 160 ∨ c i2 = 162 ∨ c i2 = 161) ∧ p_s c v o f 3 dp (i2 + 1) l2 acc = .ok (i1, l1, B) ∧ D = if ng = true then p_not (p_cmp (c i2) A B) else p_cmp (c i2) A B) := by
  rw [p_t0] at h
  by_cases q1 : c i = 7
  · rw [if_pos q1] at h; exact Or.inl ⟨q1, h⟩
  rw [if_neg q1] at h
  by_cases q2 : c i = 140
  · rw [if_pos q2] at h
    by_cases q3 : dp = 8
    · rw [if_pos q3] at h; cases h
    rw [if_neg q3] at h
    obtain ⟨i2, l2, D2, e1, e2⟩ := p_bok h
    by_cases q4 : c i2 = 141
    · rw [if_pos q4] at e2
      obtain ⟨a1, a2, a3⟩ := p_okx e2
      exact Or.inr (Or.inl ⟨q2, q3, i2, D2, by rw [e1, a2], q4, a1.symm, a3.symm⟩)
    · rw [if_neg q4] at e2; cases e2
  rw [if_neg q2] at h
  obtain ⟨i2, l2, A, e1, e2⟩ := p_bok h
  by_cases q4 : c i2 = 160 ∨ c i2 = 162 ∨ c i2 = 161
  · rw [if_pos q4] at e2
    obtain ⟨i3, l3, B, e3, e4⟩ := p_bok e2
    obtain ⟨a1, a2, a3⟩ := p_okx e4
    exact Or.inr (Or.inr ⟨q1, q2, i2, l2, A, B, e1, q4, by rw [e3, a1, a2], a3.symm⟩)
  · rw [if_neg q4] at e2; cases e2
theorem p_t1i {f : Nat} {dp i l i1 l1 : Int} {acc D : p_D} {ng : Bool} (h : p_t c v o (f + 1) 1 dp i l acc ng = .ok (i1, l1, D)) : ∃ i2 l2 D2, p_t c v o f 0 dp i l acc false = .ok (i2, l2, D2) ∧ p_t c v o f 2 dp i2 l2 D2 false = .ok (i1, l1, D) := by
  rw [p_t1] at h; exact p_bok h
theorem p_t3i {f : Nat} {dp i l i1 l1 : Int} {acc D : p_D} {ng : Bool} (h : p_t c v o (f + 1) 3 dp i l acc ng = .ok (i1, l1, D)) : ∃ i2 l2 D2, p_t c v o f 1 dp i l acc false = .ok (i2, l2, D2) ∧ p_t c v o f 4 dp i2 l2 D2 false = .ok (i1, l1, D) := by
  rw [p_t3] at h; exact p_bok h
theorem p_t2i {f : Nat} {dp i l i1 l1 : Int} {acc D : p_D} {ng : Bool} (h : p_t c v o (f + 1) 2 dp i l acc ng = .ok (i1, l1, D)) : (c i = 6 ∧ ∃ i2 l2 D2, p_t c v o f 0 dp (i + 1) l acc false = .ok (i2, l2, D2) ∧ p_t c v o f 2 dp i2 l2 (p_and acc D2) false = .ok (i1, l1, D)) ∨ (c i ≠ 6 ∧ i1 = i ∧ l1 = l ∧ D = acc) := by
  rw [p_t2] at h
  by_cases q : c i = 6
  · rw [if_pos q] at h; exact Or.inl ⟨q, p_bok h⟩
  · rw [if_neg q] at h
    obtain ⟨a1, a2, a3⟩ := p_okx h
    exact Or.inr ⟨q, a1.symm, a2.symm, a3.symm⟩
theorem p_t4i {f : Nat} {dp i l i1 l1 : Int} {acc D : p_D} {ng : Bool} (h : p_t c v o (f + 1) 4 dp i l acc ng = .ok (i1, l1, D)) : (c i = 5 ∧ ∃ i2 l2 D2, p_t c v o f 1 dp (i + 1) l acc false = .ok (i2, l2, D2) ∧ p_t c v o f 4 dp i2 l2 (p_or acc D2) false = .ok (i1, l1, D)) ∨ (c i ≠ 5 ∧ i1 = i ∧ l1 = l ∧ D = acc) := by
  rw [p_t4] at h
  by_cases q : c i = 5
  · rw [if_pos q] at h; exact Or.inl ⟨q, p_bok h⟩
  · rw [if_neg q] at h
    obtain ⟨a1, a2, a3⟩ := p_okx h
    exact Or.inr ⟨q, a1.symm, a2.symm, a3.symm⟩
end PI
/-- a sum's value r and the flag b behind it, begun with the flag b0 -/
def W_s (lv b0 : Int) (A : Option Int) (r b : Int) : Prop := (b = 0 ∨ b = 1) ∧ (-1000000000 ≤ r ∧ r ≤ 1000000000) ∧ ((lv = 1 ∧ b0 = 0 → (∀ x, A = some x → r = x ∧ b = 0) ∧ (A = none → b = 1)) ∧ (¬ (lv = 1 ∧ b0 = 0) → r = 0 ∧ b = b0))
/-- a test's value -/
def T_s (lv b0 : Int) (A : Option Int) (r b : Int) : Prop := (b = 0 ∨ b = 1) ∧ (r = 0 ∨ r = 1) ∧ ((lv = 1 ∧ b0 = 0 → (∀ x, A = some x → r = x ∧ b = 0) ∧ (A = none → b = 1)) ∧ (¬ (lv = 1 ∧ b0 = 0) → b = b0))
/-- what is bounded -/
def b_d (lv t b r2 b2 : Int) : Prop := (lv = 1 ∧ (1000000000 < t ∨ t < -1000000000) ∧ r2 = 0 ∧ b2 = 1) ∨ (¬ (lv = 1 ∧ (1000000000 < t ∨ t < -1000000000)) ∧ b = 1 ∧ r2 = 0 ∧ b2 = 1) ∨ (¬ (lv = 1 ∧ (1000000000 < t ∨ t < -1000000000)) ∧ b = 0 ∧ r2 = t ∧ b2 = 0)
def o_v (o v w : Int) : Int := if o = 143 then v + w else if o = 145 then v - w else if o = 142 then v * w else if o = 147 then v.tdiv w else v.tmod w
theorem W_val {lv b0 r x : Int} (hb : b0 = 0 ∨ b0 = 1) (h1 : lv = 1 ∧ b0 = 0 → r = x) (h0 : ¬ (lv = 1 ∧ b0 = 0) → r = 0) (hx : -1000000000 ≤ x ∧ x ≤ 1000000000) : W_s lv b0 (some x) r b0 := by
  refine ⟨hb, ?_, fun q => ⟨fun y hy => ?_, fun z => by cases z⟩, fun q => ⟨h0 q, rfl⟩⟩
  · by_cases q : lv = 1 ∧ b0 = 0
    · rw [h1 q]; exact hx
    · rw [h0 q]; decide
  · have := Option.some.inj hy
    exact ⟨by rw [h1 q, this], q.2⟩
theorem W_op {lv b0 v b w b1 b1' w' t r2 b2 o : Int} {A D : p_D} {E : Int → Int} (hlv : lv = 0 ∨ lv = 1) (hb0 : b0 = 0 ∨ b0 = 1) (ho : o = 143 ∨ o = 145 ∨ o = 142 ∨ o = 147 ∨ o = 137) (h1 : W_s lv b0 (A E) v b) (h2 : W_s lv b (D E) w b1) (hw : ((o = 143 ∨ o = 145 ∨ o = 142 ∨ w ≠ 0) ∧ b1' = b1 ∧ w' = w) ∨ ((o = 147 ∨ o = 137) ∧ w = 0 ∧ w' = 1 ∧ ((b1 = 1 ∨ lv = 1) ∧ b1' = 1 ∨ b1 = 0 ∧ lv = 0 ∧ b1' = 0))) (ht : t = o_v o v w') (hd : b_d lv t b1' r2 b2) : W_s lv b0 (p_bin o A D E) r2 b2 := by
  obtain ⟨p1, p2, p3, p4⟩ := h1
  obtain ⟨q1, q2, q3, q4⟩ := h2
  have hb2 : b2 = 0 ∨ b2 = 1 := by unfold b_d at hd; omega
  by_cases z : lv = 1 ∧ b0 = 0
  · have hr : -1000000000 ≤ r2 ∧ r2 ≤ 1000000000 := by unfold b_d at hd; omega
    refine ⟨hb2, hr, fun _ => ?_, fun q => absurd z q⟩
    unfold p_bin
    cases hA : A E with
    | none =>
      have e1 := (p3 z).2 hA
      have e2 := q4 (by omega)
      refine ⟨fun x hx => (by cases hx), fun _ => ?_⟩
      unfold b_d at hd; omega
    | some x =>
      obtain ⟨e1, e2⟩ := (p3 z).1 x hA
      cases hD : D E with
      | none =>
        have e3 := (q3 ⟨z.1, e2⟩).2 hD
        refine ⟨fun x hx => (by cases hx), fun _ => ?_⟩
        unfold b_d at hd; omega
      | some y =>
        obtain ⟨e3, e4⟩ := (q3 ⟨z.1, e2⟩).1 y hD
        show (∀ x', p_op o x y = some x' → _) ∧ (p_op o x y = none → _)
        subst e1; subst e3
        have pw : ∀ u, (p_w u = some u ∧ -1000000000 ≤ u ∧ u ≤ 1000000000) ∨ (p_w u = none ∧ ¬ (-1000000000 ≤ u ∧ u ≤ 1000000000)) := fun u => by
          unfold p_w
          by_cases zz : -1000000000 ≤ u ∧ u ≤ 1000000000
          · rw [if_pos zz]; exact Or.inl ⟨rfl, zz⟩
          · rw [if_neg zz]; exact Or.inr ⟨rfl, zz⟩
        have key : (p_op o v w = none ∧ b1' = 1) ∨ (b1' = 0 ∧ p_op o v w = p_w t) := by
          unfold p_op
          unfold o_v at ht
          by_cases o1 : o = 143
          · rw [if_pos o1] at ht ⊢; rcases hw with hw | hw
            · rw [hw.2.2] at ht; rw [ht]; exact Or.inr ⟨by omega, rfl⟩
            · omega
          rw [if_neg o1] at ht ⊢
          by_cases o2 : o = 145
          · rw [if_pos o2] at ht ⊢; rcases hw with hw | hw
            · rw [hw.2.2] at ht; rw [ht]; exact Or.inr ⟨by omega, rfl⟩
            · omega
          rw [if_neg o2] at ht ⊢
          by_cases o3 : o = 142
          · rw [if_pos o3] at ht ⊢; rcases hw with hw | hw
            · rw [hw.2.2] at ht; rw [ht]; exact Or.inr ⟨by omega, rfl⟩
            · omega
          rw [if_neg o3] at ht ⊢
          by_cases w0 : w = 0
          · rw [if_pos w0]; exact Or.inl ⟨rfl, by omega⟩
          rw [if_neg w0]
          have hw : b1' = b1 ∧ w' = w := by omega
          rw [hw.2] at ht
          by_cases o4 : o = 147
          · rw [if_pos o4] at ht ⊢; rw [ht]; exact Or.inr ⟨by omega, rfl⟩
          · rw [if_neg o4] at ht ⊢; rw [ht]; exact Or.inr ⟨by omega, rfl⟩
        unfold b_d at hd
        rcases key with ⟨k1, k2⟩ | ⟨k1, k2⟩
        · rw [k1]; exact ⟨fun x hx => (by cases hx), fun _ => by omega⟩
        · rw [k2]
          rcases pw t with ⟨g1, g2⟩ | ⟨g1, g2⟩
          · rw [g1]; exact ⟨fun x' hx => by have := Option.some.inj hx; omega, fun q => by cases q⟩
          · rw [g1]; exact ⟨fun x' hx => (by cases hx), fun q => by omega⟩
  · obtain ⟨e1, e2⟩ := p4 z
    obtain ⟨e3, e4⟩ := q4 (by omega)
    have e5 : t = 0 := by
      rw [ht, e1]
      unfold o_v
      by_cases o1 : o = 143
      · rw [if_pos o1]; omega
      rw [if_neg o1]
      by_cases o2 : o = 145
      · rw [if_pos o2]; omega
      rw [if_neg o2]
      by_cases o3 : o = 142
      · rw [if_pos o3, Int.zero_mul]
      rw [if_neg o3]
      by_cases o4 : o = 147
      · rw [if_pos o4, Int.zero_tdiv]
      · rw [if_neg o4, Int.zero_tmod]
    have e6 : r2 = 0 ∧ b2 = b0 := by unfold b_d at hd; omega
    exact ⟨hb2, by omega, fun q => absurd q z, fun _ => e6⟩
theorem T_not {lv b0 r b r2 ngI : Int} {ng : Bool} {D : p_D} {E : Int → Int} (h : T_s lv b0 (D E) r b) (hn : ngI = if ng = true then 1 else 0) (h2 : r = ngI ∧ r2 = 0 ∨ r ≠ ngI ∧ r2 = 1) : T_s lv b0 ((if ng = true then p_not D else D) E) r2 b := by
  obtain ⟨p1, p2, p3, p4⟩ := h
  refine ⟨p1, by omega, fun z => ?_, p4⟩
  have p3 := p3 z
  cases ng with
  | false =>
    have hn : ngI = 0 := hn
    show (∀ x, D E = some x → _) ∧ (D E = none → _)
    exact ⟨fun x hx => by have := p3.1 x hx; omega, p3.2⟩
  | true =>
    have hn : ngI = 1 := hn
    show (∀ x, p_not D E = some x → _) ∧ (p_not D E = none → _)
    unfold p_not
    cases hD : D E with
    | none => exact ⟨fun x hx => (by cases hx), fun _ => p3.2 hD⟩
    | some y =>
      refine ⟨fun x hx => ?_, fun q => (by cases q)⟩
      have := Option.some.inj hx
      have := p3.1 y hD
      omega
theorem T_cmp {lv b0 a b1 w b2 r o : Int} {A B : p_D} {E : Int → Int} (h1 : W_s lv b0 (A E) a b1) (h2 : W_s lv b1 (B E) w b2) (hr : r = 0 ∨ r = 1) (hv : lv = 1 → b2 = 0 → r = p_rel o a w) : T_s lv b0 (p_cmp o A B E) r b2 := by
  obtain ⟨p1, p2, p3, p4⟩ := h1
  obtain ⟨q1, q2, q3, q4⟩ := h2
  by_cases z : lv = 1 ∧ b0 = 0
  · refine ⟨q1, hr, fun _ => ?_, fun q => absurd z q⟩
    unfold p_cmp
    cases hA : A E with
    | none =>
      have e1 := (p3 z).2 hA
      have e2 := q4 (by omega)
      exact ⟨fun x hx => (by cases hx), fun _ => by omega⟩
    | some x =>
      obtain ⟨e1, e2⟩ := (p3 z).1 x hA
      cases hB : B E with
      | none => exact ⟨fun x hx => (by cases hx), fun _ => (q3 ⟨z.1, e2⟩).2 hB⟩
      | some y =>
        obtain ⟨e3, e4⟩ := (q3 ⟨z.1, e2⟩).1 y hB
        refine ⟨fun x' hx => ?_, fun q => (by cases q)⟩
        have := Option.some.inj hx
        rw [← this, ← e1, ← e3]
        exact ⟨hv z.1 e4, e4⟩
  · obtain ⟨e1, e2⟩ := p4 z
    obtain ⟨e3, e4⟩ := q4 (by omega)
    exact ⟨q1, hr, fun q => absurd q z, fun _ => by omega⟩
theorem T_and {lv b0 v b lw w b1 r : Int} {A D : p_D} {E : Int → Int} (h1 : T_s lv b0 (A E) v b) (h2 : T_s lw b (D E) w b1) (hl : lv = 1 ∧ v = 1 ∧ lw = 1 ∨ ¬ (lv = 1 ∧ v = 1) ∧ lw = 0) (hr : v = 1 ∧ w = 1 ∧ r = 1 ∨ ¬ (v = 1 ∧ w = 1) ∧ r = 0) : T_s lv b0 (p_and A D E) r b1 := by
  obtain ⟨p1, p2, p3, p4⟩ := h1
  obtain ⟨q1, q2, q3, q4⟩ := h2
  by_cases z : lv = 1 ∧ b0 = 0
  · refine ⟨q1, by omega, fun _ => ?_, fun q => absurd z q⟩
    unfold p_and
    cases hA : A E with
    | none =>
      have e1 := (p3 z).2 hA
      have e2 := q4 (by omega)
      exact ⟨fun x hx => (by cases hx), fun _ => by omega⟩
    | some x =>
      obtain ⟨e1, e2⟩ := (p3 z).1 x hA
      show (∀ y, (if x = 0 then some x else D E) = some y → _) ∧ ((if x = 0 then some x else D E) = none → _)
      by_cases x0 : x = 0
      · rw [if_pos x0]
        have e3 := q4 (by omega)
        exact ⟨fun y hy => by have := Option.some.inj hy; omega, fun q => (by cases q)⟩
      · rw [if_neg x0]
        have e3 := q3 (by omega)
        exact ⟨fun y hy => by have := e3.1 y hy; omega, e3.2⟩
  · have e1 := p4 z
    have e2 := q4 (by omega)
    exact ⟨q1, by omega, fun q => absurd q z, fun _ => by omega⟩
theorem T_or {lv b0 v b lw w b1 r : Int} {A D : p_D} {E : Int → Int} (h1 : T_s lv b0 (A E) v b) (h2 : T_s lw b (D E) w b1) (hl : lv = 1 ∧ v = 0 ∧ lw = 1 ∨ ¬ (lv = 1 ∧ v = 0) ∧ lw = 0) (hr : v = 0 ∧ w = 0 ∧ r = 0 ∨ ¬ (v = 0 ∧ w = 0) ∧ r = 1) : T_s lv b0 (p_or A D E) r b1 := by
  obtain ⟨p1, p2, p3, p4⟩ := h1
  obtain ⟨q1, q2, q3, q4⟩ := h2
  by_cases z : lv = 1 ∧ b0 = 0
  · refine ⟨q1, by omega, fun _ => ?_, fun q => absurd z q⟩
    unfold p_or
    cases hA : A E with
    | none =>
      have e1 := (p3 z).2 hA
      have e2 := q4 (by omega)
      exact ⟨fun x hx => (by cases hx), fun _ => by omega⟩
    | some x =>
      obtain ⟨e1, e2⟩ := (p3 z).1 x hA
      show (∀ y, (if x = 0 then D E else some x) = some y → _) ∧ ((if x = 0 then D E else some x) = none → _)
      by_cases x0 : x = 0
      · rw [if_pos x0]
        have e3 := q3 (by omega)
        exact ⟨fun y hy => by have := e3.1 y hy; omega, e3.2⟩
      · rw [if_neg x0]
        have e3 := q4 (by omega)
        exact ⟨fun y hy => by have := Option.some.inj hy; omega, fun q => (by cases q)⟩
  · have e1 := p4 z
    have e2 := q4 (by omega)
    exact ⟨q1, by omega, fun q => absurd q z, fun _ => by omega⟩
